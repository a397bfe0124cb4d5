/-! ===== THE CLASS: one alone lasts as long as among others ===== -/
theorem RW_k {S T : Nat → Int → Int} {w : Nat} {r : Int → Int} (hR : RW S w r) (h : ∀ k : Nat, k < 17 → T (w + k) = S (w + k)) : RW T w r := by
  obtain ⟨c0, cf, cp, cd, cl, cs⟩ := hR
  have o : ∀ k : Nat, k < 17 → T (w + k) = S (w + k) := h
  have o0 : T w = S w := h 0 (by decide)
  refine ⟨by rw [o0]; exact c0, fun f f0 f1 => ?_, fun p p0 p1 => ?_, ?_, ?_, fun j j0 j1 => ?_⟩
  · rw [o 1 (by decide), o 2 (by decide), o 3 (by decide)]; exact cf f f0 f1
  · rw [o 4 (by decide), o 5 (by decide), o 6 (by decide), o 7 (by decide), o 8 (by decide)]; exact cp p p0 p1
  · unfold RWd; rw [o 9 (by decide), o 10 (by decide), o 11 (by decide), o 12 (by decide)]; exact cd
  · unfold RWl; rw [o 13 (by decide), o 14 (by decide)]; exact cl
  · rw [o 15 (by decide)]; exact cs j j0 j1
theorem RW_off {S : Nat → Int → Int} {w : Nat} {r : Int → Int} {p : Int} (hA : AB r) (hR : RW S w r) (h0 : 0 ≤ p) (h1 : p < r 4) : RW (upS S (w + 6) p (-1)) w (putR r (31 + 20 * p + 1) (-1)) := by
  by_cases y : pr r p 1 = -1
  · have e1 : putR r (31 + 20 * p + 1) (-1) = r := by
      funext j
      unfold putR
      by_cases z : j = 31 + 20 * p + 1
      · rw [if_pos z, z]; exact y.symm
      · rw [if_neg z]
    have t := (hR.2.2.1 p h0 h1).2.1
    have e2 : upS S (w + 6) p (-1) = S := by
      funext b j
      rw [upS_at]
      by_cases z : b = w + 6 ∧ j = p
      · rw [if_pos z, z.1, z.2, t]; exact y.symm
      · rw [if_neg z]
    rw [e1, e2]; exact hR
  · exact RW_on hA hR h0 h1 y
/-- the first i people but p are away -/
def alP (r : Int → Int) (p i : Int) : Int → Int := fun j => if (32 ≤ j ∧ j < 32 + 20 * i) ∧ (j - 32) % 20 = 0 ∧ j ≠ 32 + 20 * p then -1 else r j
theorem alP_0 {r : Int → Int} {p : Int} : alP r p 0 = r := by
  funext j
  exact if_neg (by omega)
theorem alP_s {r : Int → Int} {p i : Int} (h0 : 0 ≤ i) (h : i ≠ p) : putR (alP r p i) (31 + 20 * i + 1) (-1) = alP r p (i + 1) := by
  funext j
  unfold putR alP
  by_cases z : j = 31 + 20 * i + 1
  · rw [if_pos z, if_pos (by omega)]
  · rw [if_neg z]
    by_cases y : (32 ≤ j ∧ j < 32 + 20 * i) ∧ (j - 32) % 20 = 0 ∧ j ≠ 32 + 20 * p
    · rw [if_pos y, if_pos (by omega)]
    · rw [if_neg y, if_neg (by omega)]
theorem alP_n {r : Int → Int} {p i : Int} (h : i = p) : alP r p i = alP r p (i + 1) := by
  funext j
  unfold alP
  by_cases y : (32 ≤ j ∧ j < 32 + 20 * i) ∧ (j - 32) % 20 = 0 ∧ j ≠ 32 + 20 * p
  · rw [if_pos y, if_pos (by omega)]
  · rw [if_neg y, if_neg (by omega)]
theorem alP_o {r : Int → Int} {p i j : Int} (hi : i ≤ 6) (h : j < 31 ∨ 151 ≤ j) : alP r p i j = r j := if_neg (by omega)
theorem alP_AB {r : Int → Int} {p : Int} (hA : AB r) : ∀ i : Nat, i ≤ 6 → AB (alP r p i)
  | 0, _ => by rw [show ((0 : Nat) : Int) = 0 from rfl, alP_0]; exact hA
  | i + 1, h => by
    have ih := alP_AB (p := p) hA i (by omega)
    rw [show ((i + 1 : Nat) : Int) = (i : Int) + 1 by omega]
    have e3 : alP r p i 3 = r 3 := alP_o (by omega) (by omega)
    have b3 := hA.2.1.1
    by_cases z : (i : Int) = p
    · rw [← alP_n z]; exact ih
    · rw [← alP_s (by omega) z]
      exact on_AB (by omega) (by omega) (by omega) (by omega) ih
/-- the same for one: but for the other people, the log and the draws -/
def SP (p : Int) (q r : Int → Int) : Prop := (∀ j, j < 11 ∨ (13 ≤ j ∧ j < 31) ∨ (151 ≤ j ∧ j < 175) ∨ 415 ≤ j → q j = r j) ∧ ∀ w, 0 ≤ w → w < 20 → pr q p w = pr r p w
theorem SP_r {p : Int} {r : Int → Int} : SP p r r := ⟨fun _ _ => rfl, fun _ _ _ => rfl⟩
theorem SP_t {p : Int} {q r s : Int → Int} (h : SP p q r) (g : SP p r s) : SP p q s := ⟨fun j hj => (h.1 j hj).trans (g.1 j hj), fun w w0 w1 => (h.2 w w0 w1).trans (g.2 w w0 w1)⟩
theorem SP_y {p : Int} {q r : Int → Int} (h : SP p q r) : SP p r q := ⟨fun j hj => (h.1 j hj).symm, fun w w0 w1 => (h.2 w w0 w1).symm⟩
theorem SP_al {p i : Int} {r : Int → Int} (hi : i ≤ 6) : SP p (alP r p i) r := ⟨fun j hj => alP_o hi (by omega), fun w w0 w1 => if_neg (by omega)⟩
theorem SP_wh {p : Int} {q r : Int → Int} (h : SP p q r) (hs : pr r p 0 ≤ 6) : wholeM (pr q) p (pr q p 0) ↔ wholeM (pr r) p (pr r p 0) := by
  unfold wholeM
  rw [h.2 0 (by omega) (by omega), h.2 1 (by omega) (by omega)]
  constructor
  · intro g
    refine ⟨g.1, fun k k0 k1 => ?_⟩
    have := g.2 k k0 k1
    rw [h.2 (14 + k) (by omega) (by omega), h.2 (8 + k) (by omega) (by omega), h.2 (2 + k) (by omega) (by omega)] at this
    exact this
  · intro g
    refine ⟨g.1, fun k k0 k1 => ?_⟩
    rw [h.2 (14 + k) (by omega) (by omega), h.2 (8 + k) (by omega) (by omega), h.2 (2 + k) (by omega) (by omega)]
    exact g.2 k k0 k1
theorem SP_k {p k n b : Int} {q : Int → Int} (p0 : 0 ≤ p) (p1 : p < 6) (k0 : 0 ≤ k) (k1 : k < 6) (hk : k ≠ p) (hc : pr q k 0 ≤ 6) : SP p (sinkR q k n b) q := by
  unfold sinkR
  split
  · exact ⟨fun j hj => sinkP_o k0 k1 hc (by omega), fun w w0 w1 => by rw [sinkP_p hc w0 w1, if_neg (by omega)]⟩
  · refine ⟨fun j hj => ?_, fun w w0 w1 => ?_⟩
    · rw [leavesR_o k0 k1 (by omega), logsR_o (by omega) (by omega), sinkP_o k0 k1 hc (by omega)]
    · rw [leavesR_p w0 w1, if_neg (by omega), if_neg (by omega), logsR_p p0 p1 w0 w1, sinkP_p hc w0 w1, if_neg (by omega)]
theorem SP_p {p n b : Int} {q r : Int → Int} (p0 : 0 ≤ p) (p1 : p < 6) (h : SP p q r) (hc : pr r p 0 ≤ 6) : SP p (sinkR q p n b) (sinkR r p n b) := by
  have hc2 : pr q p 0 ≤ 6 := by rw [h.2 0 (by omega) (by omega)]; exact hc
  have hs : SP p (sinkP q p n b (pr q p 0)) (sinkP r p n b (pr r p 0)) := by
    refine ⟨fun j hj => ?_, fun w w0 w1 => ?_⟩
    · rw [sinkP_o p0 p1 hc2 (by omega), sinkP_o p0 p1 hc (by omega)]; exact h.1 j hj
    · rw [sinkP_p hc2 w0 w1, sinkP_p hc w0 w1, h.2 0 (by omega) (by omega), h.2 w w0 w1]
  have hl : leftM (pr (sinkP q p n b (pr q p 0))) p (pr q p 0) = leftM (pr (sinkP r p n b (pr r p 0))) p (pr r p 0) := by
    rw [h.2 0 (by omega) (by omega)]
    have := leftM_c (k := p) (n := pr r p 0) hs.2 hc
    rw [h.2 0 (by omega) (by omega)] at this
    exact this
  unfold sinkR
  rw [hl]
  split
  · exact hs
  · refine ⟨fun j hj => ?_, fun w w0 w1 => ?_⟩
    · rw [leavesR_o p0 p1 (by omega), logsR_o (by omega) (by omega), leavesR_o p0 p1 (by omega), logsR_o (by omega) (by omega)]
      exact hs.1 j hj
    · rw [leavesR_p w0 w1, leavesR_p w0 w1, logsR_p p0 p1 w0 w1, logsR_p p0 p1 w0 w1, hs.2 w w0 w1]
theorem SP_snk {p : Int} {n n2 b b2 : (Int → Int) → Int → Int} {q r : Int → Int} (p0 : 0 ≤ p) (p1 : p < 6) (hq : AB q) (hr : AB r) (hn : ∀ q k, 0 ≤ n q k) (hn2 : ∀ q k, 0 ≤ n2 q k) (h : SP p q r) (he : ∀ x y, SP p x y → AB y → pr y p 1 ≠ -1 → n x p = n2 y p ∧ b x p = b2 y p) : ∀ k : Nat, k ≤ 6 → SP p (snkN n b q k) (snkN n2 b2 r k)
  | 0, _ => h
  | k + 1, hk => by
    have ih := SP_snk (b := b) (b2 := b2) p0 p1 hq hr hn hn2 h he k (by omega)
    have xq := snkN_P6 (b := b) hq hn (k := k) (by omega) k (by omega) (by omega)
    have xr := snkN_P6 (b := b2) hr hn2 (k := k) (by omega) k (by omega) (by omega)
    have g := he _ _ ih (snkN_AB (b := b2) hr hn2 k (by omega))
    show SP p (if pr (snkN n b q k) k 1 = -1 then snkN n b q k else sinkR (snkN n b q k) k (n (snkN n b q k) k) (b (snkN n b q k) k)) (if pr (snkN n2 b2 r k) k 1 = -1 then snkN n2 b2 r k else sinkR (snkN n2 b2 r k) k (n2 (snkN n2 b2 r k) k) (b2 (snkN n2 b2 r k) k))
    by_cases z : (k : Int) = p
    · rw [z, ih.2 1 (by omega) (by omega)]
      by_cases z2 : pr (snkN n2 b2 r k) p 1 = -1
      · rw [if_pos z2, if_pos z2]; exact ih
      · rw [if_neg z2, if_neg z2, (g z2).1, (g z2).2]
        exact SP_p p0 p1 ih (by rw [← z]; exact xr.2)
    · have s1 : SP p (if pr (snkN n b q k) k 1 = -1 then snkN n b q k else sinkR (snkN n b q k) k (n (snkN n b q k) k) (b (snkN n b q k) k)) (snkN n b q k) := by
        split
        · exact SP_r
        · exact SP_k p0 p1 (by omega) (by omega) z xq.2
      have s2 : SP p (if pr (snkN n2 b2 r k) k 1 = -1 then snkN n2 b2 r k else sinkR (snkN n2 b2 r k) k (n2 (snkN n2 b2 r k) k) (b2 (snkN n2 b2 r k) k)) (snkN n2 b2 r k) := by
        split
        · exact SP_r
        · exact SP_k p0 p1 (by omega) (by omega) z xr.2
      exact SP_t s1 (SP_t ih (SP_y s2))
theorem SP_sn {p : Int} {q r : Int → Int} (h : SP p q r) (p0 : 0 ≤ p) {i : Int} (hi : i ≤ 6) : SP p (snwP thV q i) (snwP thV r i) := by
  refine ⟨fun j hj => ?_, fun w w0 w1 => ?_⟩
  · unfold snwP
    by_cases c : 14 ≤ j ∧ j < 13 + 3 * i ∧ (j - 14) % 3 = 0
    · rw [if_pos c, if_pos c]
      unfold thV
      rw [h.1 j hj, h.1 (j - 1) (by omega)]
    · rw [if_neg c, if_neg c]; exact h.1 j hj
  · have e1 : pr (snwP thV q i) p w = pr q p w := snwP_o (j := 31 + 20 * p + w) hi (by omega)
    have e2 : pr (snwP thV r i) p w = pr r p w := snwP_o (j := 31 + 20 * p + w) hi (by omega)
    rw [e1, e2]; exact h.2 w w0 w1
theorem SP_mlt {p f : Int} {q r : Int → Int} (h : SP p q r) (hf : 0 ≤ f ∧ f < 6) (hA : AB r) (p0 : 0 ≤ p) (p1 : p < 6) : mltR evL q p f = mltR evL r p f := mltR_c h.1 h.2 hf ((hA.2.2.1 p p0 p1).1.2) hA.2.1.2.2.1.2
theorem SP_dpt {p f : Int} {q r : Int → Int} (h : SP p q r) (hf : 0 ≤ f ∧ f < 6) (hA : AB r) (p0 : 0 ≤ p) (p1 : p < 6) : dptR evL q p f = dptR evL r p f := by
  unfold dptR
  rw [fcR_c h.1 h.2 hf ((hA.2.2.1 p p0 p1).1.2) hA.2.1.2.2.1.2, lawD_eq (r := r) (q := q) (fun j hj => h.1 j (by omega))]
theorem SP_pass {p : Int} {q r : Int → Int} (p0 : 0 ≤ p) (p1 : p < 6) (hq : AB q) (hr : AB r) (h : SP p q r) : SP p (passR evL 0 q) (passR evL 0 r) := by
  have e3 := h.1 3 (by omega)
  have e4 := h.1 4 (by omega)
  have b3 := hr.2.1.1
  have b4 := hr.2.1.2.1
  rw [pass0, pass0]
  have s1 := SP_sn h p0 (i := r 3) b3.2
  have t : SP p (thawsR evL q) (thawsR evL r) := by
    unfold thawsR
    rw [e3, e4]
    have aq : AB (snwP thV q (r 3)) := by rw [← e3]; exact thV_AB hq
    refine SP_snk p0 p1 aq (thV_AB hr) (fun _ _ => mlF_0) (fun _ _ => mlF_0) s1 (fun x y hx hy hon => ⟨?_, ?_⟩) _ (by omega)
    · show mlF evL q p = mlF evL r p
      unfold mlF
      rw [h.2 1 (by omega) (by omega)]
      by_cases z : pr r p 1 = -1
      · rw [if_pos z, if_pos z]
      · rw [if_neg z, if_neg z]
        have b := (hr.2.2.1 p p0 p1).2.1
        exact SP_mlt h (by omega) hr p0 p1
    · show bareF x p = bareF y p
      unfold bareF
      have z := hy.2.2.1 p p0 p1
      rw [hx.2 1 (by omega) (by omega), show fr x (pr y p 1) 1 = fr y (pr y p 1) 1 from hx.1 _ (by omega)]
  refine ⟨fun j hj => ?_, fun w w0 w1 => ?_⟩
  · show (if j = 10 then (if 9999 < thawsR evL q 10 + 1 then 9999 else thawsR evL q 10 + 1) else thawsR evL q j) = if j = 10 then (if 9999 < thawsR evL r 10 + 1 then 9999 else thawsR evL r 10 + 1) else thawsR evL r j
    rw [t.1 10 (by omega), t.1 j hj]
  · have e1 : pr (st4 (thawsR evL q)) p w = pr (thawsR evL q) p w := if_neg (by omega)
    have e2 : pr (st4 (thawsR evL r)) p w = pr (thawsR evL r) p w := if_neg (by omega)
    rw [e1, e2]; exact t.2 w w0 w1
theorem SP_go {p : Int} {q r : Int → Int} (p0 : 0 ≤ p) (p1 : p < 6) (hq : AB q) (hr : AB r) (h : SP p q r) : ∀ k : Nat, SP p (goN evL 0 q k) (goN evL 0 r k)
  | 0 => h
  | k + 1 => SP_pass p0 p1 (goN_AB hq k).1 (goN_AB hr k).1 (SP_go p0 p1 hq hr h k)
theorem go_wh {p : Int} {q r : Int → Int} (p0 : 0 ≤ p) (p1 : p < 6) (hq : AB q) (hr : AB r) (h : SP p q r) (k : Nat) : wholeM (pr (goN evL 0 q k)) p (pr (goN evL 0 q k) p 0) ↔ wholeM (pr (goN evL 0 r k)) p (pr (goN evL 0 r k) p 0) := SP_wh (SP_go p0 p1 hq hr h k) ((goN_AB hr k).1.2.2.1 p p0 p1).1.2
theorem isLst_SP {p n : Int} {q r : Int → Int} (p0 : 0 ≤ p) (p1 : p < 6) (hq : AB q) (hr : AB r) (h : SP p q r) (g : isLst evL q p n) : isLst evL r p n :=
  ⟨g.1, fun k k0 k1 => (go_wh p0 p1 hq hr h _).mp (g.2.1 k k0 k1), g.2.2.elim Or.inl (fun z => Or.inr (fun y => z ((go_wh p0 p1 hq hr h _).mpr y)))⟩
theorem pass0_o {r : Int → Int} (hA : AB r) {j : Int} (hj : j < 10) : passR evL 0 r j = r j ∨ (14 ≤ j ∧ j < 31) := by
  left
  rw [pass0]
  have b3 := hA.2.1.1
  have b4 := hA.2.1.2.1
  have e : st4 (thawsR evL r) j = thawsR evL r j := if_neg (by omega)
  rw [e]
  unfold thawsR
  rw [snkN_o (thV_AB hA) (fun _ _ => mlF_0) (by omega) (by omega) _ (by omega), snwP_o b3.2 (by omega)]
theorem goN_o {r : Int → Int} (hA : AB r) {j : Int} (hj : j < 10) : ∀ k : Nat, goN evL 0 r k j = r j
  | 0 => rfl
  | k + 1 => by
    have h := pass0_o (goN_AB (ev := evL) (w := 0) hA k).1 hj
    rcases h with h | h
    · exact h.trans (goN_o hA hj k)
    · omega
theorem goN_4 {r : Int → Int} (hA : AB r) (k : Nat) : goN evL 0 r k 4 = r 4 := goN_o hA (by decide) k
theorem st2_1 {q : Int → Int} : st2 1 q = if drawV q % 100 < q 8 ∧ onS q ≠ 0 then haresR (drawR q) else drawR q := if_neg (by decide)
theorem st3_1 {q : Int → Int} : st3 1 q = if drawV q % 100 < q 9 then blowsR (drawR q) else drawR q := if_neg (by decide)
theorem dpt_rg {r : Int → Int} {p f : Int} : 0 ≤ dptR evL r p f ∧ dptR evL r p f ≤ 9 := by
  have t := tot_rg (k := 2) (fc := fcR r p f) (D := lawD r)
  rw [dpt_v]
  split <;> omega
/-- the same but for the World of Lasting and the facts of v -/
def EFr (S T : Nat → Int → Int) (v : Nat) : Prop := ∀ a, a < 71 ∨ 88 ≤ a → a ≠ v + 16 → T a = S a
theorem EFr_r {S : Nat → Int → Int} {v : Nat} : EFr S S v := fun _ _ _ => rfl
theorem EFr_t {S T U : Nat → Int → Int} {v : Nat} (h : EFr S T v) (g : EFr T U v) : EFr S U v := fun a ha hb => (g a ha hb).trans (h a ha hb)
theorem EFr_W {S T : Nat → Int → Int} {v : Nat} (h : EW S T 71) : EFr S T v := fun a ha _ => h a (by omega)
theorem EFr_F {S T : Nat → Int → Int} {v : Nat} (h : FT S T v) : EFr S T v := fun a _ hb => h a hb
theorem EFr_R {S T : Nat → Int → Int} {v : Nat} {r : Int → Int} (hv : isW v) (hd : v ≠ 71) (hR : RW S v r) (h : EFr S T v) : RW T v r := by
  have o : ∀ k : Nat, k < 16 → T (v + k) = S (v + k) := fun k hk => h _ (by unfold isW at hv; omega) (by omega)
  obtain ⟨c0, cf, cp, cd, cl, cs⟩ := hR
  have o0 : T v = S v := o 0 (by decide)
  refine ⟨by rw [o0]; exact c0, fun f f0 f1 => ?_, fun p p0 p1 => ?_, ?_, ?_, fun j j0 j1 => ?_⟩
  · rw [o 1 (by decide), o 2 (by decide), o 3 (by decide)]; exact cf f f0 f1
  · rw [o 4 (by decide), o 5 (by decide), o 6 (by decide), o 7 (by decide), o 8 (by decide)]; exact cp p p0 p1
  · unfold RWd; rw [o 9 (by decide), o 10 (by decide), o 11 (by decide), o 12 (by decide)]; exact cd
  · unfold RWl; rw [o 13 (by decide), o 14 (by decide)]; exact cl
  · rw [o 15 (by decide)]; exact cs j j0 j1
theorem EFr_0 {S T : Nat → Int → Int} {v : Nat} (hv : isW v) (hd : v ≠ 71) (h : EFr S T v) : T v = S v := h _ (by unfold isW at hv; omega) (by omega)
theorem dis71 {v : Nat} (hv : isW v) (hd : v ≠ 71) : disW 71 v := by
  unfold isW at hv
  unfold disW
  omega
theorem alP_law {r : Int → Int} {p i : Int} (hi : i ≤ 6) : lawD (alP r p i) = lawD r := lawD_eq (fun j hj => alP_o hi (by omega))
theorem wrtP_law {r : Int → Int} {p f n i : Int} (h0 : 0 ≤ p) (h1 : p < 6) (i1 : i ≤ 6) : lawD (wrtP r p f n i) = lawD r := lawD_eq (fun j hj => wrtP_o h0 h1 i1 (by omega))
theorem SP_wrt {p f n i : Int} {q r : Int → Int} (h : SP p q r) (h0 : 0 ≤ p) (h1 : p < 6) (i0 : 0 ≤ i) (i1 : i ≤ 6) : SP p (wrtP q p f n i) (wrtP r p f n i) := by
  refine ⟨fun j hj => ?_, fun w w0 w1 => ?_⟩
  · rw [wrtP_o h0 h1 i1 (by omega), wrtP_o h0 h1 i1 (by omega)]; exact h.1 j hj
  · rw [wrtP_q i1 w0 w1, wrtP_q i1 w0 w1, h.2 w w0 w1]
    by_cases z : p = p ∧ 8 ≤ w ∧ w < 8 + i
    · rw [h.2 (w - 6) (by omega) (by omega)]
    · rw [if_neg z, if_neg z]
theorem lst_rg {r : Int → Int} {p n : Int} (h : isLst evL r p n) : 0 ≤ n ∧ n ≤ 61 := h.1
section Last1
variable {tb : Tab} {d : Nat} {m : AM} {K : Out → AM → Prop} {S : Nat → Int → Int} {w : Nat} {r : Int → Int}
theorem isW_71 : isW 71 := by unfold isW; omega
theorem k1_0 : pg.1 1 0 = [.aload 0, .invokeinterface 5 1, .aload 0, .invokeinterface 8 1, .aload 0, .invokeinterface 3 1, .return_] := rfl
theorem a1_0 {tb : Tab} {d : Nat} {K : Out → AM → Prop} {ls st : List AV} {m : AM} : At tb d 1 K 0 ls st m = wpB tb (pg.2.1 1) (Runs tb pg d) K (At tb d 1 K) [.aload 0, .invokeinterface 5 1, .aload 0, .invokeinterface 8 1, .aload 0, .invokeinterface 3 1, .return_] ls st m := At.eq k1_0
theorem w_1 (hw : isW w) (hR : RW S w r) (hA : AB r) (hlo : LWo m (S w 15) (lawD r)) (hK : ∀ T m1, RW T w (passR evL 0 r) → EW S T w → T w 15 = S w 15 → MS m m1 → K (.inl none) (X T m1)) : Runs tb pg (d + 5) 1 [vr w] (X S m) K := by
  refine Runs.of (al := [vr w]) (n := 0) trivial rfl rfl trivial ?_
  have b3 := hA.2.1.1
  have b4 := hA.2.1.2.1
  have b5 := hA.2.1.2.2.1
  have e0 := hR.1.1
  have e4 := hR.1.2.1
  have eA := sn_lg hA
  have aA := th_row hA
  have eL := thaws_lg hA
  repeat' (first | omega | (exact hK _ _ (by rw [pass0]; exact x3) (EW_t E1 (EW_t E2 E3)) (l3.trans (l2.trans l1)) M1) | simp only [w_aload, w_call, w_return, a1_0, R32, List.getElem?_cons_zero, List.getElem?_cons_succ, List.set_cons_zero, List.set_cons_succ, List.cons_append, List.nil_append, List.replicate_succ, List.replicate_zero, List.take_succ_cons, List.take_zero, List.drop_succ_cons, List.drop_zero, List.reverse_cons, List.reverse_nil, List.length_cons, List.length_nil, Option.toList, true_and, and_true, eq_self, ↓reduceIte, not_true_eq_false, not_false_eq_true, true_or, or_true, hw] | with_reducible refine w_5 hw hR hA hlo (fun T1 m1 x1 E1 l1 M1 => ?_) | (rw [eA] at x1; (with_reducible refine w_8 hw x1 aA.1 (fun T2 x2 E2 l2 => ?_)); rw [aA.2, eL] at x2) | with_reducible refine w_3 hw x2 (thawsR_AB hA) (fun T3 x3 E3 l3 => ?_) | with_reducible refine And.intro ?_ ?_ | with_reducible intro _)
  all_goals (try (first | omega | (exfalso; assumption) | skip))
theorem k27_0 : pg.1 27 0 = [.bipush 0, .istore 2, .jsr 2] := rfl
theorem a27_0 {tb : Tab} {d : Nat} {K : Out → AM → Prop} {ls st : List AV} {m : AM} : At tb d 27 K 0 ls st m = wpB tb (pg.2.1 27) (Runs tb pg d) K (At tb d 27 K) [.bipush 0, .istore 2, .jsr 2] ls st m := At.eq k27_0
theorem k27_2 : pg.1 27 2 = [.iload 2, .bipush 60, .if_icmp .gt 34, .aload 0, .getfield 100, .iload 1, .invokeinterface 118 2, .ifCond .ne 21, .iload 2, .ireturn] := rfl
theorem a27_2 {tb : Tab} {d : Nat} {K : Out → AM → Prop} {ls st : List AV} {m : AM} : At tb d 27 K 2 ls st m = wpB tb (pg.2.1 27) (Runs tb pg d) K (At tb d 27 K) [.iload 2, .bipush 60, .if_icmp .gt 34, .aload 0, .getfield 100, .iload 1, .invokeinterface 118 2, .ifCond .ne 21, .iload 2, .ireturn] ls st m := At.eq k27_2
theorem k27_21 : pg.1 27 21 = [.aload 0, .getfield 100, .invokeinterface 1 1, .iinc 2 1, .goto 2] := rfl
theorem a27_21 {tb : Tab} {d : Nat} {K : Out → AM → Prop} {ls st : List AV} {m : AM} : At tb d 27 K 21 ls st m = wpB tb (pg.2.1 27) (Runs tb pg d) K (At tb d 27 K) [.aload 0, .getfield 100, .invokeinterface 1 1, .iinc 2 1, .goto 2] ls st m := At.eq k27_21
theorem k27_34 : pg.1 27 34 = [.bipush (-1), .ireturn] := rfl
theorem a27_34 {tb : Tab} {d : Nat} {K : Out → AM → Prop} {ls st : List AV} {m : AM} : At tb d 27 K 34 ls st m = wpB tb (pg.2.1 27) (Runs tb pg d) K (At tb d 27 K) [.bipush (-1), .ireturn] ls st m := At.eq k27_34
theorem w_27 {p : Int} (hR : RW S 71 r) (hA : AB r) (hlo : LWo m (S 71 15) (lawD r)) (hp : 0 ≤ p ∧ p < r 4) (hK : ∀ T m1 v n, isLst evL r p n → v = (if 60 < n then -1 else n) → EW S T 71 → T 71 15 = S 71 15 → MS m m1 → K (.inl (some (vi v))) (X T m1)) : Runs tb pg (d + 6) 27 [vr 70, vi p] (X S m) K := by
  have hw := isW_71
  have hgo : ∀ k : Nat, AB (goN evL 0 r k) ∧ LQ r (goN evL 0 r k) := goN_AB hA
  have hL2 : (fun i : Int => ∀ (m1 : AM) (T : Nat → Int → Int), (allW evL r p i) → (RW T 71 (goN evL 0 r i.toNat)) → (EW S T 71) → (T 71 15 = S 71 15) → (MS m m1) → At tb (d + 5) 27 K 2 [vr 70, vi p, vi i] [] (X T m1)) 0 := by
    refine loopZ (fun i : Int => ∀ (m1 : AM) (T : Nat → Int → Int), (allW evL r p i) → (RW T 71 (goN evL 0 r i.toNat)) → (EW S T 71) → (T 71 15 = S 71 15) → (MS m m1) → At tb (d + 5) 27 K 2 [vr 70, vi p, vi i] [] (X T m1)) (61) (by omega) ?_ ?_
    · intro i h0 h1 h9 m1 T hW hT hE hl hM
      obtain ⟨g1, g2⟩ := hgo i.toNat
      have g4 : goN evL 0 r i.toNat 4 = r 4 := goN_4 hA i.toNat
      have hpi : 0 ≤ p ∧ p < goN evL 0 r i.toNat 4 := by omega
      have hlw : LWo m1 (T 71 15) (lawD (goN evL 0 r i.toNat)) := by rw [hl, lawD_LQ g2]; exact LWo_s hM hlo
      have gs := goN_s (ev := evL) (w := 0) (r := r) h0
      rw [a27_2]
      repeat' (first | omega | with_reducible refine h9 _ _ ?_ ?_ ?_ ?_ ?_ | (refine hK _ _ _ i ?_ ?_ hE hl hM) | simp only [w_iconst, w_istore, w_fall, Int.reduceToNat, w_iload, w_ifc, cI, w_aload, x_g100_70, w_call, w_if, w_ireturn, w_iinc, lgB, Nat.reduceSub, w_goto, a27_0, a27_21, a27_34, R32, List.getElem?_cons_zero, List.getElem?_cons_succ, List.set_cons_zero, List.set_cons_succ, List.cons_append, List.nil_append, List.replicate_succ, List.replicate_zero, List.take_succ_cons, List.take_zero, List.drop_succ_cons, List.drop_zero, List.reverse_cons, List.reverse_nil, List.length_cons, List.length_nil, Option.toList, true_and, and_true, eq_self, ↓reduceIte, not_true_eq_false, not_false_eq_true, true_or, or_true, hw] | ((with_reducible refine w_118 hw hT g1 hpi (fun v1 x1 => ?_)); have gy1 := yn_b x1) | with_reducible refine w_1 hw hT g1 hlw (fun T2 m2 x2 E2 l2 M2 => ?_) | with_reducible refine And.intro ?_ ?_ | with_reducible intro _)
      all_goals (try (first | omega | contradiction | (exact ⟨by omega, hW, Or.inr (fun y => by rcases x1 with ⟨xa, xb⟩ | ⟨xa, xb⟩; omega; exact xb y)⟩) | (rw [if_neg (by omega)]) | (rw [gs]; exact x2) | exact EW_t hE E2 | exact l2.trans hl | exact MS_t hM M2 | (intro k k0 k1; by_cases y : k = i; (subst y; rcases x1 with ⟨xa, xb⟩ | ⟨xa, xb⟩; exact xb; omega); exact hW k k0 (by omega))))
    · intro m1 T hW hT hE hl hM
      rw [a27_2]
      repeat' (first | omega | (refine hK _ _ _ 61 ⟨by omega, hW, Or.inl rfl⟩ ?_ hE hl hM) | simp only [w_iconst, w_istore, w_fall, Int.reduceToNat, w_iload, w_ifc, cI, w_aload, x_g100_70, w_call, w_if, w_ireturn, w_iinc, lgB, Nat.reduceSub, w_goto, a27_0, a27_21, a27_34, R32, List.getElem?_cons_zero, List.getElem?_cons_succ, List.set_cons_zero, List.set_cons_succ, List.cons_append, List.nil_append, List.replicate_succ, List.replicate_zero, List.take_succ_cons, List.take_zero, List.drop_succ_cons, List.drop_zero, List.reverse_cons, List.reverse_nil, List.length_cons, List.length_nil, Option.toList, true_and, and_true, eq_self, ↓reduceIte, not_true_eq_false, not_false_eq_true, true_or, or_true, hw] | ((with_reducible refine w_118 hw hT g1 hpi (fun v1 x1 => ?_)); have gy1 := yn_b x1) | with_reducible refine w_1 hw hT g1 hlw (fun T2 m2 x2 E2 l2 M2 => ?_) | with_reducible refine And.intro ?_ ?_ | with_reducible intro _)
      all_goals (try (first | omega | contradiction | omega))
  refine Runs.of (al := [vr 70, vi p]) (n := 1) ⟨70, _, _, rfl, xo_70⟩ rfl rfl trivial ?_
  repeat' (first | omega | with_reducible refine hL2 _ _ ?_ ?_ ?_ ?_ ?_ | simp only [w_iconst, w_istore, w_fall, Int.reduceToNat, w_iload, w_ifc, cI, w_aload, x_g100_70, w_call, w_if, w_ireturn, w_iinc, lgB, Nat.reduceSub, w_goto, a27_0, a27_21, a27_34, R32, List.getElem?_cons_zero, List.getElem?_cons_succ, List.set_cons_zero, List.set_cons_succ, List.cons_append, List.nil_append, List.replicate_succ, List.replicate_zero, List.take_succ_cons, List.take_zero, List.drop_succ_cons, List.drop_zero, List.reverse_cons, List.reverse_nil, List.length_cons, List.length_nil, Option.toList, true_and, and_true, eq_self, ↓reduceIte, not_true_eq_false, not_false_eq_true, true_or, or_true, hw] | with_reducible refine And.intro ?_ ?_ | with_reducible intro _)
  all_goals (try (first | omega | (exfalso; assumption) | exact hR | exact EW_r | rfl | exact MS_r | (intro k k0 k1; omega)))
theorem k0_0 : pg.1 0 0 = [.aload 0, .invokeinterface 2 1, .bipush 100, .irem, .aload 0, .getfield 812, .bipush 1, .iaload, .if_icmp .ge 20, .bipush 1, .goto 21] := rfl
theorem a0_0 {tb : Tab} {d : Nat} {K : Out → AM → Prop} {ls st : List AV} {m : AM} : At tb d 0 K 0 ls st m = wpB tb (pg.2.1 0) (Runs tb pg d) K (At tb d 0 K) [.aload 0, .invokeinterface 2 1, .bipush 100, .irem, .aload 0, .getfield 812, .bipush 1, .iaload, .if_icmp .ge 20, .bipush 1, .goto 21] ls st m := At.eq k0_0
theorem k0_20 : pg.1 0 20 = [.bipush 0, .jsr 21] := rfl
theorem a0_20 {tb : Tab} {d : Nat} {K : Out → AM → Prop} {ls st : List AV} {m : AM} : At tb d 0 K 20 ls st m = wpB tb (pg.2.1 0) (Runs tb pg d) K (At tb d 0 K) [.bipush 0, .jsr 21] ls st m := At.eq k0_20
theorem k0_21 : pg.1 0 21 = [.istore 1, .iload 1, .ifCond .eq 33, .aload 0, .invokeinterface 4 1, .goto 37] := rfl
theorem a0_21 {tb : Tab} {d : Nat} {K : Out → AM → Prop} {ls st : List AV} {m : AM} : At tb d 0 K 21 ls st m = wpB tb (pg.2.1 0) (Runs tb pg d) K (At tb d 0 K) [.istore 1, .iload 1, .ifCond .eq 33, .aload 0, .invokeinterface 4 1, .goto 37] ls st m := At.eq k0_21
theorem k0_33 : pg.1 0 33 = [.aload 0, .invokeinterface 5 1, .jsr 37] := rfl
theorem a0_33 {tb : Tab} {d : Nat} {K : Out → AM → Prop} {ls st : List AV} {m : AM} : At tb d 0 K 33 ls st m = wpB tb (pg.2.1 0) (Runs tb pg d) K (At tb d 0 K) [.aload 0, .invokeinterface 5 1, .jsr 37] ls st m := At.eq k0_33
theorem k0_37 : pg.1 0 37 = [.aload 0, .invokeinterface 8 1, .aload 0, .invokeinterface 2 1, .bipush 100, .irem, .aload 0, .getfield 812, .bipush 2, .iaload, .if_icmp .ge 61, .bipush 1, .goto 62] := rfl
theorem a0_37 {tb : Tab} {d : Nat} {K : Out → AM → Prop} {ls st : List AV} {m : AM} : At tb d 0 K 37 ls st m = wpB tb (pg.2.1 0) (Runs tb pg d) K (At tb d 0 K) [.aload 0, .invokeinterface 8 1, .aload 0, .invokeinterface 2 1, .bipush 100, .irem, .aload 0, .getfield 812, .bipush 2, .iaload, .if_icmp .ge 61, .bipush 1, .goto 62] ls st m := At.eq k0_37
theorem k0_61 : pg.1 0 61 = [.bipush 0, .jsr 62] := rfl
theorem a0_61 {tb : Tab} {d : Nat} {K : Out → AM → Prop} {ls st : List AV} {m : AM} : At tb d 0 K 61 ls st m = wpB tb (pg.2.1 0) (Runs tb pg d) K (At tb d 0 K) [.bipush 0, .jsr 62] ls st m := At.eq k0_61
theorem k0_62 : pg.1 0 62 = [.istore 2, .iload 2, .ifCond .eq 71, .aload 0, .invokeinterface 9 1, .jsr 71] := rfl
theorem a0_62 {tb : Tab} {d : Nat} {K : Out → AM → Prop} {ls st : List AV} {m : AM} : At tb d 0 K 62 ls st m = wpB tb (pg.2.1 0) (Runs tb pg d) K (At tb d 0 K) [.istore 2, .iload 2, .ifCond .eq 71, .aload 0, .invokeinterface 9 1, .jsr 71] ls st m := At.eq k0_62
theorem k0_71 : pg.1 0 71 = [.aload 0, .invokeinterface 2 1, .bipush 100, .irem, .aload 0, .getfield 812, .bipush 3, .iaload, .if_icmp .ge 91, .bipush 1, .goto 92] := rfl
theorem a0_71 {tb : Tab} {d : Nat} {K : Out → AM → Prop} {ls st : List AV} {m : AM} : At tb d 0 K 71 ls st m = wpB tb (pg.2.1 0) (Runs tb pg d) K (At tb d 0 K) [.aload 0, .invokeinterface 2 1, .bipush 100, .irem, .aload 0, .getfield 812, .bipush 3, .iaload, .if_icmp .ge 91, .bipush 1, .goto 92] ls st m := At.eq k0_71
theorem k0_91 : pg.1 0 91 = [.bipush 0, .jsr 92] := rfl
theorem a0_91 {tb : Tab} {d : Nat} {K : Out → AM → Prop} {ls st : List AV} {m : AM} : At tb d 0 K 91 ls st m = wpB tb (pg.2.1 0) (Runs tb pg d) K (At tb d 0 K) [.bipush 0, .jsr 92] ls st m := At.eq k0_91
theorem k0_92 : pg.1 0 92 = [.istore 3, .iload 3, .ifCond .eq 101, .aload 0, .invokeinterface 11 1, .jsr 101] := rfl
theorem a0_92 {tb : Tab} {d : Nat} {K : Out → AM → Prop} {ls st : List AV} {m : AM} : At tb d 0 K 92 ls st m = wpB tb (pg.2.1 0) (Runs tb pg d) K (At tb d 0 K) [.istore 3, .iload 3, .ifCond .eq 101, .aload 0, .invokeinterface 11 1, .jsr 101] ls st m := At.eq k0_92
theorem k0_101 : pg.1 0 101 = [.aload 0, .invokeinterface 3 1, .iload 1, .freturn] := rfl
theorem a0_101 {tb : Tab} {d : Nat} {K : Out → AM → Prop} {ls st : List AV} {m : AM} : At tb d 0 K 101 ls st m = wpB tb (pg.2.1 0) (Runs tb pg d) K (At tb d 0 K) [.aload 0, .invokeinterface 3 1, .iload 1, .freturn] ls st m := At.eq k0_101
theorem w_0 (hw : isW w) (hR : RW S w r) (hA : AB r) (hlo : LWo m (S w 15) (lawD r)) (hK : ∀ T m1 v, yn v (snB 1 r) → RW T w (passR evL 1 r) → EW S T w → T w 15 = S w 15 → MS m m1 → K (.inl (some (vi v))) (X T m1)) : Runs tb pg (d + 5) 0 [vr w] (X S m) K := by
  have b3 := hA.2.1.1
  have b4 := hA.2.1.2.1
  have b5 := hA.2.1.2.2.1
  have e0 := hR.1.1
  have e4 := hR.1.2.1
  have A0 := drawR_AB hA
  have A1 : AB (st1 evL 1 r) := st1_AB hA
  have A2 : AB (st2 1 (st1 evL 1 r)) := st2_AB A1
  have A3 : AB (st3 1 (st2 1 (st1 evL 1 r))) := st3_AB A2
  have dv := drawV_rg r
  have b7 := hA.1 7 (by decide)
  have s0 : st0 1 r = drawR r := st0_1 (by decide)
  have ly : snB 1 r → lgA (skA (fun _ => 1) (snwP flV (drawR r) ((drawR r) 3)) ((drawR r) 4).toNat) (r 4).toNat = st1 evL 1 r := fun y => by
    rw [st1_y y, s0, ← falls_lg A0, show (drawR r) 4 = r 4 from drawR_o (by decide)]
  have ln : ¬ snB 1 r → lgA (snwP thV (skA (nT (drawR r)) (drawR r) ((drawR r) 4).toNat) ((drawR r) 3)) (r 4).toNat = st1 evL 1 r := fun y => by
    rw [st1_n y, s0, ← thaws_lg A0, sn_lg A0, show (drawR r) 4 = r 4 from drawR_o (by decide)]
  have d4 : (drawR r) 4 = r 4 := drawR_o (by decide)
  have fr := fl_row A0
  have tr := th_row A0
  rw [← sn_lg A0] at tr
  have lD : lawD (drawR r) = lawD r := lawD_eq (fun j hj => drawR_o (by omega))
  have sy : ∀ x, x < r 7 → x = drawV r % 100 → snB 1 r := fun x h1 h2 => ⟨by decide, by omega⟩
  have sn : ∀ x, ¬ x < r 7 → x = drawV r % 100 → ¬ snB 1 r := fun x h1 h2 y => by have := y.2; omega
  have h101 : ∀ (T : Nat → Int → Int) (m1 : AM) (v : Int) (z2 z3 : AV), yn v (snB 1 r) → RW T w (st3 1 (st2 1 (st1 evL 1 r))) → EW S T w → T w 15 = S w 15 → MS m m1 → At tb (d + 4) 0 K 101 [vr w, vi v, z2, z3] [] (X T m1) := by
    intro T m1 v z2 z3 hy hT hE hl hM
    have gy := yn_b hy
    rw [a0_101]
    repeat' (first | omega | (exact hK _ _ _ hy x1 (EW_t hE E1) (l1.trans hl) hM) | simp only [w_aload, w_call, w_iconst, w_irem, x_g812_w0, x_iald, w_ialoads, w_ialoadw, w_ifc, cI, Int.reduceToNat, w_goto, w_fall, w_istore, w_iload, w_if, w_zreturn, isA_w1, isA_w2, isA_w3, isA_w4, isA_w5, isA_w6, isA_w7, isA_w8, isA_w10, isA_w11, isA_w12, isA_w14, isA_w15, isA_w16, len_w1, len_w2, len_w3, len_w4, len_w5, len_w6, len_w7, len_w8, len_w10, len_w11, len_w12, len_w14, len_w15, len_w16, Int.cast_ofNat_Int, a0_0, a0_20, a0_21, a0_33, a0_37, a0_61, a0_62, a0_71, a0_91, a0_92, a0_101, R32, List.getElem?_cons_zero, List.getElem?_cons_succ, List.set_cons_zero, List.set_cons_succ, List.cons_append, List.nil_append, List.replicate_succ, List.replicate_zero, List.take_succ_cons, List.take_zero, List.drop_succ_cons, List.drop_zero, List.reverse_cons, List.reverse_nil, List.length_cons, List.length_nil, Option.toList, true_and, and_true, eq_self, ↓reduceIte, not_true_eq_false, not_false_eq_true, true_or, or_true, hw] | with_reducible refine w_3 hw hT A3 (fun T1 x1 E1 l1 => ?_) | with_reducible refine And.intro ?_ ?_ | with_reducible intro _)
    all_goals (try (first | omega | (exfalso; assumption) | omega))
  have h71 : ∀ (T : Nat → Int → Int) (m1 : AM) (v : Int) (z2 z3 : AV), yn v (snB 1 r) → RW T w (st2 1 (st1 evL 1 r)) → EW S T w → T w 15 = S w 15 → MS m m1 → At tb (d + 4) 0 K 71 [vr w, vi v, z2, z3] [] (X T m1) := by
    intro T m1 v z2 z3 hy hT hE hl hM
    have dv := drawV_rg (st2 1 (st1 evL 1 r))
    have e3 := st3_1 (q := st2 1 (st1 evL 1 r))
    have b9 := A2.1 9 (by decide)
    rw [a0_71]
    repeat' (first | omega | (refine h101 _ _ _ _ _ hy ?_ ?_ ?_ hM) | simp only [w_aload, w_call, w_iconst, w_irem, x_g812_w0, x_iald, w_ialoads, w_ialoadw, w_ifc, cI, Int.reduceToNat, w_goto, w_fall, w_istore, w_iload, w_if, w_zreturn, isA_w1, isA_w2, isA_w3, isA_w4, isA_w5, isA_w6, isA_w7, isA_w8, isA_w10, isA_w11, isA_w12, isA_w14, isA_w15, isA_w16, len_w1, len_w2, len_w3, len_w4, len_w5, len_w6, len_w7, len_w8, len_w10, len_w11, len_w12, len_w14, len_w15, len_w16, Int.cast_ofNat_Int, a0_0, a0_20, a0_21, a0_33, a0_37, a0_61, a0_62, a0_71, a0_91, a0_92, R32, List.getElem?_cons_zero, List.getElem?_cons_succ, List.set_cons_zero, List.set_cons_succ, List.cons_append, List.nil_append, List.replicate_succ, List.replicate_zero, List.take_succ_cons, List.take_zero, List.drop_succ_cons, List.drop_zero, List.reverse_cons, List.reverse_nil, List.length_cons, List.length_nil, Option.toList, true_and, and_true, eq_self, ↓reduceIte, not_true_eq_false, not_false_eq_true, true_or, or_true, hw] | ((with_reducible refine w_2 hw hT A2 (fun T1 x1 E1 l1 => ?_)); have t9 : T1 (w + 15) 3 = st2 1 (st1 evL 1 r) 9 := (x1.2.2.2.2.2 3 (by omega) (by omega)).trans (drawR_o (by decide))) | with_reducible refine w_11 hw x1 (drawR_AB A2) (fun T2 x2 E2 l2 => ?_) | with_reducible refine And.intro ?_ ?_ | with_reducible intro _)
    all_goals (try (first | omega | (exfalso; assumption) | (rw [e3, if_pos (by omega)]; exact x2) | (rw [e3, if_neg (by omega)]; exact x1) | exact EW_t hE (EW_t E1 E2) | exact EW_t hE E1 | exact l2.trans (l1.trans hl) | exact l1.trans hl))
  have h37 : ∀ (T : Nat → Int → Int) (m1 : AM) (v : Int) (z2 z3 : AV) (q : Int → Int), yn v (snB 1 r) → RW T w q → AB q → q 4 = r 4 → lgA q (r 4).toNat = st1 evL 1 r → EW S T w → T w 15 = S w 15 → MS m m1 → At tb (d + 4) 0 K 37 [vr w, vi v, z2, z3] [] (X T m1) := by
    intro T m1 v z2 z3 q hy hT hq hq4 hlg hE hl hM
    have dv := drawV_rg (st1 evL 1 r)
    have e2 := st2_1 (q := st1 evL 1 r)
    have b8 := A1.1 8 (by decide)
    have on1 := onS_draw A1
    rw [a0_37]
    repeat' (first | omega | (refine h71 _ _ _ _ _ hy ?_ ?_ ?_ hM) | simp only [w_aload, w_call, w_iconst, w_irem, x_g812_w0, x_iald, w_ialoads, w_ialoadw, w_ifc, cI, Int.reduceToNat, w_goto, w_fall, w_istore, w_iload, w_if, w_zreturn, isA_w1, isA_w2, isA_w3, isA_w4, isA_w5, isA_w6, isA_w7, isA_w8, isA_w10, isA_w11, isA_w12, isA_w14, isA_w15, isA_w16, len_w1, len_w2, len_w3, len_w4, len_w5, len_w6, len_w7, len_w8, len_w10, len_w11, len_w12, len_w14, len_w15, len_w16, Int.cast_ofNat_Int, a0_0, a0_20, a0_21, a0_33, a0_37, a0_61, a0_62, a0_91, a0_92, a0_101, R32, List.getElem?_cons_zero, List.getElem?_cons_succ, List.set_cons_zero, List.set_cons_succ, List.cons_append, List.nil_append, List.replicate_succ, List.replicate_zero, List.take_succ_cons, List.take_zero, List.drop_succ_cons, List.drop_zero, List.reverse_cons, List.reverse_nil, List.length_cons, List.length_nil, Option.toList, true_and, and_true, eq_self, ↓reduceIte, not_true_eq_false, not_false_eq_true, true_or, or_true, hw] | ((with_reducible refine w_8 hw hT hq (fun T0 x0 E0 l0 => ?_)); rw [hq4, hlg] at x0) | ((with_reducible refine w_2 hw x0 A1 (fun T1 x1 E1 l1 => ?_)); have t8 : T1 (w + 15) 2 = st1 evL 1 r 8 := (x1.2.2.2.2.2 2 (by omega) (by omega)).trans (drawR_o (by decide))) | ((with_reducible refine w_9 hw x1 (drawR_AB A1) (fun T2 x2 E2 l2 => ?_)); rw [on1] at x2) | with_reducible refine And.intro ?_ ?_ | with_reducible intro _)
    all_goals (try (first | omega | (exfalso; assumption) | (rw [e2]; by_cases y : onS (st1 evL 1 r) ≠ 0; (rw [if_pos ⟨by omega, y⟩]; rw [if_pos y] at x2; exact x2); (rw [if_neg (fun z => y z.2)]; rw [if_neg y] at x2; exact x2)) | (rw [e2, if_neg (fun z => by have := z.1; omega)]; exact x1) | exact EW_t hE (EW_t E0 (EW_t E1 E2)) | exact EW_t hE (EW_t E0 E1) | exact l2.trans (l1.trans (l0.trans hl)) | exact l1.trans (l0.trans hl)))
  refine Runs.of (al := [vr w]) (n := 3) trivial rfl rfl trivial ?_
  repeat' (first | omega | (exact h37 _ _ _ _ _ _ (Or.inl ⟨rfl, sy _ (by omega) rfl⟩) x2 fr.1 (fr.2.trans d4) (ly (sy _ (by omega) rfl)) (EW_t E1 E2) (l2.trans l1) MS_r) | (exact h37 _ _ _ _ _ _ (Or.inr ⟨rfl, sn _ (by omega) rfl⟩) x3 tr.1 (tr.2.trans d4) (ln (sn _ (by omega) rfl)) (EW_t E1 E3) (l3.trans l1) M3) | simp only [w_aload, w_call, w_iconst, w_irem, x_g812_w0, x_iald, w_ialoads, w_ialoadw, w_ifc, cI, Int.reduceToNat, w_goto, w_fall, w_istore, w_iload, w_if, w_zreturn, isA_w1, isA_w2, isA_w3, isA_w4, isA_w5, isA_w6, isA_w7, isA_w8, isA_w10, isA_w11, isA_w12, isA_w14, isA_w15, isA_w16, len_w1, len_w2, len_w3, len_w4, len_w5, len_w6, len_w7, len_w8, len_w10, len_w11, len_w12, len_w14, len_w15, len_w16, Int.cast_ofNat_Int, a0_0, a0_20, a0_21, a0_33, a0_61, a0_62, a0_91, a0_92, R32, List.getElem?_cons_zero, List.getElem?_cons_succ, List.set_cons_zero, List.set_cons_succ, List.cons_append, List.nil_append, List.replicate_succ, List.replicate_zero, List.take_succ_cons, List.take_zero, List.drop_succ_cons, List.drop_zero, List.reverse_cons, List.reverse_nil, List.length_cons, List.length_nil, Option.toList, true_and, and_true, eq_self, ↓reduceIte, not_true_eq_false, not_false_eq_true, true_or, or_true, hw] | ((with_reducible refine w_2 hw hR hA (fun T1 x1 E1 l1 => ?_)); have t7 : T1 (w + 15) 1 = r 7 := (x1.2.2.2.2.2 1 (by omega) (by omega)).trans (drawR_o (by decide))) | with_reducible refine w_4 hw x1 A0 (fun T2 x2 E2 l2 => ?_) | (have hlo2 : LWo m (T1 w 15) (lawD (drawR r)) := (by rw [l1, lD]; exact hlo); (with_reducible refine w_5 hw x1 A0 hlo2 (fun T3 m3 x3 E3 l3 M3 => ?_))) | with_reducible refine And.intro ?_ ?_ | with_reducible intro _)
  all_goals (try (first | omega | (exfalso; assumption) | skip))
theorem k26_0 : pg.1 26 0 = [.aload 0, .getfield 100, .aload 1, .invokeinterface 106 2, .bipush 0, .istore 3, .jsr 10] := rfl
theorem a26_0 {tb : Tab} {d : Nat} {K : Out → AM → Prop} {ls st : List AV} {m : AM} : At tb d 26 K 0 ls st m = wpB tb (pg.2.1 26) (Runs tb pg d) K (At tb d 26 K) [.aload 0, .getfield 100, .aload 1, .invokeinterface 106 2, .bipush 0, .istore 3, .jsr 10] ls st m := At.eq k26_0
theorem k26_10 : pg.1 26 10 = [.iload 3, .aload 0, .getfield 100, .getfield 804, .if_icmp .ge 42, .iload 3, .iload 2, .if_icmp .eq 36, .aload 0, .getfield 100, .getfield 807, .iload 3, .bipush (-1), .iastore, .jsr 36] := rfl
theorem a26_10 {tb : Tab} {d : Nat} {K : Out → AM → Prop} {ls st : List AV} {m : AM} : At tb d 26 K 10 ls st m = wpB tb (pg.2.1 26) (Runs tb pg d) K (At tb d 26 K) [.iload 3, .aload 0, .getfield 100, .getfield 804, .if_icmp .ge 42, .iload 3, .iload 2, .if_icmp .eq 36, .aload 0, .getfield 100, .getfield 807, .iload 3, .bipush (-1), .iastore, .jsr 36] ls st m := At.eq k26_10
theorem k26_36 : pg.1 26 36 = [.iinc 3 1, .goto 10] := rfl
theorem a26_36 {tb : Tab} {d : Nat} {K : Out → AM → Prop} {ls st : List AV} {m : AM} : At tb d 26 K 36 ls st m = wpB tb (pg.2.1 26) (Runs tb pg d) K (At tb d 26 K) [.iinc 3 1, .goto 10] ls st m := At.eq k26_36
theorem k26_42 : pg.1 26 42 = [.return_] := rfl
theorem a26_42 {tb : Tab} {d : Nat} {K : Out → AM → Prop} {ls st : List AV} {m : AM} : At tb d 26 K 42 ls st m = wpB tb (pg.2.1 26) (Runs tb pg d) K (At tb d 26 K) [.return_] ls st m := At.eq k26_42
theorem w_26 {p : Int} {v : Nat} (hv : isW v) (hd : v ≠ 71) (hR : RW S v r) (hA : AB r) (hlo : LWo m (S v 15) (lawD r)) (hp : 0 ≤ p ∧ p < r 4) (hK : ∀ T, RW T 71 (alP r p (r 4)) → EW S T 71 → T 71 15 = S v 15 → K (.inl none) (X T m)) : Runs tb pg (d + 3) 26 [vr 70, vr v, vi p] (X S m) K := by
  have hw := isW_71
  have b3 := hA.2.1.1
  have b4 := hA.2.1.2.1
  have b5 := hA.2.1.2.2.1
  have d71 := dis71 hv hd
  have h10 : ∀ T0, CPw S T0 71 v → At tb (d + 2) 26 K 10 [vr 70, vr v, vi p, vi 0] [] (X T0 m) := by
    intro T0 C0
    have hR0 := RW_cp hA hR C0
    have hL10 : (fun i : Int => ∀ (T : Nat → Int → Int), (RW T 71 (alP r p i)) → (EW S T 71) → (T 71 15 = S v 15) → At tb (d + 2) 26 K 10 [vr 70, vr v, vi p, vi i] [] (X T m)) 0 := by
      refine loopZ (fun i : Int => ∀ (T : Nat → Int → Int), (RW T 71 (alP r p i)) → (EW S T 71) → (T 71 15 = S v 15) → At tb (d + 2) 26 K 10 [vr 70, vr v, vi p, vi i] [] (X T m)) (r 4) (by omega) ?_ ?_
      · intro i h0 h1 h9 T hT hE hl
        have aA := alP_AB (p := p) hA i.toNat (by omega)
        rw [Int.toNat_of_nonneg h0] at aA
        have a4 : alP r p i 4 = r 4 := alP_o (by omega) (by omega)
        have t4 : T 71 4 = r 4 := hT.1.2.1.trans a4
        have ys : i ≠ p → putR (alP r p i) (31 + 20 * i + 1) (-1) = alP r p (i + 1) := fun y => alP_s h0 y
        have yn9 : i = p → alP r p i = alP r p (i + 1) := fun y => alP_n y
        have e6 : upS T (71 + 6) i (-1) 71 = T 71 := if_neg (by decide)
        rw [a26_10]
        repeat' (first | omega | with_reducible refine h9 _ ?_ ?_ ?_ | simp only [w_aload, x_g100_70, w_call, w_iconst, w_istore, w_fall, Int.reduceToNat, w_iload, x_g804_w0, w_ifc, cI, x_g807_w0, x_iast, w_iinc, lgB, Nat.reduceSub, w_goto, w_return, isA_w1, isA_w2, isA_w3, isA_w4, isA_w5, isA_w6, isA_w7, isA_w8, isA_w10, isA_w11, isA_w12, isA_w14, isA_w15, isA_w16, len_w1, len_w2, len_w3, len_w4, len_w5, len_w6, len_w7, len_w8, len_w10, len_w11, len_w12, len_w14, len_w15, len_w16, Int.cast_ofNat_Int, a26_0, a26_36, a26_42, R32, List.getElem?_cons_zero, List.getElem?_cons_succ, List.set_cons_zero, List.set_cons_succ, List.cons_append, List.nil_append, List.replicate_succ, List.replicate_zero, List.take_succ_cons, List.take_zero, List.drop_succ_cons, List.drop_zero, List.reverse_cons, List.reverse_nil, List.length_cons, List.length_nil, Option.toList, true_and, and_true, eq_self, ↓reduceIte, not_true_eq_false, not_false_eq_true, true_or, or_true, hw, hv] | with_reducible refine And.intro ?_ ?_ | with_reducible intro _)
        all_goals (try (first | omega | contradiction | (rw [← yn9 (by omega)]; exact hT) | exact hE | exact hl | (rw [← ys (by omega)]; exact RW_off aA hT h0 (by omega)) | exact EW_u hE (by omega) | (rw [e6]; exact hl)))
      · intro T hT hE hl
        have a4 : alP r p (r 4) 4 = r 4 := alP_o (by omega) (by omega)
        have t4 : T 71 4 = r 4 := hT.1.2.1.trans a4
        rw [a26_10]
        repeat' (first | omega | (exact hK _ hT hE hl) | simp only [w_aload, x_g100_70, w_call, w_iconst, w_istore, w_fall, Int.reduceToNat, w_iload, x_g804_w0, w_ifc, cI, x_g807_w0, x_iast, w_iinc, lgB, Nat.reduceSub, w_goto, w_return, isA_w1, isA_w2, isA_w3, isA_w4, isA_w5, isA_w6, isA_w7, isA_w8, isA_w10, isA_w11, isA_w12, isA_w14, isA_w15, isA_w16, len_w1, len_w2, len_w3, len_w4, len_w5, len_w6, len_w7, len_w8, len_w10, len_w11, len_w12, len_w14, len_w15, len_w16, Int.cast_ofNat_Int, a26_0, a26_36, a26_42, R32, List.getElem?_cons_zero, List.getElem?_cons_succ, List.set_cons_zero, List.set_cons_succ, List.cons_append, List.nil_append, List.replicate_succ, List.replicate_zero, List.take_succ_cons, List.take_zero, List.drop_succ_cons, List.drop_zero, List.reverse_cons, List.reverse_nil, List.length_cons, List.length_nil, Option.toList, true_and, and_true, eq_self, ↓reduceIte, not_true_eq_false, not_false_eq_true, true_or, or_true, hw, hv] | with_reducible refine And.intro ?_ ?_ | with_reducible intro _)
        all_goals (try (first | omega | contradiction | omega))
    exact hL10 _ (by rw [alP_0]; exact hR0) C0.1 C0.2.1.2.2.2.2
  refine Runs.of (al := [vr 70, vr v, vi p]) (n := 1) ⟨70, _, _, rfl, xo_70⟩ rfl rfl trivial ?_
  repeat' (first | omega | (exact h10 _ C1) | simp only [w_aload, x_g100_70, w_call, w_iconst, w_istore, w_fall, Int.reduceToNat, w_iload, x_g804_w0, w_ifc, cI, x_g807_w0, x_iast, w_iinc, lgB, Nat.reduceSub, w_goto, w_return, isA_w1, isA_w2, isA_w3, isA_w4, isA_w5, isA_w6, isA_w7, isA_w8, isA_w10, isA_w11, isA_w12, isA_w14, isA_w15, isA_w16, len_w1, len_w2, len_w3, len_w4, len_w5, len_w6, len_w7, len_w8, len_w10, len_w11, len_w12, len_w14, len_w15, len_w16, Int.cast_ofNat_Int, a26_0, a26_36, a26_42, R32, List.getElem?_cons_zero, List.getElem?_cons_succ, List.set_cons_zero, List.set_cons_succ, List.cons_append, List.nil_append, List.replicate_succ, List.replicate_zero, List.take_succ_cons, List.take_zero, List.drop_succ_cons, List.drop_zero, List.reverse_cons, List.reverse_nil, List.length_cons, List.length_nil, Option.toList, true_and, and_true, eq_self, ↓reduceIte, not_true_eq_false, not_false_eq_true, true_or, or_true, hw, hv] | with_reducible refine w_106 hw hv d71 hlo (fun T1 C1 => ?_) | with_reducible refine And.intro ?_ ?_ | with_reducible intro _)
  all_goals (try (first | omega | (exfalso; assumption) | skip))
theorem k24_0 : pg.1 24 0 = [.aload 0, .aload 1, .iload 2, .invokeinterface 26 3, .aload 0, .iload 2, .invokeinterface 27 2, .ireturn] := rfl
theorem a24_0 {tb : Tab} {d : Nat} {K : Out → AM → Prop} {ls st : List AV} {m : AM} : At tb d 24 K 0 ls st m = wpB tb (pg.2.1 24) (Runs tb pg d) K (At tb d 24 K) [.aload 0, .aload 1, .iload 2, .invokeinterface 26 3, .aload 0, .iload 2, .invokeinterface 27 2, .ireturn] ls st m := At.eq k24_0
theorem w_24 {p : Int} {v : Nat} (hv : isW v) (hd : v ≠ 71) (hR : RW S v r) (hA : AB r) (hlo : LWo m (S v 15) (lawD r)) (hp : 0 ≤ p ∧ p < r 4) (hK : ∀ T m1 x n, isLst evL r p n → x = (if 60 < n then -1 else n) → EW S T 71 → MS m m1 → K (.inl (some (vi x))) (X T m1)) : Runs tb pg (d + 7) 24 [vr 70, vr v, vi p] (X S m) K := by
  have hw := isW_71
  have b3 := hA.2.1.1
  have b4 := hA.2.1.2.1
  have b5 := hA.2.1.2.2.1
  have d71 := dis71 hv hd
  have aA := alP_AB (p := p) hA (r 4).toNat (by omega)
  rw [Int.toNat_of_nonneg b4.1] at aA
  have a4 : alP r p (r 4) 4 = r 4 := alP_o (by omega) (by omega)
  have a3 : alP r p (r 4) 3 = r 3 := alP_o (by omega) (by omega)
  have aL : lawD (alP r p (r 4)) = lawD r := alP_law (by omega)
  have aS : SP p (alP r p (r 4)) r := SP_al (by omega)
  have zp := AB_pp hA hp.1 hp.2
  refine Runs.of (al := [vr 70, vr v, vi p]) (n := 0) ⟨70, _, _, rfl, xo_70⟩ rfl rfl trivial ?_
  repeat' (first | omega | (exact hK _ _ _ _ (isLst_SP hp.1 (by omega) aA hA aS x2) y2 (EW_t E1 E2) M2) | simp only [w_aload, w_iload, w_call, w_ireturn, a24_0, R32, List.getElem?_cons_zero, List.getElem?_cons_succ, List.set_cons_zero, List.set_cons_succ, List.cons_append, List.nil_append, List.replicate_succ, List.replicate_zero, List.take_succ_cons, List.take_zero, List.drop_succ_cons, List.drop_zero, List.reverse_cons, List.reverse_nil, List.length_cons, List.length_nil, Option.toList, true_and, and_true, eq_self, ↓reduceIte, not_true_eq_false, not_false_eq_true, true_or, or_true, hw, hv] | with_reducible refine w_26 hv hd hR hA hlo hp (fun T1 x1 E1 l1 => ?_) | (have hlo2 : LWo m (T1 71 15) (lawD (alP r p (r 4))) := (by rw [l1, aL]; exact hlo); (with_reducible refine w_27 x1 aA hlo2 ⟨?_, ?_⟩ (fun T2 m2 v2 n2 x2 y2 E2 l2 M2 => ?_))) | with_reducible refine And.intro ?_ ?_ | with_reducible intro _)
  all_goals (try (first | omega | (exfalso; assumption) | skip))
theorem k25_0 : pg.1 25 0 = [.bipush (-1), .istore 3, .bipush (-1), .istore 4, .bipush 0, .istore 5, .jsr 8] := rfl
theorem a25_0 {tb : Tab} {d : Nat} {K : Out → AM → Prop} {ls st : List AV} {m : AM} : At tb d 25 K 0 ls st m = wpB tb (pg.2.1 25) (Runs tb pg d) K (At tb d 25 K) [.bipush (-1), .istore 3, .bipush (-1), .istore 4, .bipush 0, .istore 5, .jsr 8] ls st m := At.eq k25_0
theorem k25_8 : pg.1 25 8 = [.iload 5, .aload 1, .getfield 800, .if_icmp .ge 92, .aload 1, .getfield 802, .iload 5, .iaload, .ifCond .le 86, .aload 0, .aload 1, .iload 2, .invokeinterface 26 3, .aload 0, .getfield 100, .iload 2, .iload 5, .aload 1, .iload 2, .iload 5, .invokeinterface 125 3, .invokeinterface 122 4, .aload 0, .iload 2, .invokeinterface 27 2, .istore 6, .iload 6, .bipush (-1), .if_icmp .ne 68, .bipush 61, .goto 70] := rfl
theorem a25_8 {tb : Tab} {d : Nat} {K : Out → AM → Prop} {ls st : List AV} {m : AM} : At tb d 25 K 8 ls st m = wpB tb (pg.2.1 25) (Runs tb pg d) K (At tb d 25 K) [.iload 5, .aload 1, .getfield 800, .if_icmp .ge 92, .aload 1, .getfield 802, .iload 5, .iaload, .ifCond .le 86, .aload 0, .aload 1, .iload 2, .invokeinterface 26 3, .aload 0, .getfield 100, .iload 2, .iload 5, .aload 1, .iload 2, .iload 5, .invokeinterface 125 3, .invokeinterface 122 4, .aload 0, .iload 2, .invokeinterface 27 2, .istore 6, .iload 6, .bipush (-1), .if_icmp .ne 68, .bipush 61, .goto 70] ls st m := At.eq k25_8
theorem k25_68 : pg.1 25 68 = [.iload 6, .jsr 70] := rfl
theorem a25_68 {tb : Tab} {d : Nat} {K : Out → AM → Prop} {ls st : List AV} {m : AM} : At tb d 25 K 68 ls st m = wpB tb (pg.2.1 25) (Runs tb pg d) K (At tb d 25 K) [.iload 6, .jsr 70] ls st m := At.eq k25_68
theorem k25_70 : pg.1 25 70 = [.istore 6, .iload 6, .iload 4, .if_icmp .le 86, .iload 6, .istore 4, .iload 5, .istore 3, .jsr 86] := rfl
theorem a25_70 {tb : Tab} {d : Nat} {K : Out → AM → Prop} {ls st : List AV} {m : AM} : At tb d 25 K 70 ls st m = wpB tb (pg.2.1 25) (Runs tb pg d) K (At tb d 25 K) [.istore 6, .iload 6, .iload 4, .if_icmp .le 86, .iload 6, .istore 4, .iload 5, .istore 3, .jsr 86] ls st m := At.eq k25_70
theorem k25_86 : pg.1 25 86 = [.iinc 5 1, .goto 8] := rfl
theorem a25_86 {tb : Tab} {d : Nat} {K : Out → AM → Prop} {ls st : List AV} {m : AM} : At tb d 25 K 86 ls st m = wpB tb (pg.2.1 25) (Runs tb pg d) K (At tb d 25 K) [.iinc 5 1, .goto 8] ls st m := At.eq k25_86
theorem k25_92 : pg.1 25 92 = [.iload 3, .ireturn] := rfl
theorem a25_92 {tb : Tab} {d : Nat} {K : Out → AM → Prop} {ls st : List AV} {m : AM} : At tb d 25 K 92 ls st m = wpB tb (pg.2.1 25) (Runs tb pg d) K (At tb d 25 K) [.iload 3, .ireturn] ls st m := At.eq k25_92
theorem w_25 {p : Int} {v : Nat} (hv : isW v) (hd : v ≠ 71) (hR : RW S v r) (hA : AB r) (hlo : LWo m (S v 15) (lawD r)) (hp : 0 ≤ p ∧ p < r 4) (hK : ∀ T m1 x, isMinP (fun f => 0 < fr r f 1) (fun f => - lstV evL (wrtR evL r p f) p) (r 3) x → EFr S T v → MS m m1 → K (.inl (some (vi x))) (X T m1)) : Runs tb pg (d + 7) 25 [vr 70, vr v, vi p] (X S m) K := by
  have hw := isW_71
  have b3 := hA.2.1.1
  have b4 := hA.2.1.2.1
  have b5 := hA.2.1.2.2.1
  have d71 := dis71 hv hd
  have aA := alP_AB (p := p) hA (r 4).toNat (by omega)
  rw [Int.toNat_of_nonneg b4.1] at aA
  have a4 : alP r p (r 4) 4 = r 4 := alP_o (by omega) (by omega)
  have a3 : alP r p (r 4) 3 = r 3 := alP_o (by omega) (by omega)
  have aL : lawD (alP r p (r 4)) = lawD r := alP_law (by omega)
  have aS : SP p (alP r p (r 4)) r := SP_al (by omega)
  have zp := AB_pp hA hp.1 hp.2
  have hL8 : (fun i : Int => ∀ (a : Int) (lo : Int) (z6 : AV) (m1 : AM) (T : Nat → Int → Int), (isMinP (fun f => 0 < fr r f 1) (fun f => - lstV evL (wrtR evL r p f) p) i a) → ((a = -1 ∧ lo = -1) ∨ (a ≠ -1 ∧ lo = lstV evL (wrtR evL r p a) p ∧ 0 ≤ lo ∧ lo ≤ 61)) → (EFr S T v) → (MS m m1) → At tb (d + 6) 25 K 8 [vr 70, vr v, vi p, vi a, vi lo, vi i, z6] [] (X T m1)) 0 := by
    refine loopZ (fun i : Int => ∀ (a : Int) (lo : Int) (z6 : AV) (m1 : AM) (T : Nat → Int → Int), (isMinP (fun f => 0 < fr r f 1) (fun f => - lstV evL (wrtR evL r p f) p) i a) → ((a = -1 ∧ lo = -1) ∨ (a ≠ -1 ∧ lo = lstV evL (wrtR evL r p a) p ∧ 0 ≤ lo ∧ lo ≤ 61)) → (EFr S T v) → (MS m m1) → At tb (d + 6) 25 K 8 [vr 70, vr v, vi p, vi a, vi lo, vi i, z6] [] (X T m1)) (r 3) (by omega) ?_ ?_
    · intro i h0 h1 h9 a lo z6 m1 T hm hf hT hM
      have hTR : RW T v r := EFr_R hv hd hR hT
      have tv := EFr_0 hv hd hT
      have t0 : T v 0 = r 3 := hTR.1.1
      have t2 := (hTR.2.1 i h0 h1).2.1
      have zf := AB_ff hA h0 h1
      have hl1 : LWo m1 (T v 15) (lawD r) := by rw [tv]; exact LWo_s hM hlo
      have ag := isMinP_rg hm
      have dg := dpt_rg (r := r) (p := p) (f := i)
      have wA : AB (wrtR evL r p i) := wrtR_AB hp.1 (by omega) ⟨h0, h1⟩ dg hA
      have apz : pr (alP r p (r 4)) p 0 = pr r p 0 := aS.2 0 (by omega) (by omega)
      have qA : AB (wrtP (alP r p (r 4)) p i (dptR evL r p i) (pr r p 0)) := wrtP_AB hp.1 (by omega) (by omega) (by omega) ⟨h0, by omega⟩ dg aA
      have qS : SP p (wrtP (alP r p (r 4)) p i (dptR evL r p i) (pr r p 0)) (wrtR evL r p i) := SP_wrt aS hp.1 (by omega) (by omega) (by omega)
      have qL : lawD (wrtP (alP r p (r 4)) p i (dptR evL r p i) (pr r p 0)) = lawD r := (wrtP_law hp.1 (by omega) (by omega)).trans aL
      have q4 : wrtP (alP r p (r 4)) p i (dptR evL r p i) (pr r p 0) 4 = r 4 := (wrtP_o hp.1 (by omega) (by omega) (by omega)).trans a4
      rw [a25_8]
      repeat' (first | omega | with_reducible refine h9 _ _ _ _ _ ?_ ?_ ?_ ?_ | simp only [w_iconst, w_istore, w_fall, Int.reduceToNat, w_iload, w_aload, x_g800_w0, w_ifc, cI, x_g802_w0, x_iald, w_ialoads, w_ialoadw, w_if, w_call, x_g100_70, w_goto, w_iinc, lgB, Nat.reduceSub, w_ireturn, isA_w1, isA_w2, isA_w3, isA_w4, isA_w5, isA_w6, isA_w7, isA_w8, isA_w10, isA_w11, isA_w12, isA_w14, isA_w15, isA_w16, len_w1, len_w2, len_w3, len_w4, len_w5, len_w6, len_w7, len_w8, len_w10, len_w11, len_w12, len_w14, len_w15, len_w16, Int.cast_ofNat_Int, a25_0, a25_68, a25_70, a25_86, a25_92, R32, List.getElem?_cons_zero, List.getElem?_cons_succ, List.set_cons_zero, List.set_cons_succ, List.cons_append, List.nil_append, List.replicate_succ, List.replicate_zero, List.take_succ_cons, List.take_zero, List.drop_succ_cons, List.drop_zero, List.reverse_cons, List.reverse_nil, List.length_cons, List.length_nil, Option.toList, true_and, and_true, eq_self, ↓reduceIte, not_true_eq_false, not_false_eq_true, true_or, or_true, hw, hv] | with_reducible refine w_26 hv hd hTR hA hl1 hp (fun T1 x1 E1 l1 => ?_) | (have h1R : RW T1 v r := EFr_R hv hd hTR (EFr_W E1); have hl2 : LWo m1 (T1 v 15) (lawD r) := (by rw [EFr_0 hv hd (EFr_W (v := v) E1)]; exact hl1); (with_reducible refine w_125 hv h1R hA hp ⟨h0, h1⟩ hl2 (fun T2 m2 v2 x2 F2 M2 => ?_)); subst x2; have h71R : RW T2 71 (alP r p (r 4)) := RW_k x1 (fun k hk => F2 _ (by unfold isW at hv; omega)); have l71 : T2 71 15 = T v 15 := (by rw [F2 71 (by unfold isW at hv; omega)]; exact l1)) | ((with_reducible refine w_122 hw h71R aA ⟨?_, ?_⟩ (fun T3 x3 => ?_)); rotate_right; rw [apz] at x3; have h3R : RW T3 71 (wrtP (alP r p (r 4)) p i (dptR evL r p i) (pr r p 0)) := (by have := RW_pt (p := p) (f := i) (n := dptR evL r p i) aA h71R hp.1 (by omega); rw [apz] at this; rw [x3]; exact this); have l3 : T3 71 15 = T v 15 := (by rw [x3, ptS_o (by decide) (by decide) (by decide)]; exact l71); have E3 : EW T2 T3 71 := (by rw [x3]; exact ptS_EW)) | (have hl4 : LWo m2 (T3 71 15) (lawD (wrtP (alP r p (r 4)) p i (dptR evL r p i) (pr r p 0))) := (by rw [l3, qL]; exact LWo_s M2 hl1); (with_reducible refine w_27 h3R qA hl4 ⟨?_, ?_⟩ (fun T4 m4 v4 n4 x4 y4 E4 l4 M4 => ?_)); rotate_right; have g4 := x4.1; have u4 := lstV_of (isLst_SP hp.1 (by omega) qA wA qS x4)) | with_reducible refine And.intro ?_ ?_ | with_reducible intro _)
      all_goals (try (first | omega | contradiction | exact hm | exact hf | exact hT | exact hM | exact MS_t hM (MS_t M2 M4) | exact EFr_t hT (EFr_t (EFr_W E1) (EFr_t (EFr_F F2) (EFr_t (EFr_W E3) (EFr_W E4)))) | exact isMinP_n hm (Or.inl (by omega)) | exact isMinP_n hm (Or.inr ⟨by omega, by omega⟩) | exact isMinP_y h0 hm (by omega) (by omega)))
    · intro a lo z6 m1 T hm hf hT hM
      have hTR : RW T v r := EFr_R hv hd hR hT
      have t0 : T v 0 = r 3 := hTR.1.1
      rw [a25_8]
      repeat' (first | omega | (exact hK _ _ _ hm hT hM) | simp only [w_iconst, w_istore, w_fall, Int.reduceToNat, w_iload, w_aload, x_g800_w0, w_ifc, cI, x_g802_w0, x_iald, w_ialoads, w_ialoadw, w_if, w_call, x_g100_70, w_goto, w_iinc, lgB, Nat.reduceSub, w_ireturn, isA_w1, isA_w2, isA_w3, isA_w4, isA_w5, isA_w6, isA_w7, isA_w8, isA_w10, isA_w11, isA_w12, isA_w14, isA_w15, isA_w16, len_w1, len_w2, len_w3, len_w4, len_w5, len_w6, len_w7, len_w8, len_w10, len_w11, len_w12, len_w14, len_w15, len_w16, Int.cast_ofNat_Int, a25_0, a25_68, a25_70, a25_86, a25_92, R32, List.getElem?_cons_zero, List.getElem?_cons_succ, List.set_cons_zero, List.set_cons_succ, List.cons_append, List.nil_append, List.replicate_succ, List.replicate_zero, List.take_succ_cons, List.take_zero, List.drop_succ_cons, List.drop_zero, List.reverse_cons, List.reverse_nil, List.length_cons, List.length_nil, Option.toList, true_and, and_true, eq_self, ↓reduceIte, not_true_eq_false, not_false_eq_true, true_or, or_true, hw, hv] | with_reducible refine w_26 hv hd hTR hA hl1 hp (fun T1 x1 E1 l1 => ?_) | (have h1R : RW T1 v r := EFr_R hv hd hTR (EFr_W E1); have hl2 : LWo m1 (T1 v 15) (lawD r) := (by rw [EFr_0 hv hd (EFr_W (v := v) E1)]; exact hl1); (with_reducible refine w_125 hv h1R hA hp ⟨h0, h1⟩ hl2 (fun T2 m2 v2 x2 F2 M2 => ?_)); subst x2; have h71R : RW T2 71 (alP r p (r 4)) := RW_k x1 (fun k hk => F2 _ (by unfold isW at hv; omega)); have l71 : T2 71 15 = T v 15 := (by rw [F2 71 (by unfold isW at hv; omega)]; exact l1)) | ((with_reducible refine w_122 hw h71R aA ⟨?_, ?_⟩ (fun T3 x3 => ?_)); rotate_right; rw [apz] at x3; have h3R : RW T3 71 (wrtP (alP r p (r 4)) p i (dptR evL r p i) (pr r p 0)) := (by have := RW_pt (p := p) (f := i) (n := dptR evL r p i) aA h71R hp.1 (by omega); rw [apz] at this; rw [x3]; exact this); have l3 : T3 71 15 = T v 15 := (by rw [x3, ptS_o (by decide) (by decide) (by decide)]; exact l71); have E3 : EW T2 T3 71 := (by rw [x3]; exact ptS_EW)) | (have hl4 : LWo m2 (T3 71 15) (lawD (wrtP (alP r p (r 4)) p i (dptR evL r p i) (pr r p 0))) := (by rw [l3, qL]; exact LWo_s M2 hl1); (with_reducible refine w_27 h3R qA hl4 ⟨?_, ?_⟩ (fun T4 m4 v4 n4 x4 y4 E4 l4 M4 => ?_)); rotate_right; have g4 := x4.1; have u4 := lstV_of (isLst_SP hp.1 (by omega) qA wA qS x4)) | with_reducible refine And.intro ?_ ?_ | with_reducible intro _)
      all_goals (try (first | omega | contradiction | omega))
  refine Runs.of (al := [vr 70, vr v, vi p]) (n := 4) ⟨70, _, _, rfl, xo_70⟩ rfl rfl trivial ?_
  repeat' (first | omega | with_reducible refine hL8 _ _ _ _ _ ?_ ?_ ?_ ?_ | simp only [w_iconst, w_istore, w_fall, Int.reduceToNat, w_iload, w_aload, x_g800_w0, w_ifc, cI, x_g802_w0, x_iald, w_ialoads, w_ialoadw, w_if, w_call, x_g100_70, w_goto, w_iinc, lgB, Nat.reduceSub, w_ireturn, isA_w1, isA_w2, isA_w3, isA_w4, isA_w5, isA_w6, isA_w7, isA_w8, isA_w10, isA_w11, isA_w12, isA_w14, isA_w15, isA_w16, len_w1, len_w2, len_w3, len_w4, len_w5, len_w6, len_w7, len_w8, len_w10, len_w11, len_w12, len_w14, len_w15, len_w16, Int.cast_ofNat_Int, a25_0, a25_68, a25_70, a25_86, a25_92, R32, List.getElem?_cons_zero, List.getElem?_cons_succ, List.set_cons_zero, List.set_cons_succ, List.cons_append, List.nil_append, List.replicate_succ, List.replicate_zero, List.take_succ_cons, List.take_zero, List.drop_succ_cons, List.drop_zero, List.reverse_cons, List.reverse_nil, List.length_cons, List.length_nil, Option.toList, true_and, and_true, eq_self, ↓reduceIte, not_true_eq_false, not_false_eq_true, true_or, or_true, hw, hv] | with_reducible refine And.intro ?_ ?_ | with_reducible intro _)
  all_goals (try (first | omega | (exfalso; assumption) | exact isMinP_0 | exact EFr_r | exact MS_r))
end Last1
