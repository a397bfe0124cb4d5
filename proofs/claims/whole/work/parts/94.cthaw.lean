/-! ===== THE CLASS: all lessened, then those of whom nothing is left go: the same as one after the other ===== -/
def sk1 (n : Int → Int) (q : Int → Int) (j : Int) : Int → Int := if pr q j 1 = -1 then q else sinkP q j (n j) 0 (pr q j 0)
def skF (n : Int → Int) : Nat → Nat → (Int → Int) → Int → Int
  | 0, _, q => q
  | m + 1, j, q => skF n m (j + 1) (sk1 n q j)
theorem skA_F {n : Int → Int} {r : Int → Int} : ∀ m j : Nat, skF n m j (skA n r j) = skA n r (j + m)
  | 0, j => rfl
  | m + 1, j => by
    show skF n m (j + 1) (skA n r (j + 1)) = _
    rw [skA_F m (j + 1)]
    exact congrArg _ (by omega)
noncomputable def lg1 (q : Int → Int) (k : Int) : Int → Int := @ite _ (pr q k 1 ≠ -1 ∧ leftM (pr q) k (pr q k 0) = 0) (Classical.propDecidable _) (leavesR (logsR q k 2 (pr q k 1)) k) q
theorem lg1_y {q : Int → Int} {k : Int} (h : pr q k 1 ≠ -1 ∧ leftM (pr q) k (pr q k 0) = 0) : lg1 q k = leavesR (logsR q k 2 (pr q k 1)) k := if_pos h
theorem lg1_n {q : Int → Int} {k : Int} (h : ¬ (pr q k 1 ≠ -1 ∧ leftM (pr q) k (pr q k 0) = 0)) : lg1 q k = q := if_neg h
theorem lgA_1 {r : Int → Int} {k : Nat} : lgA r (k + 1) = lg1 (lgA r k) k := rfl
/-- rows of which only what people have is bounded -/
def P6 (q : Int → Int) : Prop := ∀ p, 0 ≤ p → p < 6 → 0 ≤ pr q p 0 ∧ pr q p 0 ≤ 6
theorem P6_AB {r : Int → Int} (h : AB r) : P6 r := fun p p0 p1 => (h.2.2.1 p p0 p1).1
theorem sk1_p {n : Int → Int} {q : Int → Int} {j k w : Int} (hq : P6 q) (j0 : 0 ≤ j) (j1 : j < 6) (w0 : 0 ≤ w) (w1 : w < 20) (h : k ≠ j ∨ w < 14) : pr (sk1 n q j) k w = pr q k w := by
  unfold sk1
  split
  · rfl
  · have z := hq j j0 j1
    rw [sinkP_p z.2 w0 w1, if_neg (by omega)]
theorem sk1_P6 {n : Int → Int} {q : Int → Int} {j : Int} (hq : P6 q) (j0 : 0 ≤ j) (j1 : j < 6) : P6 (sk1 n q j) := fun p p0 p1 => by
  rw [sk1_p hq j0 j1 (by omega) (by omega) (Or.inr (by omega))]
  exact hq p p0 p1
theorem lg1_p {q : Int → Int} {j k w : Int} (w0 : 0 ≤ w) (w1 : w < 20) (j0 : 0 ≤ j) (j1 : j < 6) (h : j ≠ k ∨ w = 0) : pr (lg1 q k) j w = pr q j w := by
  by_cases y : pr q k 1 ≠ -1 ∧ leftM (pr q) k (pr q k 0) = 0
  · rw [lg1_y y, leavesR_p w0 w1, if_neg (by omega), if_neg (by omega), logsR_p j0 j1 w0 w1]
  · rw [lg1_n y]
theorem lg1_P6 {q : Int → Int} {k : Int} (hq : P6 q) : P6 (lg1 q k) := fun p p0 p1 => by
  rw [lg1_p (by omega) (by omega) p0 p1 (Or.inr rfl)]
  exact hq p p0 p1
theorem leftM_c {q x : Int → Int} {k n : Int} (h : ∀ w, 0 ≤ w → w < 20 → pr x k w = pr q k w) (hn : n ≤ 6) : leftM (pr x) k n = leftM (pr q) k n := sumZ_congr fun i i0 i1 => by
  rw [h 1 (by omega) (by omega), h (14 + i) (by omega) (by omega)]
theorem sink_lv {y : Int → Int} {j k f n s : Int} (j0 : 0 ≤ j) (j1 : j < 6) (k0 : 0 ≤ k) (k1 : k < 6) (hjk : j ≠ k) (hs : s ≤ 6) : sinkP (leavesR (logsR y k 2 f) k) j n 0 s = leavesR (logsR (sinkP y j n 0 s) k 2 f) k := by
  have s1 : ∀ (q : Int → Int) i, sinkP q j n 0 s i = if 45 + 20 * j ≤ i ∧ i < 45 + 20 * j + s then snkV n 0 (q i) else q i := fun _ _ => rfl
  have so : ∀ (q : Int → Int) i, i < 45 ∨ 151 ≤ i → sinkP q j n 0 s i = q i := fun q i hi => by rw [s1, if_neg (by omega)]
  funext i
  by_cases hi : i < 31 ∨ 151 ≤ i
  · rw [so _ _ (by omega)]
    have l1 : ∀ (q : Int → Int), leavesR q k i = q i := fun q => leavesR_o k0 k1 hi
    rw [l1, l1]
    unfold logsR
    rw [so y 11 (by omega), so y 10 (by omega), so y i (by omega)]
    by_cases z : 179 ≤ i ∧ i < 415
    · rw [so y (i - 4) (by omega)]
    · rw [if_neg z, if_neg z]
  · have g1 : ∀ (q : Int → Int), logsR q k 2 f i = q i := fun q => logsR_o (by omega) (by omega)
    have l1 : ∀ (q : Int → Int), leavesR q k i = if i = 32 + 20 * k ∨ (39 + 20 * k ≤ i ∧ i < 45 + 20 * k) then -1 else if 45 + 20 * k ≤ i ∧ i < 51 + 20 * k then 0 else q i := fun _ => rfl
    rw [s1, l1, l1, g1, g1, s1]
    by_cases z : 45 + 20 * j ≤ i ∧ i < 45 + 20 * j + s
    · rw [if_pos z, if_pos z, if_neg (by omega), if_neg (by omega), if_neg (by omega), if_neg (by omega)]
    · rw [if_neg z, if_neg z]
theorem lg1_sk1 {n : Int → Int} {y : Int → Int} {j k : Int} (hy : P6 y) (j0 : 0 ≤ j) (j1 : j < 6) (k0 : 0 ≤ k) (k1 : k < 6) (hjk : j ≠ k) : lg1 (sk1 n y j) k = sk1 n (lg1 y k) j := by
  have zj := hy j j0 j1
  have zk := hy k k0 k1
  have e : ∀ w, 0 ≤ w → w < 20 → pr (sk1 n y j) k w = pr y k w := fun w w0 w1 => sk1_p hy j0 j1 w0 w1 (Or.inl (fun h => hjk h.symm))
  have e1 := e 1 (by omega) (by omega)
  have e0 := e 0 (by omega) (by omega)
  have el : leftM (pr (sk1 n y j)) k (pr y k 0) = leftM (pr y) k (pr y k 0) := leftM_c e zk.2
  have g : ∀ w, 0 ≤ w → w < 20 → pr (lg1 y k) j w = pr y j w := fun w w0 w1 => lg1_p w0 w1 j0 j1 (Or.inl hjk)
  by_cases c : pr y k 1 ≠ -1 ∧ leftM (pr y) k (pr y k 0) = 0
  · have c2 : pr (sk1 n y j) k 1 ≠ -1 ∧ leftM (pr (sk1 n y j)) k (pr (sk1 n y j) k 0) = 0 := by rw [e1, e0, el]; exact c
    rw [lg1_y c2, e1]
    by_cases a : pr y j 1 = -1
    · have s1 : sk1 n y j = y := if_pos a
      have s2 : sk1 n (lg1 y k) j = lg1 y k := if_pos (by rw [g 1 (by omega) (by omega)]; exact a)
      rw [s1, s2, lg1_y c]
    · have s1 : sk1 n y j = sinkP y j (n j) 0 (pr y j 0) := if_neg a
      have s2 : sk1 n (lg1 y k) j = sinkP (lg1 y k) j (n j) 0 (pr y j 0) := by
        unfold sk1
        rw [g 1 (by omega) (by omega), if_neg a, g 0 (by omega) (by omega)]
      rw [s1, s2, lg1_y c]
      exact (sink_lv j0 j1 k0 k1 hjk zj.2).symm
  · have c2 : ¬ (pr (sk1 n y j) k 1 ≠ -1 ∧ leftM (pr (sk1 n y j)) k (pr (sk1 n y j) k 0) = 0) := by rw [e1, e0, el]; exact c
    rw [lg1_n c2, lg1_n c]
theorem lg1_F {n : Int → Int} {k : Nat} (k1 : k < 6) : ∀ (m j : Nat) (y : Int → Int), P6 y → k < j → j + m ≤ 6 → lg1 (skF n m j y) k = skF n m j (lg1 y k)
  | 0, _, _, _, _, _ => rfl
  | m + 1, j, y, hy, hj, hm => by
    show lg1 (skF n m (j + 1) (sk1 n y j)) k = skF n m (j + 1) (sk1 n (lg1 y k) j)
    rw [lg1_F k1 m (j + 1) _ (sk1_P6 hy (by omega) (by omega)) (by omega) (by omega), lg1_sk1 hy (by omega) (by omega) (by omega) (by omega) (by omega)]
theorem lg1_sk {n b : (Int → Int) → Int → Int} {n0 : Int → Int} {x : Int → Int} {k : Int} (hx : P6 x) (k0 : 0 ≤ k) (k1 : k < 6) (he : pr x k 1 ≠ -1 → sinkP x k (n0 k) 0 (pr x k 0) = sinkP x k (n x k) (b x k) (pr x k 0)) : lg1 (sk1 n0 x k) k = if pr x k 1 = -1 then x else sinkR x k (n x k) (b x k) := by
  have zk := hx k k0 k1
  by_cases a : pr x k 1 = -1
  · have s1 : sk1 n0 x k = x := if_pos a
    rw [s1, if_pos a, lg1_n (fun y => y.1 a)]
  · have s1 : sk1 n0 x k = sinkP x k (n x k) (b x k) (pr x k 0) := (if_neg a).trans (he a)
    rw [s1, if_neg a]
    have e1 : pr (sinkP x k (n x k) (b x k) (pr x k 0)) k 1 = pr x k 1 := by rw [sinkP_p zk.2 (by omega) (by omega), if_neg (by omega)]
    have e0 : pr (sinkP x k (n x k) (b x k) (pr x k 0)) k 0 = pr x k 0 := by rw [sinkP_p zk.2 (by omega) (by omega), if_neg (by omega)]
    have ll := leftM_le (P := pr (sinkP x k (n x k) (b x k) (pr x k 0))) (p := k) zk.1
    by_cases c : leftM (pr (sinkP x k (n x k) (b x k) (pr x k 0))) k (pr x k 0) = 0
    · rw [lg1_y ⟨by rw [e1]; exact a, by rw [e0]; exact c⟩, e1, sinkR_n (by omega)]
    · rw [lg1_n (fun y => c (by have := y.2; rw [e0] at this; exact this)), sinkR_y (by omega)]
theorem snkN_P6 {n b : (Int → Int) → Int → Int} {q : Int → Int} (h : AB q) (hn : ∀ q k, 0 ≤ n q k) {k : Nat} (hk : k ≤ 6) : P6 (snkN n b q k) := P6_AB (snkN_AB h hn k hk)
theorem lgA_sk {n b : (Int → Int) → Int → Int} {n0 : Int → Int} {q : Int → Int} {N : Nat} (hq : AB q) (hn : ∀ q k, 0 ≤ n q k) (hN : N ≤ 6) (he : ∀ k : Nat, k < N → pr (snkN n b q k) k 1 ≠ -1 → sinkP (snkN n b q k) k (n0 k) 0 (pr (snkN n b q k) k 0) = sinkP (snkN n b q k) k (n (snkN n b q k) k) (b (snkN n b q k) k) (pr (snkN n b q k) k 0)) : lgA (skA n0 q N) N = snkN n b q N := by
  have main : ∀ k : Nat, k ≤ N → lgA (skA n0 q N) k = skF n0 (N - k) k (snkN n b q k) := by
    intro k
    induction k with
    | zero =>
      intro _
      have := skA_F (n := n0) (r := q) N 0
      rw [Nat.zero_add] at this
      exact this.symm
    | succ k ih =>
      intro hk
      rw [lgA_1, ih (by omega), show N - k = (N - (k + 1)) + 1 by omega]
      have hx := snkN_P6 (b := b) hq hn (k := k) (by omega)
      show lg1 (skF n0 (N - (k + 1)) (k + 1) (sk1 n0 (snkN n b q k) k)) k = _
      rw [lg1_F (by omega) _ _ _ (sk1_P6 hx (by omega) (by omega)) (by omega) (by omega), lg1_sk hx (by omega) (by omega) (he k (by omega))]
      rfl
  have e := main N (Nat.le_refl _)
  rw [Nat.sub_self] at e
  exact e
theorem falls_lg {r : Int → Int} (hA : AB r) : lgA (skA (fun _ => 1) (snwP flV r (r 3)) (r 4).toNat) (r 4).toNat = fallsR r := by
  have b4 := hA.2.1.2.1
  exact lgA_sk (n := fun _ _ => 1) (b := fun _ _ => 0) (flV_AB hA) (fun _ _ => by decide) (by omega) (fun _ _ _ => rfl)
/-- what is taken off each that thaws -/
noncomputable def nT (r : Int → Int) (k : Int) : Int := if thV r (14 + 3 * pr r k 1) = 0 then 9 else mltR evL r k (pr r k 1)
theorem nT_0 {r : Int → Int} {k : Int} : 0 ≤ nT r k := by
  unfold nT
  split
  · decide
  · exact mltR_0
theorem thV_AB {r : Int → Int} (hA : AB r) : AB (snwP thV r (r 3)) := snwP_AB hA.2.1.1.2 (th_rg hA) hA
theorem sink_eq {x : Int → Int} {k n n2 b2 s : Int} (h : ∀ i, 0 ≤ i → i < s → snkV n 0 (x (45 + 20 * k + i)) = snkV n2 b2 (x (45 + 20 * k + i))) : sinkP x k n 0 s = sinkP x k n2 b2 s := by
  funext j
  unfold sinkP
  by_cases z : 45 + 20 * k ≤ j ∧ j < 45 + 20 * k + s
  · rw [if_pos z, if_pos z]
    have := h (j - (45 + 20 * k)) (by omega) (by omega)
    rw [show 45 + 20 * k + (j - (45 + 20 * k)) = j by omega] at this
    exact this
  · rw [if_neg z, if_neg z]
theorem snwP_f1 {g : (Int → Int) → Int → Int} {r : Int → Int} {i f : Int} (f0 : 0 ≤ f) (f1 : f < i) : fr (snwP g r i) f 1 = g r (14 + 3 * f) := by
  show (if 14 ≤ 13 + 3 * f + 1 ∧ 13 + 3 * f + 1 < 13 + 3 * i ∧ (13 + 3 * f + 1 - 14) % 3 = 0 then g r (13 + 3 * f + 1) else _) = _
  rw [if_pos (by omega), show 13 + 3 * f + 1 = 14 + 3 * f by omega]
theorem snk_on {n b : (Int → Int) → Int → Int} {q : Int → Int} (hq : AB q) (hn : ∀ q k, 0 ≤ n q k) {p : Int} (p1 : p < 6) : ∀ k : Nat, (k : Int) ≤ p → pr (snkN n b q k) p 1 = pr q p 1
  | 0, _ => rfl
  | k + 1, h => by
    have ih := snk_on (b := b) hq hn p1 k (by omega)
    have hx := snkN_P6 (b := b) hq hn (k := k) (by omega)
    have e := lg1_sk (n0 := fun j => n (snkN n b q k) j) (n := n) (b := fun _ _ => 0) hx (k := k) (by omega) (by omega) (fun _ => rfl)
    have z := hx k (by omega) (by omega)
    show pr (if pr (snkN n b q k) k 1 = -1 then snkN n b q k else sinkR (snkN n b q k) k (n (snkN n b q k) k) (b (snkN n b q k) k)) p 1 = _
    rw [← ih]
    split
    · rfl
    · unfold sinkR
      split
      · rw [sinkP_p z.2 (by omega) (by omega), if_neg (by omega)]
      · rw [leavesR_p (by omega) (by omega), if_neg (by omega), if_neg (by omega), logsR_p (by omega) (by omega) (by omega) (by omega), sinkP_p z.2 (by omega) (by omega), if_neg (by omega)]
theorem thaws_lg {r : Int → Int} (hA : AB r) : lgA (skA (nT r) (snwP thV r (r 3)) (r 4).toNat) (r 4).toNat = thawsR evL r := by
  have b3 := hA.2.1.1
  have b4 := hA.2.1.2.1
  have hq := thV_AB hA
  have hn : ∀ (q : Int → Int) (k : Int), 0 ≤ (fun (_ : Int → Int) k => mlF evL r k) q k := fun _ _ => mlF_0
  refine lgA_sk (n := fun _ k => mlF evL r k) (b := bareF) hq hn (by omega) (fun k k1 hon => ?_)
  have hx := snkN_AB (b := bareF) hq hn k (by omega)
  have on1 := snk_on (b := bareF) hq hn (p := k) (by omega) k (by omega)
  have on2 : pr (snwP thV r (r 3)) k 1 = pr r k 1 := snwP_o (j := 31 + 20 * (k : Int) + 1) b3.2 (by omega)
  have zp := AB_pp hA (p := k) (by omega) (by omega)
  have f1 : ∀ f, 0 ≤ f → f < r 3 → fr (snkN (fun _ k => mlF evL r k) bareF (snwP thV r (r 3)) k) f 1 = thV r (14 + 3 * f) := fun f f0 f1 => by
    have := snkN_o (b := bareF) hq hn (j := 13 + 3 * f + 1) (by omega) (by omega) k (by omega)
    rw [← snwP_f1 (g := thV) f0 f1]
    exact this
  have hon2 : pr r k 1 ≠ -1 := by rw [← on2, ← on1]; exact hon
  have ef := f1 (pr r k 1) (by omega) (by omega)
  have eb : bareF (snkN (fun _ k => mlF evL r k) bareF (snwP thV r (r 3)) k) k = if thV r (14 + 3 * pr r k 1) = 0 then 1 else 0 := by
    show (if fr _ (pr _ (k : Int) 1) 1 = 0 then (1 : Int) else 0) = _
    rw [on1, on2, ef]
  show sinkP _ k (nT r k) 0 _ = sinkP _ k (mlF evL r k) (bareF _ k) _
  rw [eb]
  have em : mlF evL r k = mltR evL r k (pr r k 1) := if_neg hon2
  rw [em]
  have zx := hx.2.2.1 k (by omega) (by omega)
  refine sink_eq (fun i i0 i1 => ?_)
  have zd := (zx.2.2 i i0 (by omega)).1
  have ed : pr (snkN (fun _ k => mlF evL r k) bareF (snwP thV r (r 3)) k) k (14 + i) = (snkN (fun _ k => mlF evL r k) bareF (snwP thV r (r 3)) k) (45 + 20 * k + i) := congrArg (snkN (fun _ k => mlF evL r k) bareF (snwP thV r (r 3)) k) (show 31 + 20 * (k : Int) + (14 + i) = 45 + 20 * (k : Int) + i by omega)
  rw [ed] at zd
  unfold nT
  by_cases c : thV r (14 + 3 * pr r k 1) = 0
  · rw [if_pos c, if_pos c]
    have g : ∀ v n2 : Int, 0 ≤ v ∧ v ≤ 9 → snkV 9 0 v = snkV n2 1 v := fun v n2 hv => by
      unfold snkV
      rw [if_pos rfl, if_neg (show ¬ (1 : Int) = 0 by decide)]
      split <;> omega
    exact g _ _ zd
  · rw [if_neg c, if_neg c]
/-- what a row lessened has in common with the first one -/
theorem skA_o {n : Int → Int} {r : Int → Int} (hA : AB r) {j : Int} (hj : j < 31 ∨ 151 ≤ j) : ∀ k : Nat, k ≤ 6 → skA n r k j = r j ∧ P6 (skA n r k)
  | 0, _ => ⟨rfl, P6_AB hA⟩
  | k + 1, h => by
    obtain ⟨i1, i2⟩ := skA_o (n := n) hA hj k (by omega)
    refine ⟨?_, sk1_P6 i2 (by omega) (by omega)⟩
    rw [← i1]
    have z := i2 k (by omega) (by omega)
    show (if pr (skA n r k) k 1 = -1 then skA n r k else sinkP (skA n r k) k (n k) 0 (pr (skA n r k) k 0)) j = _
    split
    · rfl
    · exact sinkP_o (by omega) (by omega) z.2 hj
theorem skA_p {n : Int → Int} {r : Int → Int} (hA : AB r) {p w : Int} (w0 : 0 ≤ w) (w1 : w < 20) : ∀ k : Nat, k ≤ 6 → (k : Int) ≤ p ∨ w < 14 → pr (skA n r k) p w = pr r p w
  | 0, _, _ => rfl
  | k + 1, h, hp => by
    have ih := skA_p (n := n) hA (p := p) w0 w1 k (by omega) (by omega)
    have z := (skA_o (n := n) hA (j := 0) (by omega) k (by omega)).2
    rw [← ih]
    exact sk1_p z (by omega) (by omega) w0 w1 (by omega)
theorem fcR_c {q r : Int → Int} {p f : Int} (ho : ∀ j, j < 11 ∨ (13 ≤ j ∧ j < 31) ∨ (151 ≤ j ∧ j < 175) ∨ 415 ≤ j → q j = r j) (hp : ∀ w, 0 ≤ w → w < 20 → pr q p w = pr r p w) (hf : 0 ≤ f ∧ f < 6) (hs : pr r p 0 ≤ 6) (h5 : r 5 ≤ 8) : fcR q p f = fcR r p f := by
  have e0 : fr q f 0 = fr r f 0 := ho _ (by omega)
  have e1 : fr q f 1 = fr r f 1 := ho _ (by omega)
  have e2 : owedByM (dr q) (q 5) p = owedByM (dr r) (r 5) p := by
    rw [ho 5 (by omega)]
    exact sumZ_congr fun i i0 i1 => by rw [show dr q i 0 = dr r i 0 from ho _ (by omega), show dr q i 2 = dr r i 2 from ho _ (by omega)]
  have e3 : wholeM (pr q) p (pr q p 0) ↔ wholeM (pr r) p (pr r p 0) := by
    unfold wholeM
    rw [hp 0 (by omega) (by omega), hp 1 (by omega) (by omega)]
    constructor
    · intro h
      refine ⟨h.1, fun k k0 k1 => ?_⟩
      have := h.2 k k0 k1
      rw [hp (14 + k) (by omega) (by omega), hp (8 + k) (by omega) (by omega), hp (2 + k) (by omega) (by omega)] at this
      exact this
    · intro h
      refine ⟨h.1, fun k k0 k1 => ?_⟩
      rw [hp (14 + k) (by omega) (by omega), hp (8 + k) (by omega) (by omega), hp (2 + k) (by omega) (by omega)]
      exact h.2 k k0 k1
  funext j
  unfold fcR
  rw [e0, e1, e2, propext e3, hp 0 (by omega) (by omega), hp 1 (by omega) (by omega), ho 10 (by omega)]
theorem mltR_c {q r : Int → Int} {p f : Int} (ho : ∀ j, j < 11 ∨ (13 ≤ j ∧ j < 31) ∨ (151 ≤ j ∧ j < 175) ∨ 415 ≤ j → q j = r j) (hp : ∀ w, 0 ≤ w → w < 20 → pr q p w = pr r p w) (hf : 0 ≤ f ∧ f < 6) (hs : pr r p 0 ≤ 6) (h5 : r 5 ≤ 8) : mltR evL q p f = mltR evL r p f := by
  unfold mltR
  rw [fcR_c ho hp hf hs h5, lawD_eq (r := r) (q := q) (fun j hj => ho j (by omega)), show fr q f 0 = fr r f 0 from ho _ (by omega)]
theorem sn_sk {n : Int → Int} {r : Int → Int} {i : Int} (hi : i ≤ 6) (hA : AB r) : ∀ k : Nat, k ≤ 6 → snwP thV (skA n r k) i = skA n (snwP thV r i) k
  | 0, _ => rfl
  | k + 1, hk => by
    have ih := sn_sk (n := n) (i := i) hi hA k (by omega)
    have z := (skA_o (n := n) hA (j := 0) (by omega) k (by omega)).2 k (by omega) (by omega)
    have ep : ∀ w, 0 ≤ w → pr (skA n (snwP thV r i) k) k w = pr (skA n r k) k w := fun w w0 => by
      rw [← ih]
      exact snwP_o (j := 31 + 20 * (k : Int) + w) hi (by omega)
    show snwP thV (if pr (skA n r k) k 1 = -1 then skA n r k else sinkP (skA n r k) k (n k) 0 (pr (skA n r k) k 0)) i = if pr (skA n (snwP thV r i) k) k 1 = -1 then skA n (snwP thV r i) k else sinkP (skA n (snwP thV r i) k) k (n k) 0 (pr (skA n (snwP thV r i) k) k 0)
    rw [ep 1 (by omega), ep 0 (by omega)]
    split
    · exact ih
    · rw [← ih]
      obtain ⟨y, hy⟩ : ∃ y, y = skA n r k := ⟨_, rfl⟩
      rw [← hy] at z ⊢
      have s1 : ∀ (q : Int → Int) j, sinkP q k (n k) 0 (pr y k 0) j = if 45 + 20 * (k : Int) ≤ j ∧ j < 45 + 20 * (k : Int) + pr y k 0 then snkV (n k) 0 (q j) else q j := fun _ _ => rfl
      have so : ∀ (q : Int → Int) j, j < 45 → sinkP q k (n k) 0 (pr y k 0) j = q j := fun q j hj => by rw [s1, if_neg (by omega)]
      have w1 : ∀ (q : Int → Int) j, snwP thV q i j = if 14 ≤ j ∧ j < 13 + 3 * i ∧ (j - 14) % 3 = 0 then thV q j else q j := fun _ _ => rfl
      funext j
      by_cases c : 14 ≤ j ∧ j < 13 + 3 * i ∧ (j - 14) % 3 = 0
      · rw [w1, if_pos c, so _ _ (by omega), w1, if_pos c]
        unfold thV
        rw [so y j (by omega), so y (j - 1) (by omega)]
      · rw [w1, if_neg c, s1, s1, w1, if_neg c]
theorem RW_sni {S : Nat → Int → Int} {w : Nat} {r : Int → Int} {g : (Int → Int) → Int → Int} (hA : AB r) (hR : RW S w r) {i : Int} (hi : i ≤ r 3) : RW (snS S w (fun f => g r (14 + 3 * f)) i) w (snwP g r i) := by
  obtain ⟨⟨c0, c1, c2, c3⟩, cf, cp, cd, cl, cs⟩ := hR
  have b3 := hA.2.1.1
  have b4 := hA.2.1.2.1
  have b5 := hA.2.1.2.2.1
  have b11 := hA.2.1.2.2.2.2.2.2.1
  have ee : ∀ j, snwP g r i j = if 14 ≤ j ∧ j < 13 + 3 * i ∧ (j - 14) % 3 = 0 then g r j else r j := fun j => rfl
  have e : ∀ j, j < 14 ∨ 31 ≤ j → snwP g r i j = r j := fun j h => by rw [ee, if_neg (by omega)]
  obtain ⟨G, hG⟩ : ∃ G, G = fun f => g r (14 + 3 * f) := ⟨_, rfl⟩
  rw [← hG]
  have o : ∀ k : Nat, k ≠ 2 → snS S w G i (w + k) = S (w + k) := fun k hk => snS_o (by omega)
  have o0 : snS S w G i w = S w := snS_o (by omega)
  refine ⟨?_, fun f f0 f1 => ?_, fun q q0 q1 => ?_, ⟨?_, fun k k0 k1 => ?_⟩, ⟨?_, fun k c k0 k1 c0 c1 => ?_⟩, fun j j0 j1 => ?_⟩
  · rw [o0, e 3 (by omega), e 4 (by omega), e 12 (by omega), e 0 (by omega)]; exact ⟨c0, c1, c2, c3⟩
  · rw [e 3 (by omega)] at f1
    have h0 : fr (snwP g r i) f 0 = fr r f 0 := by show snwP g r i (13 + 3 * f + 0) = _; rw [ee, if_neg (by omega)]; rfl
    have h1 : fr (snwP g r i) f 1 = if f < i then g r (14 + 3 * f) else fr r f 1 := by
      show snwP g r i (13 + 3 * f + 1) = _
      by_cases z : f < i
      · rw [ee, if_pos (by omega), if_pos z, show 13 + 3 * f + 1 = 14 + 3 * f by omega]
      · rw [ee, if_neg (by omega), if_neg z]; rfl
    have h2 : fr (snwP g r i) f 2 = fr r f 2 := by show snwP g r i (13 + 3 * f + 2) = _; rw [ee, if_neg (by omega)]; rfl
    rw [o 1 (by decide), o 3 (by decide), snS_2, h0, h1, h2, hG]
    refine ⟨(cf f f0 f1).1, ?_, (cf f f0 f1).2.2⟩
    by_cases z : f < i
    · rw [if_pos ⟨f0, z⟩, if_pos z]
    · rw [if_neg (fun y => z y.2), if_neg z]; exact (cf f f0 f1).2.1
  · rw [e 4 (by omega)] at q1
    have w9 : ∀ a, 0 ≤ a → pr (snwP g r i) q a = pr r q a := fun a a0 => e _ (by omega)
    obtain ⟨d1, d2, d3, d4⟩ := cp q q0 q1
    rw [o 4 (by decide), o 5 (by decide), o 6 (by decide), o 7 (by decide), o 8 (by decide), w9 0 (by decide), w9 1 (by decide)]
    refine ⟨d1, d2, fun k k0 k1 => ?_, fun hq k k0 k1 => ?_⟩
    · rw [w9 _ (by omega)]; exact d3 k k0 k1
    · rw [w9 _ (by omega), w9 _ (by omega)]; exact d4 hq k k0 k1
  · rw [o 9 (by decide), e 5 (by omega)]; exact cd.1
  · rw [e 5 (by omega)] at k1
    have w9 : ∀ a, 0 ≤ a → dr (snwP g r i) k a = dr r k a := fun a a0 => e _ (by omega)
    rw [o 10 (by decide), o 11 (by decide), o 12 (by decide), w9 0 (by decide), w9 1 (by decide), w9 2 (by decide)]
    exact cd.2 k k0 k1
  · rw [o 13 (by decide), e 11 (by omega)]; exact cl.1
  · rw [e 11 (by omega)] at k1 ⊢
    have w9 : gr (snwP g r i) k c = gr r k c := e _ (by omega)
    rw [o 14 (by decide), w9]
    exact cl.2 k c k0 k1 c0 c1
  · rw [o 15 (by decide), e _ (by omega)]; exact cs j j0 j1
theorem mlt_rg {r : Int → Int} (hA : AB r) {p f : Int} (hf : 0 ≤ f ∧ f < r 3) : mltR evL r p f ≤ 1000 := by
  have y := AB_ff hA hf.1 hf.2
  have e := evL_rg (L := lawD r) (w := 0) (fc := fcR r p f)
  unfold mltR
  split <;> omega
theorem thV_c {q r : Int → Int} {f : Int} (h : ∀ j, j < 31 → q j = r j) (hf : f < 6) : thV q (14 + 3 * f) = thV r (14 + 3 * f) := by
  unfold thV
  rw [h _ (by omega), h _ (by omega)]
theorem thV_i {q : Int → Int} {i : Int} : thV (snwP thV q i) (14 + 3 * i) = thV q (14 + 3 * i) := by
  have e : ∀ j, 13 + 3 * i ≤ j → snwP thV q i j = q j := fun j hj => if_neg (by omega)
  show (if snwP thV q i (14 + 3 * i) - snwP thV q i (14 + 3 * i - 1) - 1 < 0 then 0 else snwP thV q i (14 + 3 * i) - snwP thV q i (14 + 3 * i - 1) - 1) = if q (14 + 3 * i) - q (14 + 3 * i - 1) - 1 < 0 then 0 else q (14 + 3 * i) - q (14 + 3 * i - 1) - 1
  rw [e _ (by omega), e _ (by omega)]
section Days7
variable {tb : Tab} {d : Nat} {m : AM} {K : Out → AM → Prop} {S : Nat → Int → Int} {w : Nat} {r : Int → Int}
theorem k5_0 : pg.1 5 0 = [.bipush 0, .istore 1, .jsr 2] := rfl
theorem a5_0 {tb : Tab} {d : Nat} {K : Out → AM → Prop} {ls st : List AV} {m : AM} : At tb d 5 K 0 ls st m = wpB tb (pg.2.1 5) (Runs tb pg d) K (At tb d 5 K) [.bipush 0, .istore 1, .jsr 2] ls st m := At.eq k5_0
theorem k5_2 : pg.1 5 2 = [.iload 1, .aload 0, .getfield 804, .if_icmp .ge 54, .aload 0, .getfield 807, .iload 1, .iaload, .istore 2, .iload 2, .bipush (-1), .if_icmp .eq 48, .aload 0, .iload 1, .iload 2, .invokeinterface 124 3, .istore 3, .aload 0, .iload 1, .aload 0, .iload 2, .invokeinterface 6 2, .ifCond .ne 44, .bipush 9, .goto 45] := rfl
theorem a5_2 {tb : Tab} {d : Nat} {K : Out → AM → Prop} {ls st : List AV} {m : AM} : At tb d 5 K 2 ls st m = wpB tb (pg.2.1 5) (Runs tb pg d) K (At tb d 5 K) [.iload 1, .aload 0, .getfield 804, .if_icmp .ge 54, .aload 0, .getfield 807, .iload 1, .iaload, .istore 2, .iload 2, .bipush (-1), .if_icmp .eq 48, .aload 0, .iload 1, .iload 2, .invokeinterface 124 3, .istore 3, .aload 0, .iload 1, .aload 0, .iload 2, .invokeinterface 6 2, .ifCond .ne 44, .bipush 9, .goto 45] ls st m := At.eq k5_2
theorem k5_44 : pg.1 5 44 = [.iload 3, .jsr 45] := rfl
theorem a5_44 {tb : Tab} {d : Nat} {K : Out → AM → Prop} {ls st : List AV} {m : AM} : At tb d 5 K 44 ls st m = wpB tb (pg.2.1 5) (Runs tb pg d) K (At tb d 5 K) [.iload 3, .jsr 45] ls st m := At.eq k5_44
theorem k5_45 : pg.1 5 45 = [.invokeinterface 7 3, .jsr 48] := rfl
theorem a5_45 {tb : Tab} {d : Nat} {K : Out → AM → Prop} {ls st : List AV} {m : AM} : At tb d 5 K 45 ls st m = wpB tb (pg.2.1 5) (Runs tb pg d) K (At tb d 5 K) [.invokeinterface 7 3, .jsr 48] ls st m := At.eq k5_45
theorem k5_48 : pg.1 5 48 = [.iinc 1 1, .goto 2] := rfl
theorem a5_48 {tb : Tab} {d : Nat} {K : Out → AM → Prop} {ls st : List AV} {m : AM} : At tb d 5 K 48 ls st m = wpB tb (pg.2.1 5) (Runs tb pg d) K (At tb d 5 K) [.iinc 1 1, .goto 2] ls st m := At.eq k5_48
theorem k5_54 : pg.1 5 54 = [.bipush 0, .istore 1, .jsr 56] := rfl
theorem a5_54 {tb : Tab} {d : Nat} {K : Out → AM → Prop} {ls st : List AV} {m : AM} : At tb d 5 K 54 ls st m = wpB tb (pg.2.1 5) (Runs tb pg d) K (At tb d 5 K) [.bipush 0, .istore 1, .jsr 56] ls st m := At.eq k5_54
theorem k5_56 : pg.1 5 56 = [.iload 1, .aload 0, .getfield 800, .if_icmp .ge 81, .aload 0, .getfield 802, .iload 1, .aload 0, .iload 1, .invokeinterface 6 2, .iastore, .iinc 1 1, .goto 56] := rfl
theorem a5_56 {tb : Tab} {d : Nat} {K : Out → AM → Prop} {ls st : List AV} {m : AM} : At tb d 5 K 56 ls st m = wpB tb (pg.2.1 5) (Runs tb pg d) K (At tb d 5 K) [.iload 1, .aload 0, .getfield 800, .if_icmp .ge 81, .aload 0, .getfield 802, .iload 1, .aload 0, .iload 1, .invokeinterface 6 2, .iastore, .iinc 1 1, .goto 56] ls st m := At.eq k5_56
theorem k5_81 : pg.1 5 81 = [.return_] := rfl
theorem a5_81 {tb : Tab} {d : Nat} {K : Out → AM → Prop} {ls st : List AV} {m : AM} : At tb d 5 K 81 ls st m = wpB tb (pg.2.1 5) (Runs tb pg d) K (At tb d 5 K) [.return_] ls st m := At.eq k5_81
theorem w_5 (hw : isW w) (hR : RW S w r) (hA : AB r) (hlo : LWo m (S w 15) (lawD r)) (hK : ∀ T m1, RW T w (snwP thV (skA (nT r) r (r 4).toNat) (r 3)) → EW S T w → T w 15 = S w 15 → MS m m1 → K (.inl none) (X T m1)) : Runs tb pg (d + 4) 5 [vr w] (X S m) K := by
  have b3 := hA.2.1.1
  have b4 := hA.2.1.2.1
  have b5 := hA.2.1.2.2.1
  have e0 := hR.1.1
  have e4 := hR.1.2.1
  have h56 : ∀ (T0 : Nat → Int → Int) (m1 : AM) (z2 z3 : AV), RW T0 w (skA (nT r) r (r 4).toNat) → EW S T0 w → T0 w 15 = S w 15 → MS m m1 → At tb (d + 3) 5 K 56 [vr w, vi 0, z2, z3] [] (X T0 m1) := by
    intro T0 m1 z2 z3 hT0 hE0 hl0 hM0
    obtain ⟨k1, k2⟩ := skA_AB (n := nT r) hA (fun _ => nT_0) (r 4).toNat (by omega)
    have k3 : skA (nT r) r (r 4).toNat 3 = r 3 := (skA_o (n := nT r) hA (j := 3) (by omega) _ (by omega)).1
    obtain ⟨q, hq⟩ : ∃ q, q = skA (nT r) r (r 4).toNat := ⟨_, rfl⟩
    rw [← hq] at k1 k2 k3 hT0
    have hfin : ∀ T, T = snS T0 w (fun f => thV q (14 + 3 * f)) (r 3) → K (.inl none) (X T m1) := fun T e => by
      rw [e, ← k3]
      refine hK _ m1 ?_ (EW_t hE0 snS_EW) (by rw [snS_o (by omega)]; exact hl0) hM0
      rw [← hq, ← k3]
      exact RW_sn k1 hT0
    have hL56 : (fun i : Int => ∀ (T : Nat → Int → Int), (T = snS T0 w (fun f => thV q (14 + 3 * f)) i) → At tb (d + 3) 5 K 56 [vr w, vi i, z2, z3] [] (X T m1)) 0 := by
      refine loopZ (fun i : Int => ∀ (T : Nat → Int → Int), (T = snS T0 w (fun f => thV q (14 + 3 * f)) i) → At tb (d + 3) 5 K 56 [vr w, vi i, z2, z3] [] (X T m1)) (r 3) (by omega) ?_ ?_
      · intro i h0 h1 h9 T hT
        have t0 : T w 0 = r 3 := by rw [hT, snS_o (by omega), ← k3]; exact hT0.1.1
        have a1 : AB (snwP thV q i) := snwP_AB (by omega) (th_rg k1) k1
        have r1 : RW T w (snwP thV q i) := by rw [hT]; exact RW_sni k1 hT0 (by omega)
        have e3 : snwP thV q i 3 = r 3 := (snwP_o (by omega) (by omega)).trans k3
        have ti := thV_i (q := q) (i := i)
        rw [a5_56]
        repeat' (first | omega | with_reducible refine h9 _ ?_ | simp only [w_iconst, w_istore, w_fall, Int.reduceToNat, w_iload, w_aload, x_g804_w0, w_ifc, cI, x_g807_w0, x_iald, w_ialoads, w_ialoadw, w_call, w_if, w_goto, w_iinc, lgB, Nat.reduceSub, x_g800_w0, x_g802_w0, x_iast, w_return, isA_w1, isA_w2, isA_w3, isA_w4, isA_w5, isA_w6, isA_w7, isA_w8, isA_w10, isA_w11, isA_w12, isA_w14, isA_w15, isA_w16, len_w1, len_w2, len_w3, len_w4, len_w5, len_w6, len_w7, len_w8, len_w10, len_w11, len_w12, len_w14, len_w15, len_w16, Int.cast_ofNat_Int, a5_0, a5_44, a5_45, a5_48, a5_54, a5_81, R32, List.getElem?_cons_zero, List.getElem?_cons_succ, List.set_cons_zero, List.set_cons_succ, List.cons_append, List.nil_append, List.replicate_succ, List.replicate_zero, List.take_succ_cons, List.take_zero, List.drop_succ_cons, List.drop_zero, List.reverse_cons, List.reverse_nil, List.length_cons, List.length_nil, Option.toList, true_and, and_true, eq_self, ↓reduceIte, not_true_eq_false, not_false_eq_true, true_or, or_true, hw] | with_reducible refine w_6 hw r1 a1 ⟨?_, ?_⟩ (fun v1 x1 y1 u1 => ?_) | with_reducible refine And.intro ?_ ?_ | with_reducible intro _)
        all_goals (try (first | omega | contradiction | (refine snS_s h0 hT ?_; rw [x1, ti])))
      · intro T hT
        have t0 : T w 0 = r 3 := by rw [hT, snS_o (by omega), ← k3]; exact hT0.1.1
        rw [a5_56]
        repeat' (first | omega | (exact hfin _ hT) | simp only [w_iconst, w_istore, w_fall, Int.reduceToNat, w_iload, w_aload, x_g804_w0, w_ifc, cI, x_g807_w0, x_iald, w_ialoads, w_ialoadw, w_call, w_if, w_goto, w_iinc, lgB, Nat.reduceSub, x_g800_w0, x_g802_w0, x_iast, w_return, isA_w1, isA_w2, isA_w3, isA_w4, isA_w5, isA_w6, isA_w7, isA_w8, isA_w10, isA_w11, isA_w12, isA_w14, isA_w15, isA_w16, len_w1, len_w2, len_w3, len_w4, len_w5, len_w6, len_w7, len_w8, len_w10, len_w11, len_w12, len_w14, len_w15, len_w16, Int.cast_ofNat_Int, a5_0, a5_44, a5_45, a5_48, a5_54, a5_81, R32, List.getElem?_cons_zero, List.getElem?_cons_succ, List.set_cons_zero, List.set_cons_succ, List.cons_append, List.nil_append, List.replicate_succ, List.replicate_zero, List.take_succ_cons, List.take_zero, List.drop_succ_cons, List.drop_zero, List.reverse_cons, List.reverse_nil, List.length_cons, List.length_nil, Option.toList, true_and, and_true, eq_self, ↓reduceIte, not_true_eq_false, not_false_eq_true, true_or, or_true, hw] | with_reducible refine w_6 hw r1 a1 ⟨?_, ?_⟩ (fun v1 x1 y1 u1 => ?_) | with_reducible refine And.intro ?_ ?_ | with_reducible intro _)
        all_goals (try (first | omega | contradiction | omega))
    exact hL56 _ snS_0
  have hL2 : (fun i : Int => ∀ (z2 : AV) (z3 : AV) (m1 : AM) (T : Nat → Int → Int), (RW T w (skA (nT r) r i.toNat)) → (EW S T w) → (T w 15 = S w 15) → (MS m m1) → At tb (d + 3) 5 K 2 [vr w, vi i, z2, z3] [] (X T m1)) 0 := by
    refine loopZ (fun i : Int => ∀ (z2 : AV) (z3 : AV) (m1 : AM) (T : Nat → Int → Int), (RW T w (skA (nT r) r i.toNat)) → (EW S T w) → (T w 15 = S w 15) → (MS m m1) → At tb (d + 3) 5 K 2 [vr w, vi i, z2, z3] [] (X T m1)) (r 4) (by omega) ?_ ?_
    · intro i h0 h1 h9 z2 z3 m1 T hT hE hl hM
      obtain ⟨k1, k2⟩ := skA_AB (n := nT r) hA (fun _ => nT_0) i.toNat (by omega)
      have ho : ∀ j, j < 31 ∨ 151 ≤ j → skA (nT r) r i.toNat j = r j := fun j hj => (skA_o (n := nT r) hA hj i.toNat (by omega)).1
      have hp9 : ∀ w, 0 ≤ w → w < 20 → pr (skA (nT r) r i.toNat) i w = pr r i w := fun w w0 w1 => skA_p (n := nT r) hA w0 w1 i.toNat (by omega) (by omega)
      have sy := skA_y (n := nT r) (r := r) h0
      have sn := skA_n (n := nT r) (r := r) h0
      obtain ⟨q, hq⟩ : ∃ q, q = skA (nT r) r i.toNat := ⟨_, rfl⟩
      rw [← hq] at k1 k2 hT ho hp9 sy sn
      have t4 : T w 4 = r 4 := hT.1.2.1.trans k2
      have z := AB_pp k1 h0 (by omega)
      have k3 := k1.2.1.1
      have t6 := (hT.2.2.1 i h0 (by omega)).2.1
      have e1 := hp9 1 (by omega) (by omega)
      have e0 := hp9 0 (by omega) (by omega)
      have e3 := ho 3 (by omega)
      have hpi : 0 ≤ i ∧ i < q 4 := by omega
      have hlw : LWo m1 (T w 15) (lawD q) := by rw [hl, lawD_eq (r := r) (q := q) (fun j hj => ho j (by omega))]; exact LWo_s hM hlo
      have hmq : pr r i 1 ≠ -1 → mltR evL q i (pr r i 1) = mltR evL r i (pr r i 1) := fun y => mltR_c (fun j hj => ho j (by omega)) hp9 (by omega) (by omega) b5.2
      have hml : pr r i 1 ≠ -1 → mltR evL r i (pr r i 1) ≤ 1000 := fun y => mlt_rg hA (by omega)
      have hm0 : 0 ≤ mltR evL r i (pr r i 1) := mltR_0
      have htq : pr r i 1 ≠ -1 → thV q (14 + 3 * pr r i 1) = thV r (14 + 3 * pr r i 1) := fun y => thV_c (fun j hj => ho j (by omega)) (by omega)
      rw [e1] at t6
      have n9 : thV r (14 + 3 * pr r i 1) = 0 → nT r i = 9 := fun y => if_pos y
      have n8 : thV r (14 + 3 * pr r i 1) ≠ 0 → nT r i = mltR evL r i (pr r i 1) := fun y => if_neg y
      rw [a5_2]
      repeat' (first | omega | with_reducible refine h9 _ _ _ _ ?_ ?_ ?_ ?_ | simp only [w_iconst, w_istore, w_fall, Int.reduceToNat, w_iload, w_aload, x_g804_w0, w_ifc, cI, x_g807_w0, x_iald, w_ialoads, w_ialoadw, w_call, w_if, w_goto, w_iinc, lgB, Nat.reduceSub, x_g800_w0, x_g802_w0, x_iast, w_return, isA_w1, isA_w2, isA_w3, isA_w4, isA_w5, isA_w6, isA_w7, isA_w8, isA_w10, isA_w11, isA_w12, isA_w14, isA_w15, isA_w16, len_w1, len_w2, len_w3, len_w4, len_w5, len_w6, len_w7, len_w8, len_w10, len_w11, len_w12, len_w14, len_w15, len_w16, Int.cast_ofNat_Int, a5_0, a5_44, a5_45, a5_48, a5_54, a5_81, R32, List.getElem?_cons_zero, List.getElem?_cons_succ, List.set_cons_zero, List.set_cons_succ, List.cons_append, List.nil_append, List.replicate_succ, List.replicate_zero, List.take_succ_cons, List.take_zero, List.drop_succ_cons, List.drop_zero, List.reverse_cons, List.reverse_nil, List.length_cons, List.length_nil, Option.toList, true_and, and_true, eq_self, ↓reduceIte, not_true_eq_false, not_false_eq_true, true_or, or_true, hw, up_ne, ne_eq, Nat.reduceEqDiff, not_false_eq_true] | (have q0 : pr r i 1 ≠ -1 := (by omega); have q1 : pr q i 1 ≠ -1 := (by omega); with_reducible refine w_124 hw hT k1 hpi ?_ hlw (fun T2 m2 v2 x2 F2 M2 => ?_)) | with_reducible refine w_6 hw (RW_F hT F2) k1 ?_ (fun v3 x3 y3 u3 => ?_) | with_reducible refine w_7 hw (RW_F hT F2) k1 hpi q1 ?_ ?_ | with_reducible refine And.intro ?_ ?_ | with_reducible intro _)
      all_goals (try (first | omega | contradiction | (rw [sy (by omega)]; exact hT) | exact hE | exact hl | exact hM | exact MS_t hM M2 | exact EW_t hE (EW_t (FT_EW F2) lsS_EW) | (rw [lsS_o (by omega), F2 w (by omega)]; exact hl) | (rw [t6] at x2 x3; rw [hmq q0] at x2; rw [htq q0] at x3; first | omega | (rw [sn q1]; have nn : nT r i = 9 := (n9 (by omega)); rw [nn]; exact RW_ls k1 (RW_F hT F2) hpi.1 hpi.2) | (rw [sn q1]; have nn : nT r i = v2 := ((n8 (by omega)).trans x2.symm); rw [nn]; exact RW_ls k1 (RW_F hT F2) hpi.1 hpi.2))))
    · intro z2 z3 m1 T hT hE hl hM
      obtain ⟨k1, k2⟩ := skA_AB (n := nT r) hA (fun _ => nT_0) (r 4).toNat (by omega)
      have t4 : T w 4 = r 4 := hT.1.2.1.trans k2
      rw [a5_2]
      repeat' (first | omega | (exact h56 _ _ _ _ hT hE hl hM) | simp only [w_iconst, w_istore, w_fall, Int.reduceToNat, w_iload, w_aload, x_g804_w0, w_ifc, cI, x_g807_w0, x_iald, w_ialoads, w_ialoadw, w_call, w_if, w_goto, w_iinc, lgB, Nat.reduceSub, x_g800_w0, x_g802_w0, x_iast, w_return, isA_w1, isA_w2, isA_w3, isA_w4, isA_w5, isA_w6, isA_w7, isA_w8, isA_w10, isA_w11, isA_w12, isA_w14, isA_w15, isA_w16, len_w1, len_w2, len_w3, len_w4, len_w5, len_w6, len_w7, len_w8, len_w10, len_w11, len_w12, len_w14, len_w15, len_w16, Int.cast_ofNat_Int, a5_0, a5_44, a5_45, a5_48, a5_54, a5_81, R32, List.getElem?_cons_zero, List.getElem?_cons_succ, List.set_cons_zero, List.set_cons_succ, List.cons_append, List.nil_append, List.replicate_succ, List.replicate_zero, List.take_succ_cons, List.take_zero, List.drop_succ_cons, List.drop_zero, List.reverse_cons, List.reverse_nil, List.length_cons, List.length_nil, Option.toList, true_and, and_true, eq_self, ↓reduceIte, not_true_eq_false, not_false_eq_true, true_or, or_true, hw, up_ne, ne_eq, Nat.reduceEqDiff, not_false_eq_true] | (have q0 : pr r i 1 ≠ -1 := (by omega); have q1 : pr q i 1 ≠ -1 := (by omega); with_reducible refine w_124 hw hT k1 hpi ?_ hlw (fun T2 m2 v2 x2 F2 M2 => ?_)) | with_reducible refine w_6 hw (RW_F hT F2) k1 ?_ (fun v3 x3 y3 u3 => ?_) | with_reducible refine w_7 hw (RW_F hT F2) k1 hpi q1 ?_ ?_ | with_reducible refine And.intro ?_ ?_ | with_reducible intro _)
      all_goals (try (first | omega | contradiction | omega))
  refine Runs.of (al := [vr w]) (n := 3) trivial rfl rfl trivial ?_
  repeat' (first | omega | with_reducible refine hL2 _ _ _ _ ?_ ?_ ?_ ?_ | simp only [w_iconst, w_istore, w_fall, Int.reduceToNat, w_iload, w_aload, x_g804_w0, w_ifc, cI, x_g807_w0, x_iald, w_ialoads, w_ialoadw, w_call, w_if, w_goto, w_iinc, lgB, Nat.reduceSub, x_g800_w0, x_g802_w0, x_iast, w_return, isA_w1, isA_w2, isA_w3, isA_w4, isA_w5, isA_w6, isA_w7, isA_w8, isA_w10, isA_w11, isA_w12, isA_w14, isA_w15, isA_w16, len_w1, len_w2, len_w3, len_w4, len_w5, len_w6, len_w7, len_w8, len_w10, len_w11, len_w12, len_w14, len_w15, len_w16, Int.cast_ofNat_Int, a5_0, a5_44, a5_45, a5_48, a5_54, a5_81, R32, List.getElem?_cons_zero, List.getElem?_cons_succ, List.set_cons_zero, List.set_cons_succ, List.cons_append, List.nil_append, List.replicate_succ, List.replicate_zero, List.take_succ_cons, List.take_zero, List.drop_succ_cons, List.drop_zero, List.reverse_cons, List.reverse_nil, List.length_cons, List.length_nil, Option.toList, true_and, and_true, eq_self, ↓reduceIte, not_true_eq_false, not_false_eq_true, true_or, or_true, hw] | with_reducible refine And.intro ?_ ?_ | with_reducible intro _)
  all_goals (try (first | omega | (exfalso; assumption) | exact hR | exact EW_r | rfl | exact MS_r))
end Days7
