/-! ===== THE CLASS: people put anew, so that the most last ===== -/
/-- the first i people are all put on one field -/
def allP (e : Int → Int) (r : Int → Int) (f : Int) : Nat → Int → Int
  | 0 => r
  | i + 1 => wrtP (allP e r f i) i f (e i) (pr (allP e r f i) i 0)
theorem allP_s {e : Int → Int} {r : Int → Int} {f i : Int} (h : 0 ≤ i) : allP e r f (i + 1).toNat = wrtP (allP e r f i.toNat) i f (e i) (pr (allP e r f i.toNat) i 0) := by
  rw [show (i + 1).toNat = i.toNat + 1 by omega]
  show wrtP _ (i.toNat : Int) f (e (i.toNat : Int)) (pr _ (i.toNat : Int) 0) = _
  rw [Int.toNat_of_nonneg h]
theorem SP_wk {p k f n i : Int} {q : Int → Int} (hk : k ≠ p) (h0 : 0 ≤ k) (h1 : k < 6) (i1 : i ≤ 6) : SP p (wrtP q k f n i) q :=
  ⟨fun j hj => wrtP_o h0 h1 i1 (by omega), fun w w0 w1 => by rw [wrtP_q i1 w0 w1, if_neg (by omega), if_neg (by omega), if_neg (by omega)]⟩
theorem allP_AB {e : Int → Int} {r : Int → Int} {f : Int} (hA : AB r) (hf : 0 ≤ f ∧ f < r 3) (he : ∀ k, 0 ≤ e k ∧ e k ≤ 9) : ∀ i : Nat, i ≤ 6 → AB (allP e r f i) ∧ ∀ j, j < 31 ∨ 151 ≤ j → allP e r f i j = r j
  | 0, _ => ⟨hA, fun _ _ => rfl⟩
  | i + 1, h => by
    obtain ⟨a, o⟩ := allP_AB hA hf he i (by omega)
    have z := (a.2.2.1 i (by omega) (by omega)).1
    have e3 := o 3 (by omega)
    exact ⟨wrtP_AB (by omega) (by omega) z.1 z.2 (by omega) (he i) a, fun j hj => (wrtP_o (by omega) (by omega) z.2 hj).trans (o j hj)⟩
theorem allP_SP {e : Int → Int} {r : Int → Int} {f p : Int} (hA : AB r) (hf : 0 ≤ f ∧ f < r 3) (he : ∀ k, 0 ≤ e k ∧ e k ≤ 9) (p0 : 0 ≤ p) (p1 : p < 6) : ∀ i : Nat, i ≤ 6 → SP p (allP e r f i) (if p < i then wrtP r p f (e p) (pr r p 0) else r)
  | 0, _ => by rw [if_neg (by omega)]; exact SP_r
  | i + 1, h => by
    have ih := allP_SP hA hf he p0 p1 i (by omega)
    have a := (allP_AB hA hf he i (by omega)).1
    have z := (a.2.2.1 i (by omega) (by omega)).1
    show SP p (wrtP (allP e r f i) i f (e i) (pr (allP e r f i) i 0)) _
    by_cases y : (i : Int) = p
    · rw [if_neg (by omega)] at ih
      rw [if_pos (by omega), y, ih.2 0 (by omega) (by omega)]
      rw [y, ih.2 0 (by omega) (by omega)] at z
      exact SP_wrt ih p0 p1 z.1 z.2
    · refine SP_t (SP_wk y (by omega) (by omega) z.2) ?_
      by_cases x : p < i
      · rw [if_pos x] at ih; rw [if_pos (by omega)]; exact ih
      · rw [if_neg x] at ih; rw [if_neg (by omega)]; exact ih
/-- whole still, put on a field -/
def lasW (r : Int → Int) (n p f : Int) : Prop := wholeM (pr (goN evL 0 (wrtR evL r p f) n.toNat)) p (pr (goN evL 0 (wrtR evL r p f) n.toNat) p 0)
theorem las_all {r : Int → Int} {n p f : Int} (hA : AB r) (hf : 0 ≤ f ∧ f < r 3) (hp : 0 ≤ p ∧ p < r 4) : wholeM (pr (goN evL 0 (allP (fun k => dptR evL r k f) r f (r 4).toNat) n.toNat)) p (pr (goN evL 0 (allP (fun k => dptR evL r k f) r f (r 4).toNat) n.toNat) p 0) ↔ lasW r n p f := by
  have b4 := hA.2.1.2.1
  have s := allP_SP (e := fun k => dptR evL r k f) hA hf (fun k => dpt_rg) hp.1 (by omega) (r 4).toNat (by omega)
  rw [if_pos (by omega)] at s
  have a := (allP_AB (e := fun k => dptR evL r k f) hA hf (fun k => dpt_rg) (r 4).toNat (by omega)).1
  exact go_wh hp.1 (by omega) a (wrtR_AB hp.1 (by omega) hf dpt_rg hA) s _
def stR (r : Int → Int) (n f : Int) (S T : Nat → Int → Int) (i : Int) : Prop := (∀ p, 0 ≤ p → p < i → yn (T 88 (6 * p + f)) (lasW r n p f)) ∧ ∀ j, (∀ p, 0 ≤ p → p < i → j ≠ 6 * p + f) → T 88 j = S 88 j
theorem stR_0 {r : Int → Int} {n f : Int} {S T : Nat → Int → Int} (h : T 88 = S 88) : stR r n f S T 0 := ⟨fun p p0 p1 => by omega, fun j _ => by rw [h]⟩
theorem stR_s {r : Int → Int} {n f i v : Int} {S T : Nat → Int → Int} (h : stR r n f S T i) (h0 : 0 ≤ i) (hv : yn v (lasW r n i f)) : stR r n f S (upS T 88 (6 * i + f) v) (i + 1) := by
  refine ⟨fun p p0 p1 => ?_, fun j hj => ?_⟩
  · rw [upS_at]
    by_cases z : p = i
    · subst z; rw [if_pos ⟨rfl, rfl⟩]; exact hv
    · rw [if_neg (by omega)]; exact h.1 p p0 (by omega)
  · rw [upS_at, if_neg (fun y => hj i h0 (by omega) y.2)]
    exact h.2 j (fun p p0 p1 => hj p p0 (by omega))
/-- the same but for the World of Lasting, what stays, and the facts of v -/
def EGr (S T : Nat → Int → Int) (v : Nat) : Prop := ∀ a, a < 71 ∨ 89 ≤ a → a ≠ v + 16 → T a = S a
theorem EGr_r {S : Nat → Int → Int} {v : Nat} : EGr S S v := fun _ _ _ => rfl
theorem EGr_E {S T : Nat → Int → Int} {v : Nat} (h : EFr S T v) : EGr S T v := fun a ha hb => h a (by omega) hb
theorem EGr_t {S T U : Nat → Int → Int} {v : Nat} (h : EGr S T v) (g : EGr T U v) : EGr S U v := fun a ha hb => (g a ha hb).trans (h a ha hb)
theorem EGr_u {S T : Nat → Int → Int} {v : Nat} {i x : Int} (h : EGr S T v) : EGr S (upS T 88 i x) v := fun a ha hb => (if_neg (by omega)).trans (h a ha hb)
theorem EFr_U {S T U : Nat → Int → Int} {v : Nat} (h : EFr S T v) (g : EW T U 71) : EFr S U v := EFr_t h (EFr_W g)
def zoB (f : Int → Int) : Prop := ∀ j, 0 ≤ j → j < 36 → f j = 0 ∨ f j = 1
/-- sums over those behind -/
def saN (a : Int → Int) (np : Int) : Nat → Int
  | 0 => 0
  | k + 1 => saN a np k + a (np - (k + 1))
theorem saN_rg {a : Int → Int} {np : Int} (h : ∀ k, 0 ≤ a k ∧ a k ≤ 1) : ∀ k : Nat, 0 ≤ saN a np k ∧ saN a np k ≤ k
  | 0 => ⟨Int.le_refl _, Int.le_refl _⟩
  | k + 1 => by
    have := saN_rg (np := np) h k
    have := h (np - (k + 1))
    show 0 ≤ saN a np k + a (np - (k + 1)) ∧ saN a np k + a (np - (k + 1)) ≤ ((k + 1 : Nat) : Int)
    omega
section way
variable {P F : Int → Int → Int} {L : Int → Int → Prop} {c w : Int → Int} {nf np : Int}
theorem tl_s {n : Int} (hn : 0 ≤ n) : ∀ k : Nat, tlW L w (n + 1) k = tlW L w n k + @ite _ ((0 ≤ w n ∧ w n < k) ∧ L n (w n)) (Classical.propDecidable _) 1 0
  | 0 => by
    rw [if_neg (by omega)]
    rfl
  | k + 1 => by
    have ih := tl_s hn k
    have e1 : tlW L w (n + 1) ((k + 1 : Nat) : Int) = tlW L w (n + 1) k + ctW L w k (n + 1) := by rw [show ((k + 1 : Nat) : Int) = (k : Int) + 1 by omega]; exact sumZ_s (by omega)
    have e2 : tlW L w n ((k + 1 : Nat) : Int) = tlW L w n k + ctW L w k n := by rw [show ((k + 1 : Nat) : Int) = (k : Int) + 1 by omega]; exact sumZ_s (by omega)
    rw [e1, e2, ih]
    by_cases y : w n = k ∧ L n k
    · rw [ctW_y hn y.1 y.2, if_neg (by omega), if_pos ⟨by omega, by rw [y.1]; exact y.2⟩]
      omega
    · rw [ctW_n hn y]
      by_cases x : (0 ≤ w n ∧ w n < k) ∧ L n (w n)
      · rw [if_pos x, if_pos ⟨by omega, x.2⟩]; omega
      · rw [if_neg x, if_neg (fun z => by
          by_cases q : w n = k
          · exact y ⟨q, by rw [← q]; exact z.2⟩
          · exact x ⟨by omega, z.2⟩)]
        omega
theorem tl_z {n : Int} (hn : 0 ≤ n) (hk : 0 ≤ nf) : tlW L w (n + 1) nf = tlW L w n nf + @ite _ ((0 ≤ w n ∧ w n < nf) ∧ L n (w n)) (Classical.propDecidable _) 1 0 := by
  have := tl_s (L := L) (w := w) hn nf.toNat
  rw [Int.toNat_of_nonneg hk] at this
  exact this
theorem tl_le {a : Int → Int} (hk : 0 ≤ nf) (ha : ∀ p, 0 ≤ p → p < np → (∃ f, 0 ≤ f ∧ f < nf ∧ L p f) → a p = 1) (ha0 : ∀ k, 0 ≤ a k) : ∀ m : Nat, (m : Int) ≤ np → tlW L w np nf ≤ tlW L w (np - m) nf + saN a np m
  | 0, _ => by
    rw [show np - ((0 : Nat) : Int) = np by omega]
    show _ ≤ _ + (0 : Int)
    omega
  | m + 1, h => by
    have ih := tl_le hk ha ha0 m (by omega)
    have e := tl_z (L := L) (w := w) (n := np - ((m : Int) + 1)) (by omega) hk
    rw [show np - ((m : Int) + 1) + 1 = np - m by omega] at e
    rw [e] at ih
    show _ ≤ tlW L w (np - ((m + 1 : Nat) : Int)) nf + (saN a np m + a (np - (m + 1)))
    rw [show np - ((m + 1 : Nat) : Int) = np - ((m : Int) + 1) by omega]
    have g : @ite Int ((0 ≤ w (np - ((m : Int) + 1)) ∧ w (np - ((m : Int) + 1)) < nf) ∧ L (np - ((m : Int) + 1)) (w (np - ((m : Int) + 1)))) (Classical.propDecidable _) 1 0 ≤ a (np - (m + 1)) := by
      by_cases y : (0 ≤ w (np - ((m : Int) + 1)) ∧ w (np - ((m : Int) + 1)) < nf) ∧ L (np - ((m : Int) + 1)) (w (np - ((m : Int) + 1)))
      · rw [if_pos y, ha _ (by omega) (by omega) ⟨_, y.1.1, y.1.2, y.2⟩]
        exact Int.le_refl _
      · rw [if_neg y]; exact ha0 _
    omega
theorem tl_congr {n : Int} (h : ∀ k, 0 ≤ k → k < n → w k = c k) : tlW L w n nf = tlW L c n nf := sumZ_congr fun f _ _ => sumZ_congr fun p p0 p1 => by rw [h p p0 p1]
theorem in_congr {n f : Int} (h : ∀ k, 0 ≤ k → k < n → w k = c k) : inW P w f n = inW P c f n := sumZ_congr fun p p0 p1 => by rw [h p p0 p1]
theorem in_mono {f p : Int} (hP : ∀ k, 0 ≤ k → k < np → 0 ≤ P k 0) (h0 : 0 ≤ p) : ∀ m : Nat, p + m ≤ np → inW P w f p ≤ inW P w f (p + m)
  | 0, _ => by rw [show p + ((0 : Nat) : Int) = p by omega]; exact Int.le_refl _
  | m + 1, h => by
    have ih := in_mono (f := f) hP h0 m (by omega)
    rw [show p + ((m + 1 : Nat) : Int) = (p + m) + 1 by omega, inW_s (by omega)]
    have := hP (p + m) (by omega) (by omega)
    split <;> omega
/-- a number and its first figures -/
theorem nr_split {B : Int} (hB : 0 ≤ B) {n : Nat} : ∀ m : Nat, (∀ k : Int, 0 ≤ k → k < (n + m : Nat) → 0 ≤ w k ∧ w k ≤ B) → ∃ x, nrN B w (n + m) = nrN B w n * pwN B m + x ∧ 0 ≤ x ∧ x < pwN B m
  | 0, _ => ⟨0, by show nrN B w n = nrN B w n * 1 + 0; omega, Int.le_refl _, by show (0 : Int) < 1; decide⟩
  | m + 1, h => by
    obtain ⟨x, h1, h2, h3⟩ := nr_split (n := n) hB m (fun k k0 k1 => h k k0 (by omega))
    have g := h ((n + m : Nat) : Int) (by omega) (by omega)
    refine ⟨x * (B + 1) + w ((n + m : Nat) : Int), ?_, ?_, ?_⟩
    · show nrN B w (n + m) * (B + 1) + w ((n + m : Nat) : Int) = nrN B w n * (pwN B m * (B + 1)) + _
      rw [h1, Int.add_mul, Int.mul_assoc]
      omega
    · have : 0 ≤ x * (B + 1) := Int.mul_nonneg h2 (by omega)
      omega
    · show _ < pwN B m * (B + 1)
      have : x * (B + 1) + (B + 1) ≤ pwN B m * (B + 1) := by
        rw [show x * (B + 1) + (B + 1) = (x + 1) * (B + 1) by rw [Int.add_mul, Int.one_mul]]
        exact Int.mul_le_mul_of_nonneg_right (by omega) (by omega)
      omega
theorem pwN_pos {B : Int} (hB : 0 ≤ B) : ∀ m : Nat, 0 < pwN B m
  | 0 => by show (0 : Int) < 1; decide
  | m + 1 => Int.mul_pos (pwN_pos hB m) (by omega)
/-- those whose number lies there have these first figures -/
theorem nr_pre {B : Int} (hB : 0 ≤ B) {n m : Nat} (hw : ∀ k : Int, 0 ≤ k → k < (n + m : Nat) → 0 ≤ w k ∧ w k ≤ B) (hc : ∀ k : Int, 0 ≤ k → k < n → 0 ≤ c k ∧ c k ≤ B) (h0 : nrN B c n * pwN B m ≤ nrN B w (n + m)) (h1 : nrN B w (n + m) < (nrN B c n + 1) * pwN B m) : ∀ k : Int, 0 ≤ k → k < n → w k = c k := by
  obtain ⟨x, e, x0, x1⟩ := nr_split hB (n := n) m hw
  have pp := pwN_pos hB m
  refine nrN_inj hB n (fun k k0 k1 => hw k k0 (by omega)) hc ?_
  rcases Int.lt_trichotomy (nrN B w n) (nrN B c n) with y | y | y
  · have : (nrN B w n + 1) * pwN B m ≤ nrN B c n * pwN B m := Int.mul_le_mul_of_nonneg_right (by omega) (by omega)
    rw [Int.add_mul, Int.one_mul] at this
    omega
  · exact y
  · have : (nrN B c n + 1) * pwN B m ≤ nrN B w n * pwN B m := Int.mul_le_mul_of_nonneg_right (by omega) (by omega)
    omega
theorem bst_skip {by_ : (Int → Int) → Int} {i j mo : Int} (h : bstW nf np by_ i mo c) (hij : i ≤ j) (g : ∀ w, okW nf w → i ≤ nrZ nf np w → nrZ nf np w < j → by_ w ≤ mo) : bstW nf np by_ j mo c := by
  refine ⟨fun w hw hj => ?_, ?_⟩
  · by_cases y : nrZ nf np w < i
    · exact h.1 w hw y
    · exact g w hw (by omega) hj
  · rcases h.2 with y | ⟨y1, y2, y3⟩
    · exact Or.inl y
    · exact Or.inr ⟨y1, by omega, y3⟩
end way
/-- what a choice is written as -/
def cdW (nf x : Int) : Int := if x = nf then -1 else x
def preW (nf : Int) (T : Int → Int) (c : Int → Int) (p : Int) : Prop := ∀ k, 0 ≤ k → k < p → T k = cdW nf (c k)
def putC (c : Int → Int) (p f : Int) : Int → Int := fun k => if k = p then f else c k
theorem putC_ok {nf p f : Int} {c : Int → Int} (h : okW nf c) (hf : 0 ≤ f ∧ f ≤ nf) : okW nf (putC c p f) := fun k k0 k1 => by
  unfold putC
  by_cases y : k = p
  · rw [if_pos y]; exact hf
  · rw [if_neg y]; exact h k k0 k1
theorem putC_nr {nf f : Int} {c : Int → Int} {p : Nat} : nrN nf (putC c p f) (p + 1) = nrN nf c p * (nf + 1) + f := by
  show nrN nf (putC c p f) p * (nf + 1) + putC c p f p = _
  rw [nrN_congr (c := putC c p f) (e := c) p (fun k k0 k1 => if_neg (by omega)), show putC c p f p = f from if_pos rfl]
noncomputable def byV (r : Int → Int) (n : Int) (w : Int → Int) : Int := byW (pr r) (fr r) (lasM evL r n) w (r 3) (r 4)
theorem byV_c {r : Int → Int} {n : Int} (w e : Int → Int) (h : ∀ k, 0 ≤ k → k < r 4 → w k = e k) : byV r n w = byV r n e := byW_congr h (fun _ _ _ _ _ _ => Iff.rfl)
/-- the best so far, of those below a number -/
def bsT (r : Int → Int) (n : Int) (T : Nat → Int → Int) (i : Int) : Prop := (-1 ≤ T 70 6 ∧ T 70 6 ≤ 36) ∧ ∃ b, bstW (r 3) (r 4) (byV r n) i (T 70 6) b ∧ (T 70 6 ≠ -1 → preW (r 3) (T 92) b (r 4))
/-- what a search leaves as it was -/
def frT (S T : Nat → Int → Int) (p : Int) : Prop := (∀ a, a ≠ 70 → a ≠ 91 → a ≠ 92 → T a = S a) ∧ (∀ j, j ≠ 6 → T 70 j = S 70 j) ∧ ∀ k, k < p → T 91 k = S 91 k
theorem frT_r {S : Nat → Int → Int} {p : Int} : frT S S p := ⟨fun _ _ _ _ => rfl, fun _ _ => rfl, fun _ _ => rfl⟩
/-- what is known of those that are put already -/
def inT (r : Int → Int) (n : Int) (c : Int → Int) (T : Nat → Int → Int) (p wh : Int) : Prop := okW (r 3) c ∧ preW (r 3) (T 91) c p ∧ (∀ f, 0 ≤ f → f < r 3 → T 90 f = fr r f 2 - inW (pr r) c f p ∧ inW (pr r) c f p ≤ roomM (fr r) f) ∧ wh = tlW (lasM evL r n) c p (r 3)
/-- what stays, and how many still can -/
def knT (r : Int → Int) (n : Int) (a : Int → Int) (T : Nat → Int → Int) : Prop := (∀ p f, 0 ≤ p → p < r 4 → 0 ≤ f → f < r 3 → yn (T 88 (6 * p + f)) (lasM evL r n p f)) ∧ (∀ k : Nat, (k : Int) ≤ r 4 → T 89 (r 4 - k) = saN a (r 4) k) ∧ (∀ p, 0 ≤ p → p < r 4 → (∃ f, 0 ≤ f ∧ f < r 3 ∧ lasM evL r n p f) → a p = 1) ∧ ∀ k, 0 ≤ a k ∧ a k ≤ 1
theorem knT_f {r : Int → Int} {n : Int} {a : Int → Int} {S T : Nat → Int → Int} (h : knT r n a S) (h1 : T 88 = S 88) (h2 : T 89 = S 89) : knT r n a T := by
  unfold knT
  rw [h1, h2]
  exact h
section srch
variable {r : Int → Int} {n : Int} {a c : Int → Int} {S T : Nat → Int → Int} {p wh : Int}
theorem by_le (hA : AB r) {m : Nat} (hm : r 4 - m = p) (hp : 0 ≤ p) (hk : knT r n a S) (hi : inT r n c S p wh) {w : Int → Int} (h : ∀ k, 0 ≤ k → k < p → w k = c k) : byV r n w ≤ wh + saN a (r 4) m := by
  obtain ⟨_, _, k3, k4⟩ := hk
  have b3 := hA.2.1.1
  have b4 := hA.2.1.2.1
  have t := tl_le (L := lasM evL r n) (w := w) (nf := r 3) (np := r 4) b3.1 k3 (fun k => (k4 k).1) m (by omega)
  rw [hm, tl_congr h, ← hi.2.2.2] at t
  have s := saN_rg (np := r 4) k4 m
  have g := tlW_rg (L := lasM evL r n) (c := c) (np := p) (n := r 3) b3.1 (by omega)
  rw [← hi.2.2.2] at g
  unfold byV byW
  split <;> omega
theorem nr_w (hA : AB r) {m p : Nat} (hm : (p : Int) + m = r 4) {w : Int → Int} (hw : okW (r 3) w) (hc : okW (r 3) c) (h0 : nrN (r 3) c p * pwN (r 3) m ≤ nrZ (r 3) (r 4) w) (h1 : nrZ (r 3) (r 4) w < (nrN (r 3) c p + 1) * pwN (r 3) m) : ∀ k : Int, 0 ≤ k → k < p → w k = c k := by
  have b3 := hA.2.1.1
  have b4 := hA.2.1.2.1
  unfold nrZ at h0 h1
  rw [show (r 4).toNat = p + m by omega] at h0 h1
  exact nr_pre b3.1 (fun k k0 k1 => hw k k0 (by omega)) (fun k k0 k1 => hc k k0 (by omega)) h0 h1
/-- nobody is left to be put -/
theorem tr_end {p : Nat} (hA : AB r) (hp : (p : Int) = r 4) (hi : inT r n c S p wh) : byV r n c = wh ∧ nrZ (r 3) (r 4) c = nrN (r 3) c p * pwN (r 3) 0 := by
  refine ⟨?_, ?_⟩
  · rw [hi.2.2.2, hp]
    refine (byW_y (fun f f0 f1 => ?_) rfl).symm
    rw [← hp]; exact (hi.2.2.1 f f0 f1).2
  · unfold nrZ
    rw [← hp]
    show nrN (r 3) c p = nrN (r 3) c p * 1
    omega
theorem tr_no (hA : AB r) {p : Nat} (hp : (p : Int) = r 4) (hi : inT r n c S p wh) (hb : bsT r n S (nrN (r 3) c p * pwN (r 3) 0)) (h : wh ≤ S 70 6) : bsT r n S ((nrN (r 3) c p + 1) * pwN (r 3) 0) := by
  obtain ⟨b1, b, b2, b3⟩ := hb
  obtain ⟨e1, e2⟩ := tr_end hA hp hi
  refine ⟨b1, b, ?_, b3⟩
  have := bstW_s (c2 := b) (w0 := c) (mo2 := S 70 6) hA.2.1.1.1 hA.2.1.2.1 byV_c b2 hi.1 e2 e1.symm (Or.inr ⟨h, rfl, rfl⟩)
  rw [Int.add_mul, Int.one_mul]
  exact this
theorem tr_yes (hA : AB r) {p : Nat} (hp : (p : Int) = r 4) (hi : inT r n c S p wh) (hb : bsT r n S (nrN (r 3) c p * pwN (r 3) 0)) (h : S 70 6 < wh) : bsT r n (cpyS (upS S 70 6 wh) 91 92 0 0 6) ((nrN (r 3) c p + 1) * pwN (r 3) 0) ∧ frT S (cpyS (upS S 70 6 wh) 91 92 0 0 6) p := by
  obtain ⟨b1, b, b2, b3⟩ := hb
  obtain ⟨e1, e2⟩ := tr_end hA hp hi
  have q3 := hA.2.1.1
  have q4 := hA.2.1.2.1
  have e6 : cpyS (upS S 70 6 wh) 91 92 0 0 6 70 6 = wh := by
    show upS S 70 6 wh 70 6 = wh
    rw [upS_at, if_pos ⟨rfl, rfl⟩]
  have w6 : wh ≤ 36 := by
    rw [← e1]
    exact (byW_rg q3 q4).2
  refine ⟨⟨by rw [e6]; omega, c, ?_, fun _ k k0 k1 => ?_⟩, fun x x1 x2 x3 => ?_, fun j hj => ?_, fun k hk => ?_⟩
  · rw [e6, Int.add_mul, Int.one_mul]
    exact bstW_s (c2 := c) (w0 := c) (mo2 := wh) q3.1 q4 byV_c b2 hi.1 e2 e1.symm (Or.inl ⟨h, rfl, fun _ _ _ => rfl⟩)
  · have : cpyS (upS S 70 6 wh) 91 92 0 0 6 92 k = S 91 k := by
      show (if 0 ≤ k ∧ k < 0 + 6 then upS S 70 6 wh 91 (0 + (k - 0)) else _) = _
      rw [if_pos (by omega)]
      show S 91 (0 + (k - 0)) = S 91 k
      exact congrArg _ (by omega)
    rw [this]
    exact hi.2.1 k k0 (by omega)
  · show (if x = 92 then _ else upS S 70 6 wh x) = S x
    rw [if_neg x3]
    exact if_neg x1
  · show upS S 70 6 wh 70 j = S 70 j
    rw [upS_at, if_neg (fun y => hj y.2)]
  · rfl
/-- no more can be won -/
theorem tr_cut (hA : AB r) {m p : Nat} (hm : (p : Int) + m = r 4) (hk : knT r n a S) (hi : inT r n c S p wh) (hb : bsT r n S (nrN (r 3) c p * pwN (r 3) m)) (h : wh + saN a (r 4) m ≤ S 70 6) : bsT r n S ((nrN (r 3) c p + 1) * pwN (r 3) m) := by
  obtain ⟨b1, b, b2, b3⟩ := hb
  have pp := pwN_pos hA.2.1.1.1 m
  refine ⟨b1, b, bst_skip b2 ?_ (fun w hw h0 h1 => ?_), b3⟩
  · rw [Int.add_mul, Int.one_mul]; omega
  · have := by_le (m := m) hA (by omega) (by omega) hk hi (nr_w hA hm hw hi.1 h0 h1)
    omega
theorem nr_next {i : Int} {p m : Nat} : (nrN (r 3) (putC c p i) (p + 1)) * pwN (r 3) m = (nrN (r 3) c p * (r 3 + 1) + i) * pwN (r 3) m := by rw [putC_nr]
theorem nr_nextS {i : Int} {p m : Nat} : (nrN (r 3) (putC c p i) (p + 1) + 1) * pwN (r 3) m = (nrN (r 3) c p * (r 3 + 1) + (i + 1)) * pwN (r 3) m := by rw [putC_nr, Int.add_assoc]
theorem nr_first {p m : Nat} : nrN (r 3) c p * pwN (r 3) (m + 1) = (nrN (r 3) c p * (r 3 + 1) + 0) * pwN (r 3) m := by
  show nrN (r 3) c p * (pwN (r 3) m * (r 3 + 1)) = _
  rw [Int.add_zero, Int.mul_comm (pwN (r 3) m), Int.mul_assoc]
theorem nr_last {p m : Nat} : (nrN (r 3) c p + 1) * pwN (r 3) (m + 1) = (nrN (r 3) c p * (r 3 + 1) + (r 3 + 1)) * pwN (r 3) m := by
  show (nrN (r 3) c p + 1) * (pwN (r 3) m * (r 3 + 1)) = _
  rw [Int.mul_comm (pwN (r 3) m), ← Int.mul_assoc, Int.add_mul, Int.one_mul]
/-- there is no room there -/
theorem tr_full (hA : AB r) {m p : Nat} (hm : (p : Int) + (m + 1) = r 4) {i : Int} (h0 : 0 ≤ i) (h1 : i < r 3) (hi : inT r n c S p wh) (hf : fr r i 1 ≤ 0 ∨ fr r i 2 - inW (pr r) c i p < pr r p 0) (hb : bsT r n T ((nrN (r 3) c p * (r 3 + 1) + i) * pwN (r 3) m)) : bsT r n T ((nrN (r 3) c p * (r 3 + 1) + (i + 1)) * pwN (r 3) m) := by
  obtain ⟨b1, b, b2, b3⟩ := hb
  have q3 := hA.2.1.1
  have q4 := hA.2.1.2.1
  have pp := pwN_pos q3.1 m
  refine ⟨b1, b, bst_skip b2 ?_ (fun w hw g0 g1 => ?_), b3⟩
  · rw [← Int.add_assoc, Int.add_mul _ 1, Int.one_mul]; omega
  · rw [← nr_next (r := r)] at g0
    rw [← nr_nextS (r := r)] at g1
    have e := nr_w (c := putC c p i) hA (p := p + 1) (m := m) (by omega) hw (putC_ok hi.1 (by omega)) g0 g1
    have zp := AB_pp hA (p := p) (by omega) (by omega)
    have e1 : inW (pr r) w i ((p : Int) + 1) = inW (pr r) c i p + pr r p 0 := by
      rw [inW_s (by omega), if_pos ((e p (by omega) (by omega)).trans (if_pos rfl))]
      rw [in_congr (w := w) (c := c) (fun k k0 k1 => (e k k0 (by omega)).trans (if_neg (by omega)))]
    have g := in_mono (P := pr r) (w := w) (f := i) (np := r 4) (p := (p : Int) + 1) (fun k k0 k1 => by have := AB_pp hA k0 k1; omega) (by omega) m (by omega)
    rw [show (p : Int) + 1 + m = r 4 by omega, e1] at g
    have rm := (hi.2.2.1 i h0 h1).2
    have ig := inW_rg (c := c) (f := i) (n := p) (P := pr r) (by omega) (fun k k0 k1 => (hA.2.2.1 k k0 k1).1)
    have : -1 = byV r n w := byW_n h0 h1 (by unfold roomM at *; split <;> omega)
    omega
/-- one more is put -/
theorem tr_put (hA : AB r) {p : Nat} (hp : (p : Int) < r 4) {i st : Int} (h0 : 0 ≤ i) (h1 : i < r 3) (hi : inT r n c S p wh) (hT : frT S T p) (hs : 0 < fr r i 1) (hl : pr r p 0 ≤ fr r i 2 - inW (pr r) c i p) (hst : yn st (lasM evL r n p i)) : inT r n (putC c p i) (upS (upS T 90 i (T 90 i - pr r p 0)) 91 p i) ((p : Int) + 1) (wh + st) := by
  obtain ⟨i1, i2, i3, i4⟩ := hi
  have q3 := hA.2.1.1
  refine ⟨putC_ok i1 (by omega), fun k k0 k1 => ?_, fun f f0 f1 => ?_, ?_⟩
  · rw [upS_at]
    by_cases y : k = p
    · rw [if_pos ⟨rfl, y⟩]
      unfold putC cdW
      rw [if_pos y, if_neg (by omega)]
    · rw [if_neg (fun z => y z.2)]
      show upS T 90 i (T 90 i - pr r p 0) 91 k = _
      rw [show upS T 90 i (T 90 i - pr r p 0) 91 = T 91 from rfl, hT.2.2 k (by omega)]
      unfold putC
      rw [if_neg y]
      exact i2 k k0 (by omega)
  · have e90 : T 90 = S 90 := hT.1 90 (by decide) (by decide) (by decide)
    have e := i3 f f0 f1
    rw [inW_s (by omega), in_congr (w := putC c p i) (c := c) (fun k k0 k1 => if_neg (by omega)), show putC c p i p = i from if_pos rfl]
    show upS T 90 i (T 90 i - pr r p 0) 90 f = _ ∧ _
    rw [upS_at, e90]
    by_cases y : f = i
    · subst y
      rw [if_pos ⟨rfl, rfl⟩, if_pos rfl]
      refine ⟨by omega, ?_⟩
      unfold roomM
      rw [if_pos hs]
      omega
    · rw [if_neg (fun z => y z.2), if_neg (fun z => y z.symm)]
      exact ⟨by omega, by omega⟩
  · rw [tl_z (by omega) q3.1, tl_congr (w := putC c p i) (c := c) (fun k k0 k1 => if_neg (by omega)), ← i4]
    rw [show putC c p i p = i from if_pos rfl]
    rcases hst with ⟨s1, s2⟩ | ⟨s1, s2⟩
    · rw [if_pos ⟨⟨h0, h1⟩, s2⟩, s1]
    · rw [if_neg (fun y => s2 y.2), s1]
theorem tr_none (hA : AB r) {p : Nat} (hp : (p : Int) < r 4) (hi : inT r n c S p wh) (hT : frT S T p) : inT r n (putC c p (r 3)) (upS T 91 p (-1)) ((p : Int) + 1) wh := by
  obtain ⟨i1, i2, i3, i4⟩ := hi
  have q3 := hA.2.1.1
  refine ⟨putC_ok i1 (by omega), fun k k0 k1 => ?_, fun f f0 f1 => ?_, ?_⟩
  · rw [upS_at]
    by_cases y : k = p
    · rw [if_pos ⟨rfl, y⟩]
      unfold putC cdW
      rw [if_pos y, if_pos rfl]
    · rw [if_neg (fun z => y z.2), hT.2.2 k (by omega)]
      unfold putC
      rw [if_neg y]
      exact i2 k k0 (by omega)
  · have e90 : T 90 = S 90 := hT.1 90 (by decide) (by decide) (by decide)
    have e := i3 f f0 f1
    rw [inW_s (by omega), in_congr (w := putC c p (r 3)) (c := c) (fun k k0 k1 => if_neg (by omega)), show putC c p (r 3) p = r 3 from if_pos rfl, if_neg (by omega)]
    show T 90 f = _ ∧ _
    rw [e90]
    exact ⟨by omega, by omega⟩
  · rw [tl_z (by omega) q3.1, tl_congr (w := putC c p (r 3)) (c := c) (fun k k0 k1 => if_neg (by omega)), ← i4]
    rw [show putC c p (r 3) p = r 3 from if_pos rfl, if_neg (fun y => by have := y.1.2; omega)]
    omega
end srch
section Last2
variable {tb : Tab} {d : Nat} {m : AM} {K : Out → AM → Prop} {S : Nat → Int → Int} {w : Nat} {r : Int → Int}
theorem x_alen_88 {tb : Tab} {hs : Nat → Option (Nat × Nat)} {C : Nat → List AV → AM → (Out → AM → Prop) → Prop} {Q : Out → AM → Prop} {J : Nat → List AV → List AV → AM → Prop} {is : List Instr} {ls st : List AV} : wpB tb hs C Q J (.arraylength :: is) ls (vr 88 :: st) (X S m) = wpB tb hs C Q J is ls (vi 36 :: st) (X S m) := x_alen isA_88 (by decide)
theorem k32_0 : pg.1 32 0 = [.aload 0, .getfield 106, .ireturn] := rfl
theorem a32_0 {tb : Tab} {d : Nat} {K : Out → AM → Prop} {ls st : List AV} {m : AM} : At tb d 32 K 0 ls st m = wpB tb (pg.2.1 32) (Runs tb pg d) K (At tb d 32 K) [.aload 0, .getfield 106, .ireturn] ls st m := At.eq k32_0
theorem w_32 (hK : K (.inl (some (vi (S 70 6)))) (X S m)) : Runs tb pg (d + 1) 32 [vr 70] (X S m) K := by
  refine Runs.of (al := [vr 70]) (n := 0) ⟨70, _, _, rfl, xo_70⟩ rfl rfl trivial ?_
  repeat' (first | omega | with_reducible exact hK | simp only [w_aload, x_g106_70, w_ireturn, a32_0, R32, List.getElem?_cons_zero, List.getElem?_cons_succ, List.set_cons_zero, List.set_cons_succ, List.cons_append, List.nil_append, List.replicate_succ, List.replicate_zero, List.take_succ_cons, List.take_zero, List.drop_succ_cons, List.drop_zero, List.reverse_cons, List.reverse_nil, List.length_cons, List.length_nil, Option.toList, true_and, and_true, eq_self, ↓reduceIte, not_true_eq_false, not_false_eq_true, true_or, or_true] | with_reducible refine And.intro ?_ ?_ | with_reducible intro _)
  all_goals (try (first | omega | (exfalso; assumption) | skip))
theorem k33_0 : pg.1 33 0 = [.aload 0, .getfield 105, .iload 1, .iaload, .ireturn] := rfl
theorem a33_0 {tb : Tab} {d : Nat} {K : Out → AM → Prop} {ls st : List AV} {m : AM} : At tb d 33 K 0 ls st m = wpB tb (pg.2.1 33) (Runs tb pg d) K (At tb d 33 K) [.aload 0, .getfield 105, .iload 1, .iaload, .ireturn] ls st m := At.eq k33_0
theorem w_33 {p : Int} (hp : 0 ≤ p ∧ p < 6) (hK : K (.inl (some (vi (S 92 p)))) (X S m)) : Runs tb pg (d + 1) 33 [vr 70, vi p] (X S m) K := by
  refine Runs.of (al := [vr 70, vi p]) (n := 0) ⟨70, _, _, rfl, xo_70⟩ rfl rfl trivial ?_
  repeat' (first | omega | with_reducible exact hK | simp only [w_aload, x_g105_70, w_iload, x_iald, w_ialoads, w_ialoadw, w_ireturn, isA_w1, isA_w2, isA_w3, isA_w4, isA_w5, isA_w6, isA_w7, isA_w8, isA_w10, isA_w11, isA_w12, isA_w14, isA_w15, isA_w16, len_w1, len_w2, len_w3, len_w4, len_w5, len_w6, len_w7, len_w8, len_w10, len_w11, len_w12, len_w14, len_w15, len_w16, isA_88, len_88, isA_89, len_89, isA_90, len_90, isA_91, len_91, isA_92, len_92, Int.cast_ofNat_Int, a33_0, R32, List.getElem?_cons_zero, List.getElem?_cons_succ, List.set_cons_zero, List.set_cons_succ, List.cons_append, List.nil_append, List.replicate_succ, List.replicate_zero, List.take_succ_cons, List.take_zero, List.drop_succ_cons, List.drop_zero, List.reverse_cons, List.reverse_nil, List.length_cons, List.length_nil, Option.toList, true_and, and_true, eq_self, ↓reduceIte, not_true_eq_false, not_false_eq_true, true_or, or_true] | with_reducible refine And.intro ?_ ?_ | with_reducible intro _)
  all_goals (try (first | omega | (exfalso; assumption) | skip))
theorem k30_0 : pg.1 30 0 = [.bipush 0, .istore 2, .jsr 2] := rfl
theorem a30_0 {tb : Tab} {d : Nat} {K : Out → AM → Prop} {ls st : List AV} {m : AM} : At tb d 30 K 0 ls st m = wpB tb (pg.2.1 30) (Runs tb pg d) K (At tb d 30 K) [.bipush 0, .istore 2, .jsr 2] ls st m := At.eq k30_0
theorem k30_2 : pg.1 30 2 = [.iload 2, .bipush 6, .if_icmp .ge 30, .aload 0, .getfield 101, .bipush 6, .iload 1, .imul, .iload 2, .iadd, .baload, .ifCond .eq 24, .bipush 1, .freturn] := rfl
theorem a30_2 {tb : Tab} {d : Nat} {K : Out → AM → Prop} {ls st : List AV} {m : AM} : At tb d 30 K 2 ls st m = wpB tb (pg.2.1 30) (Runs tb pg d) K (At tb d 30 K) [.iload 2, .bipush 6, .if_icmp .ge 30, .aload 0, .getfield 101, .bipush 6, .iload 1, .imul, .iload 2, .iadd, .baload, .ifCond .eq 24, .bipush 1, .freturn] ls st m := At.eq k30_2
theorem k30_24 : pg.1 30 24 = [.iinc 2 1, .goto 2] := rfl
theorem a30_24 {tb : Tab} {d : Nat} {K : Out → AM → Prop} {ls st : List AV} {m : AM} : At tb d 30 K 24 ls st m = wpB tb (pg.2.1 30) (Runs tb pg d) K (At tb d 30 K) [.iinc 2 1, .goto 2] ls st m := At.eq k30_24
theorem k30_30 : pg.1 30 30 = [.bipush 0, .freturn] := rfl
theorem a30_30 {tb : Tab} {d : Nat} {K : Out → AM → Prop} {ls st : List AV} {m : AM} : At tb d 30 K 30 ls st m = wpB tb (pg.2.1 30) (Runs tb pg d) K (At tb d 30 K) [.bipush 0, .freturn] ls st m := At.eq k30_30
theorem w_30 {p : Int} (hp : 0 ≤ p ∧ p < 6) (hz : zoB (S 88)) (hK : ∀ v, yn v (¬ noB (fun f => S 88 (6 * p + f) ≠ 0) 6) → K (.inl (some (vi v))) (X S m)) : Runs tb pg (d + 1) 30 [vr 70, vi p] (X S m) K := by
  have hL2 : (fun i : Int => (noB (fun f => S 88 (6 * p + f) ≠ 0) i) → At tb d 30 K 2 [vr 70, vi p, vi i] [] (X S m)) 0 := by
    refine loopZ (fun i : Int => (noB (fun f => S 88 (6 * p + f) ≠ 0) i) → At tb d 30 K 2 [vr 70, vi p, vi i] [] (X S m)) (6) (by omega) ?_ ?_
    · intro i h0 h1 h9  hn
      have z9 := hz (6 * p + i) (by omega) (by omega)
      rw [a30_2]
      repeat' (first | omega | with_reducible refine h9  ?_ | with_reducible refine hK _ ?_ | simp only [w_iconst, w_istore, w_fall, Int.reduceToNat, w_iload, w_ifc, cI, w_aload, x_g101_70, w_imul, w_iadd, x_bald, w_baloadx, w_if, w_zreturn, w_iinc, lgB, Nat.reduceSub, w_goto, isA_w1, isA_w2, isA_w3, isA_w4, isA_w5, isA_w6, isA_w7, isA_w8, isA_w10, isA_w11, isA_w12, isA_w14, isA_w15, isA_w16, len_w1, len_w2, len_w3, len_w4, len_w5, len_w6, len_w7, len_w8, len_w10, len_w11, len_w12, len_w14, len_w15, len_w16, isA_88, len_88, isA_89, len_89, isA_90, len_90, isA_91, len_91, isA_92, len_92, Int.cast_ofNat_Int, a30_0, a30_24, a30_30, R32, List.getElem?_cons_zero, List.getElem?_cons_succ, List.set_cons_zero, List.set_cons_succ, List.cons_append, List.nil_append, List.replicate_succ, List.replicate_zero, List.take_succ_cons, List.take_zero, List.drop_succ_cons, List.drop_zero, List.reverse_cons, List.reverse_nil, List.length_cons, List.length_nil, Option.toList, true_and, and_true, eq_self, ↓reduceIte, not_true_eq_false, not_false_eq_true, true_or, or_true] | with_reducible refine And.intro ?_ ?_ | with_reducible intro _)
      all_goals (try (first | omega | contradiction | (exact noB_s hn (fun y => by omega)) | (exact Or.inl ⟨rfl, fun y => y i h0 h1 (by omega)⟩)))
    · intro  hn
      rw [a30_2]
      repeat' (first | omega | (exact hK _ (Or.inr ⟨rfl, fun y => y hn⟩)) | simp only [w_iconst, w_istore, w_fall, Int.reduceToNat, w_iload, w_ifc, cI, w_aload, x_g101_70, w_imul, w_iadd, x_bald, w_baloadx, w_if, w_zreturn, w_iinc, lgB, Nat.reduceSub, w_goto, isA_w1, isA_w2, isA_w3, isA_w4, isA_w5, isA_w6, isA_w7, isA_w8, isA_w10, isA_w11, isA_w12, isA_w14, isA_w15, isA_w16, len_w1, len_w2, len_w3, len_w4, len_w5, len_w6, len_w7, len_w8, len_w10, len_w11, len_w12, len_w14, len_w15, len_w16, isA_88, len_88, isA_89, len_89, isA_90, len_90, isA_91, len_91, isA_92, len_92, Int.cast_ofNat_Int, a30_0, a30_24, a30_30, R32, List.getElem?_cons_zero, List.getElem?_cons_succ, List.set_cons_zero, List.set_cons_succ, List.cons_append, List.nil_append, List.replicate_succ, List.replicate_zero, List.take_succ_cons, List.take_zero, List.drop_succ_cons, List.drop_zero, List.reverse_cons, List.reverse_nil, List.length_cons, List.length_nil, Option.toList, true_and, and_true, eq_self, ↓reduceIte, not_true_eq_false, not_false_eq_true, true_or, or_true] | with_reducible refine And.intro ?_ ?_ | with_reducible intro _)
      all_goals (try (first | omega | contradiction | omega))
  refine Runs.of (al := [vr 70, vi p]) (n := 1) ⟨70, _, _, rfl, xo_70⟩ rfl rfl trivial ?_
  repeat' (first | omega | with_reducible refine hL2 ?_ | simp only [w_iconst, w_istore, w_fall, Int.reduceToNat, w_iload, w_ifc, cI, w_aload, x_g101_70, w_imul, w_iadd, x_bald, w_baloadx, w_if, w_zreturn, w_iinc, lgB, Nat.reduceSub, w_goto, isA_w1, isA_w2, isA_w3, isA_w4, isA_w5, isA_w6, isA_w7, isA_w8, isA_w10, isA_w11, isA_w12, isA_w14, isA_w15, isA_w16, len_w1, len_w2, len_w3, len_w4, len_w5, len_w6, len_w7, len_w8, len_w10, len_w11, len_w12, len_w14, len_w15, len_w16, isA_88, len_88, isA_89, len_89, isA_90, len_90, isA_91, len_91, isA_92, len_92, Int.cast_ofNat_Int, a30_0, a30_24, a30_30, R32, List.getElem?_cons_zero, List.getElem?_cons_succ, List.set_cons_zero, List.set_cons_succ, List.cons_append, List.nil_append, List.replicate_succ, List.replicate_zero, List.take_succ_cons, List.take_zero, List.drop_succ_cons, List.drop_zero, List.reverse_cons, List.reverse_nil, List.length_cons, List.length_nil, Option.toList, true_and, and_true, eq_self, ↓reduceIte, not_true_eq_false, not_false_eq_true, true_or, or_true] | with_reducible refine And.intro ?_ ?_ | with_reducible intro _)
  all_goals (try (first | omega | (exfalso; assumption) | exact noB_0))
theorem k29_0 : pg.1 29 0 = [.aload 0, .getfield 100, .aload 1, .invokeinterface 106 2, .bipush 0, .istore 4, .jsr 11] := rfl
theorem a29_0 {tb : Tab} {d : Nat} {K : Out → AM → Prop} {ls st : List AV} {m : AM} : At tb d 29 K 0 ls st m = wpB tb (pg.2.1 29) (Runs tb pg d) K (At tb d 29 K) [.aload 0, .getfield 100, .aload 1, .invokeinterface 106 2, .bipush 0, .istore 4, .jsr 11] ls st m := At.eq k29_0
theorem k29_11 : pg.1 29 11 = [.iload 4, .aload 1, .getfield 804, .if_icmp .ge 43, .aload 0, .getfield 100, .iload 4, .iload 2, .aload 1, .iload 4, .iload 2, .invokeinterface 125 3, .invokeinterface 122 4, .iinc 4 1, .goto 11] := rfl
theorem a29_11 {tb : Tab} {d : Nat} {K : Out → AM → Prop} {ls st : List AV} {m : AM} : At tb d 29 K 11 ls st m = wpB tb (pg.2.1 29) (Runs tb pg d) K (At tb d 29 K) [.iload 4, .aload 1, .getfield 804, .if_icmp .ge 43, .aload 0, .getfield 100, .iload 4, .iload 2, .aload 1, .iload 4, .iload 2, .invokeinterface 125 3, .invokeinterface 122 4, .iinc 4 1, .goto 11] ls st m := At.eq k29_11
theorem k29_43 : pg.1 29 43 = [.bipush 0, .istore 4, .jsr 46] := rfl
theorem a29_43 {tb : Tab} {d : Nat} {K : Out → AM → Prop} {ls st : List AV} {m : AM} : At tb d 29 K 43 ls st m = wpB tb (pg.2.1 29) (Runs tb pg d) K (At tb d 29 K) [.bipush 0, .istore 4, .jsr 46] ls st m := At.eq k29_43
theorem k29_46 : pg.1 29 46 = [.iload 4, .iload 3, .if_icmp .ge 65, .aload 0, .getfield 100, .invokeinterface 1 1, .iinc 4 1, .goto 46] := rfl
theorem a29_46 {tb : Tab} {d : Nat} {K : Out → AM → Prop} {ls st : List AV} {m : AM} : At tb d 29 K 46 ls st m = wpB tb (pg.2.1 29) (Runs tb pg d) K (At tb d 29 K) [.iload 4, .iload 3, .if_icmp .ge 65, .aload 0, .getfield 100, .invokeinterface 1 1, .iinc 4 1, .goto 46] ls st m := At.eq k29_46
theorem k29_65 : pg.1 29 65 = [.bipush 0, .istore 4, .jsr 68] := rfl
theorem a29_65 {tb : Tab} {d : Nat} {K : Out → AM → Prop} {ls st : List AV} {m : AM} : At tb d 29 K 65 ls st m = wpB tb (pg.2.1 29) (Runs tb pg d) K (At tb d 29 K) [.bipush 0, .istore 4, .jsr 68] ls st m := At.eq k29_65
theorem k29_68 : pg.1 29 68 = [.iload 4, .aload 1, .getfield 804, .if_icmp .ge 104, .aload 0, .getfield 101, .bipush 6, .iload 4, .imul, .iload 2, .iadd, .aload 0, .getfield 100, .iload 4, .invokeinterface 118 2, .bastore, .iinc 4 1, .goto 68] := rfl
theorem a29_68 {tb : Tab} {d : Nat} {K : Out → AM → Prop} {ls st : List AV} {m : AM} : At tb d 29 K 68 ls st m = wpB tb (pg.2.1 29) (Runs tb pg d) K (At tb d 29 K) [.iload 4, .aload 1, .getfield 804, .if_icmp .ge 104, .aload 0, .getfield 101, .bipush 6, .iload 4, .imul, .iload 2, .iadd, .aload 0, .getfield 100, .iload 4, .invokeinterface 118 2, .bastore, .iinc 4 1, .goto 68] ls st m := At.eq k29_68
theorem k29_104 : pg.1 29 104 = [.return_] := rfl
theorem a29_104 {tb : Tab} {d : Nat} {K : Out → AM → Prop} {ls st : List AV} {m : AM} : At tb d 29 K 104 ls st m = wpB tb (pg.2.1 29) (Runs tb pg d) K (At tb d 29 K) [.return_] ls st m := At.eq k29_104
theorem w_29 {f n : Int} {v : Nat} (hv : isW v) (hd : v ≠ 71) (hR : RW S v r) (hA : AB r) (hlo : LWo m (S v 15) (lawD r)) (hf : 0 ≤ f ∧ f < r 3) (hn : 0 ≤ n ∧ n ≤ 1000) (hK : ∀ T m1, stR r n f S T (r 4) → EGr S T v → MS m m1 → K (.inl none) (X T m1)) : Runs tb pg (d + 6) 29 [vr 70, vr v, vi f, vi n] (X S m) K := by
  have hw := isW_71
  have b3 := hA.2.1.1
  have b4 := hA.2.1.2.1
  have b5 := hA.2.1.2.2.1
  have d71 := dis71 hv hd
  have aq : ∀ i : Nat, i ≤ 6 → AB (allP (fun k => dptR evL r k f) r f i) ∧ ∀ j, j < 31 ∨ 151 ≤ j → (allP (fun k => dptR evL r k f) r f i) j = r j := allP_AB hA hf (fun k => dpt_rg)
  have b4n : (r 4).toNat ≤ 6 := by omega
  have qL : ∀ i : Nat, i ≤ 6 → lawD (allP (fun k => dptR evL r k f) r f i) = lawD r := fun i hi => lawD_eq (fun j hj => (aq i hi).2 j (by omega))
  have h68 : ∀ (T0 : Nat → Int → Int) (m1 : AM), RW T0 71 (goN evL 0 (allP (fun k => dptR evL r k f) r f (r 4).toNat) n.toNat) → EGr S T0 v → T0 88 = S 88 → MS m m1 → At tb (d + 5) 29 K 68 [vr 70, vr v, vi f, vi n, vi 0] [] (X T0 m1) := by
    intro T0 m1 hT0 hE0 h880 hM0
    have aQ := aq _ b4n
    have gA := (goN_AB (ev := evL) (w := 0) aQ.1 n.toNat).1
    have g4 : (goN evL 0 (allP (fun k => dptR evL r k f) r f (r 4).toNat) n.toNat) 4 = r 4 := (goN_4 aQ.1 _).trans (aQ.2 4 (by omega))
    have hL68 : (fun i : Int => ∀ (T : Nat → Int → Int), (stR r n f S T i) → (EGr S T v) → (RW T 71 (goN evL 0 (allP (fun k => dptR evL r k f) r f (r 4).toNat) n.toNat)) → At tb (d + 5) 29 K 68 [vr 70, vr v, vi f, vi n, vi i] [] (X T m1)) 0 := by
      refine loopZ (fun i : Int => ∀ (T : Nat → Int → Int), (stR r n f S T i) → (EGr S T v) → (RW T 71 (goN evL 0 (allP (fun k => dptR evL r k f) r f (r 4).toNat) n.toNat)) → At tb (d + 5) 29 K 68 [vr 70, vr v, vi f, vi n, vi i] [] (X T m1)) (r 4) (by omega) ?_ ?_
      · intro i h0 h1 h9 T hT hE hW
        have t4 : T v 4 = r 4 := by rw [hE v (by unfold isW at hv; omega) (by omega)]; exact hR.1.2.1
        rw [a29_68]
        repeat' (first | omega | with_reducible refine h9 _ ?_ ?_ ?_ | simp only [w_aload, x_g100_70, w_call, w_iconst, w_istore, w_fall, Int.reduceToNat, w_iload, x_g804_w0, w_ifc, cI, w_iinc, lgB, Nat.reduceSub, w_goto, x_g101_70, w_imul, w_iadd, x_bast, w_return, isA_w1, isA_w2, isA_w3, isA_w4, isA_w5, isA_w6, isA_w7, isA_w8, isA_w10, isA_w11, isA_w12, isA_w14, isA_w15, isA_w16, len_w1, len_w2, len_w3, len_w4, len_w5, len_w6, len_w7, len_w8, len_w10, len_w11, len_w12, len_w14, len_w15, len_w16, isA_88, len_88, isA_89, len_89, isA_90, len_90, isA_91, len_91, isA_92, len_92, Int.cast_ofNat_Int, a29_0, a29_43, a29_65, a29_104, R32, List.getElem?_cons_zero, List.getElem?_cons_succ, List.set_cons_zero, List.set_cons_succ, List.cons_append, List.nil_append, List.replicate_succ, List.replicate_zero, List.take_succ_cons, List.take_zero, List.drop_succ_cons, List.drop_zero, List.reverse_cons, List.reverse_nil, List.length_cons, List.length_nil, Option.toList, true_and, and_true, eq_self, ↓reduceIte, not_true_eq_false, not_false_eq_true, true_or, or_true, hw, hv] | ((with_reducible refine w_118 hw hW gA ⟨?_, ?_⟩ (fun v1 x1 => ?_)); rotate_right; rw [las_all hA hf ⟨h0, h1⟩] at x1; have gy := yn_b x1) | with_reducible refine And.intro ?_ ?_ | with_reducible intro _)
        all_goals (try (first | omega | contradiction | exact stR_s hT h0 x1 | exact EGr_u hE | exact RW_k hW (fun k hk => if_neg (by omega))))
      · intro T hT hE hW
        have t4 : T v 4 = r 4 := by rw [hE v (by unfold isW at hv; omega) (by omega)]; exact hR.1.2.1
        rw [a29_68]
        repeat' (first | omega | (exact hK _ _ hT hE hM0) | simp only [w_aload, x_g100_70, w_call, w_iconst, w_istore, w_fall, Int.reduceToNat, w_iload, x_g804_w0, w_ifc, cI, w_iinc, lgB, Nat.reduceSub, w_goto, x_g101_70, w_imul, w_iadd, x_bast, w_return, isA_w1, isA_w2, isA_w3, isA_w4, isA_w5, isA_w6, isA_w7, isA_w8, isA_w10, isA_w11, isA_w12, isA_w14, isA_w15, isA_w16, len_w1, len_w2, len_w3, len_w4, len_w5, len_w6, len_w7, len_w8, len_w10, len_w11, len_w12, len_w14, len_w15, len_w16, isA_88, len_88, isA_89, len_89, isA_90, len_90, isA_91, len_91, isA_92, len_92, Int.cast_ofNat_Int, a29_0, a29_43, a29_65, a29_104, R32, List.getElem?_cons_zero, List.getElem?_cons_succ, List.set_cons_zero, List.set_cons_succ, List.cons_append, List.nil_append, List.replicate_succ, List.replicate_zero, List.take_succ_cons, List.take_zero, List.drop_succ_cons, List.drop_zero, List.reverse_cons, List.reverse_nil, List.length_cons, List.length_nil, Option.toList, true_and, and_true, eq_self, ↓reduceIte, not_true_eq_false, not_false_eq_true, true_or, or_true, hw, hv] | ((with_reducible refine w_118 hw hW gA ⟨?_, ?_⟩ (fun v1 x1 => ?_)); rotate_right; rw [las_all hA hf ⟨h0, h1⟩] at x1; have gy := yn_b x1) | with_reducible refine And.intro ?_ ?_ | with_reducible intro _)
        all_goals (try (first | omega | contradiction | omega))
    exact hL68 _ (stR_0 h880) hE0 hT0
  have h46 : ∀ (T0 : Nat → Int → Int) (m1 : AM), RW T0 71 (allP (fun k => dptR evL r k f) r f (r 4).toNat) → EGr S T0 v → T0 88 = S 88 → T0 71 15 = S v 15 → MS m m1 → At tb (d + 5) 29 K 46 [vr 70, vr v, vi f, vi n, vi 0] [] (X T0 m1) := by
    intro T0 m0 hT0 hE0 h880 hl0 hM0
    have aQ := aq _ b4n
    have gA : ∀ k, AB (goN evL 0 (allP (fun k => dptR evL r k f) r f (r 4).toNat) k) ∧ LQ (allP (fun k => dptR evL r k f) r f (r 4).toNat) (goN evL 0 (allP (fun k => dptR evL r k f) r f (r 4).toNat) k) := goN_AB aQ.1
    have hL46 : (fun i : Int => ∀ (m1 : AM) (T : Nat → Int → Int), (RW T 71 (goN evL 0 (allP (fun k => dptR evL r k f) r f (r 4).toNat) i.toNat)) → (EGr S T v) → (T 88 = S 88) → (T 71 15 = S v 15) → (MS m m1) → At tb (d + 5) 29 K 46 [vr 70, vr v, vi f, vi n, vi i] [] (X T m1)) 0 := by
      refine loopZ (fun i : Int => ∀ (m1 : AM) (T : Nat → Int → Int), (RW T 71 (goN evL 0 (allP (fun k => dptR evL r k f) r f (r 4).toNat) i.toNat)) → (EGr S T v) → (T 88 = S 88) → (T 71 15 = S v 15) → (MS m m1) → At tb (d + 5) 29 K 46 [vr 70, vr v, vi f, vi n, vi i] [] (X T m1)) (n) (by omega) ?_ ?_
      · intro i h0 h1 h9 m1 T hT hE h88 hl hM
        have hlw : LWo m1 (T 71 15) (lawD (goN evL 0 (allP (fun k => dptR evL r k f) r f (r 4).toNat) i.toNat)) := by rw [hl, lawD_LQ (gA i.toNat).2, qL _ b4n]; exact LWo_s hM hlo
        have gs := goN_s (ev := evL) (w := 0) (r := (allP (fun k => dptR evL r k f) r f (r 4).toNat)) h0
        rw [a29_46]
        repeat' (first | omega | with_reducible refine h9 _ _ ?_ ?_ ?_ ?_ ?_ | simp only [w_aload, x_g100_70, w_call, w_iconst, w_istore, w_fall, Int.reduceToNat, w_iload, x_g804_w0, w_ifc, cI, w_iinc, lgB, Nat.reduceSub, w_goto, x_g101_70, w_imul, w_iadd, x_bast, w_return, isA_w1, isA_w2, isA_w3, isA_w4, isA_w5, isA_w6, isA_w7, isA_w8, isA_w10, isA_w11, isA_w12, isA_w14, isA_w15, isA_w16, len_w1, len_w2, len_w3, len_w4, len_w5, len_w6, len_w7, len_w8, len_w10, len_w11, len_w12, len_w14, len_w15, len_w16, isA_88, len_88, isA_89, len_89, isA_90, len_90, isA_91, len_91, isA_92, len_92, Int.cast_ofNat_Int, a29_0, a29_43, a29_65, a29_104, R32, List.getElem?_cons_zero, List.getElem?_cons_succ, List.set_cons_zero, List.set_cons_succ, List.cons_append, List.nil_append, List.replicate_succ, List.replicate_zero, List.take_succ_cons, List.take_zero, List.drop_succ_cons, List.drop_zero, List.reverse_cons, List.reverse_nil, List.length_cons, List.length_nil, Option.toList, true_and, and_true, eq_self, ↓reduceIte, not_true_eq_false, not_false_eq_true, true_or, or_true, hw, hv] | with_reducible refine w_1 hw hT (gA i.toNat).1 hlw (fun T2 m2 x2 E2 l2 M2 => ?_) | with_reducible refine And.intro ?_ ?_ | with_reducible intro _)
        all_goals (try (first | omega | contradiction | (rw [gs]; exact x2) | exact EGr_t hE (EGr_E (EFr_W E2)) | (rw [E2 88 (by omega)]; exact h88) | exact l2.trans hl | exact MS_t hM M2))
      · intro m1 T hT hE h88 hl hM
        rw [a29_46]
        repeat' (first | omega | (exact h68 _ _ hT hE h88 hM) | simp only [w_aload, x_g100_70, w_call, w_iconst, w_istore, w_fall, Int.reduceToNat, w_iload, x_g804_w0, w_ifc, cI, w_iinc, lgB, Nat.reduceSub, w_goto, x_g101_70, w_imul, w_iadd, x_bast, w_return, isA_w1, isA_w2, isA_w3, isA_w4, isA_w5, isA_w6, isA_w7, isA_w8, isA_w10, isA_w11, isA_w12, isA_w14, isA_w15, isA_w16, len_w1, len_w2, len_w3, len_w4, len_w5, len_w6, len_w7, len_w8, len_w10, len_w11, len_w12, len_w14, len_w15, len_w16, isA_88, len_88, isA_89, len_89, isA_90, len_90, isA_91, len_91, isA_92, len_92, Int.cast_ofNat_Int, a29_0, a29_43, a29_65, a29_104, R32, List.getElem?_cons_zero, List.getElem?_cons_succ, List.set_cons_zero, List.set_cons_succ, List.cons_append, List.nil_append, List.replicate_succ, List.replicate_zero, List.take_succ_cons, List.take_zero, List.drop_succ_cons, List.drop_zero, List.reverse_cons, List.reverse_nil, List.length_cons, List.length_nil, Option.toList, true_and, and_true, eq_self, ↓reduceIte, not_true_eq_false, not_false_eq_true, true_or, or_true, hw, hv] | with_reducible refine w_1 hw hT (gA i.toNat).1 hlw (fun T2 m2 x2 E2 l2 M2 => ?_) | with_reducible refine And.intro ?_ ?_ | with_reducible intro _)
        all_goals (try (first | omega | contradiction | omega))
    exact hL46 _ _ hT0 hE0 h880 hl0 hM0
  have h11 : ∀ (T0 : Nat → Int → Int), RW T0 71 r → EFr S T0 v → T0 71 15 = S v 15 → At tb (d + 5) 29 K 11 [vr 70, vr v, vi f, vi n, vi 0] [] (X T0 m) := by
    intro T0 hT0 hE0 hl0
    have hL11 : (fun i : Int => ∀ (m1 : AM) (T : Nat → Int → Int), (RW T 71 (allP (fun k => dptR evL r k f) r f i.toNat)) → (EFr S T v) → (T 71 15 = S v 15) → (MS m m1) → At tb (d + 5) 29 K 11 [vr 70, vr v, vi f, vi n, vi i] [] (X T m1)) 0 := by
      refine loopZ (fun i : Int => ∀ (m1 : AM) (T : Nat → Int → Int), (RW T 71 (allP (fun k => dptR evL r k f) r f i.toNat)) → (EFr S T v) → (T 71 15 = S v 15) → (MS m m1) → At tb (d + 5) 29 K 11 [vr 70, vr v, vi f, vi n, vi i] [] (X T m1)) (r 4) (by omega) ?_ ?_
      · intro i h0 h1 h9 m1 T hT hE hl hM
        have hTR : RW T v r := EFr_R hv hd hR hE
        have tv := EFr_0 hv hd hE
        have t4 : T v 4 = r 4 := hTR.1.2.1
        have hl1 : LWo m1 (T v 15) (lawD r) := by rw [tv]; exact LWo_s hM hlo
        have ai := aq i.toNat (by omega)
        have a4 := ai.2 4 (by omega)
        have as := allP_s (e := (fun k => dptR evL r k f)) (r := r) (f := f) h0
        rw [a29_11]
        repeat' (first | omega | with_reducible refine h9 _ _ ?_ ?_ ?_ ?_ | simp only [w_aload, x_g100_70, w_call, w_iconst, w_istore, w_fall, Int.reduceToNat, w_iload, x_g804_w0, w_ifc, cI, w_iinc, lgB, Nat.reduceSub, w_goto, x_g101_70, w_imul, w_iadd, x_bast, w_return, isA_w1, isA_w2, isA_w3, isA_w4, isA_w5, isA_w6, isA_w7, isA_w8, isA_w10, isA_w11, isA_w12, isA_w14, isA_w15, isA_w16, len_w1, len_w2, len_w3, len_w4, len_w5, len_w6, len_w7, len_w8, len_w10, len_w11, len_w12, len_w14, len_w15, len_w16, isA_88, len_88, isA_89, len_89, isA_90, len_90, isA_91, len_91, isA_92, len_92, Int.cast_ofNat_Int, a29_0, a29_43, a29_65, a29_104, R32, List.getElem?_cons_zero, List.getElem?_cons_succ, List.set_cons_zero, List.set_cons_succ, List.cons_append, List.nil_append, List.replicate_succ, List.replicate_zero, List.take_succ_cons, List.take_zero, List.drop_succ_cons, List.drop_zero, List.reverse_cons, List.reverse_nil, List.length_cons, List.length_nil, Option.toList, true_and, and_true, eq_self, ↓reduceIte, not_true_eq_false, not_false_eq_true, true_or, or_true, hw, hv] | (have hpp : 0 ≤ i ∧ i < r 4 := ⟨h0, h1⟩; (with_reducible refine w_125 hv hTR hA hpp hf hl1 (fun T2 m2 v2 x2 F2 M2 => ?_)); subst x2; have h71R : RW T2 71 (allP (fun k => dptR evL r k f) r f i.toNat) := RW_k hT (fun k hk => F2 _ (by unfold isW at hv; omega)); have l71 : T2 71 15 = S v 15 := (by rw [F2 71 (by unfold isW at hv; omega)]; exact hl)) | ((with_reducible refine w_122 hw h71R ai.1 ⟨?_, ?_⟩ (fun T3 x3 => ?_)); rotate_right; have h3R : RW T3 71 (allP (fun k => dptR evL r k f) r f (i + 1).toNat) := (by rw [as, x3]; exact RW_pt ai.1 h71R h0 (by omega)); have l3 : T3 71 15 = S v 15 := (by rw [x3, ptS_o (by decide) (by decide) (by decide)]; exact l71); have E3 : EW T2 T3 71 := (by rw [x3]; exact ptS_EW)) | with_reducible refine And.intro ?_ ?_ | with_reducible intro _)
        all_goals (try (first | omega | contradiction | exact h3R | exact l3 | exact MS_t hM M2 | exact EFr_t hE (EFr_t (EFr_F F2) (EFr_W E3))))
      · intro m1 T hT hE hl hM
        have hTR : RW T v r := EFr_R hv hd hR hE
        have t4 : T v 4 = r 4 := hTR.1.2.1
        rw [a29_11]
        repeat' (first | omega | (exact h46 _ _ hT (EGr_E hE) (hE 88 (by omega) (by unfold isW at hv; omega)) hl hM) | simp only [w_aload, x_g100_70, w_call, w_iconst, w_istore, w_fall, Int.reduceToNat, w_iload, x_g804_w0, w_ifc, cI, w_iinc, lgB, Nat.reduceSub, w_goto, x_g101_70, w_imul, w_iadd, x_bast, w_return, isA_w1, isA_w2, isA_w3, isA_w4, isA_w5, isA_w6, isA_w7, isA_w8, isA_w10, isA_w11, isA_w12, isA_w14, isA_w15, isA_w16, len_w1, len_w2, len_w3, len_w4, len_w5, len_w6, len_w7, len_w8, len_w10, len_w11, len_w12, len_w14, len_w15, len_w16, isA_88, len_88, isA_89, len_89, isA_90, len_90, isA_91, len_91, isA_92, len_92, Int.cast_ofNat_Int, a29_0, a29_43, a29_65, a29_104, R32, List.getElem?_cons_zero, List.getElem?_cons_succ, List.set_cons_zero, List.set_cons_succ, List.cons_append, List.nil_append, List.replicate_succ, List.replicate_zero, List.take_succ_cons, List.take_zero, List.drop_succ_cons, List.drop_zero, List.reverse_cons, List.reverse_nil, List.length_cons, List.length_nil, Option.toList, true_and, and_true, eq_self, ↓reduceIte, not_true_eq_false, not_false_eq_true, true_or, or_true, hw, hv] | (have hpp : 0 ≤ i ∧ i < r 4 := ⟨h0, h1⟩; (with_reducible refine w_125 hv hTR hA hpp hf hl1 (fun T2 m2 v2 x2 F2 M2 => ?_)); subst x2; have h71R : RW T2 71 (allP (fun k => dptR evL r k f) r f i.toNat) := RW_k hT (fun k hk => F2 _ (by unfold isW at hv; omega)); have l71 : T2 71 15 = S v 15 := (by rw [F2 71 (by unfold isW at hv; omega)]; exact hl)) | ((with_reducible refine w_122 hw h71R ai.1 ⟨?_, ?_⟩ (fun T3 x3 => ?_)); rotate_right; have h3R : RW T3 71 (allP (fun k => dptR evL r k f) r f (i + 1).toNat) := (by rw [as, x3]; exact RW_pt ai.1 h71R h0 (by omega)); have l3 : T3 71 15 = S v 15 := (by rw [x3, ptS_o (by decide) (by decide) (by decide)]; exact l71); have E3 : EW T2 T3 71 := (by rw [x3]; exact ptS_EW)) | with_reducible refine And.intro ?_ ?_ | with_reducible intro _)
        all_goals (try (first | omega | contradiction | omega))
    exact hL11 _ _ hT0 hE0 hl0 MS_r
  refine Runs.of (al := [vr 70, vr v, vi f, vi n]) (n := 1) ⟨70, _, _, rfl, xo_70⟩ rfl rfl trivial ?_
  repeat' (first | omega | (exact h11 _ (RW_cp hA hR C1) (EFr_W C1.1) C1.2.1.2.2.2.2) | simp only [w_aload, x_g100_70, w_call, w_iconst, w_istore, w_fall, Int.reduceToNat, w_iload, x_g804_w0, w_ifc, cI, w_iinc, lgB, Nat.reduceSub, w_goto, x_g101_70, w_imul, w_iadd, x_bast, w_return, isA_w1, isA_w2, isA_w3, isA_w4, isA_w5, isA_w6, isA_w7, isA_w8, isA_w10, isA_w11, isA_w12, isA_w14, isA_w15, isA_w16, len_w1, len_w2, len_w3, len_w4, len_w5, len_w6, len_w7, len_w8, len_w10, len_w11, len_w12, len_w14, len_w15, len_w16, isA_88, len_88, isA_89, len_89, isA_90, len_90, isA_91, len_91, isA_92, len_92, Int.cast_ofNat_Int, a29_0, a29_43, a29_65, a29_104, R32, List.getElem?_cons_zero, List.getElem?_cons_succ, List.set_cons_zero, List.set_cons_succ, List.cons_append, List.nil_append, List.replicate_succ, List.replicate_zero, List.take_succ_cons, List.take_zero, List.drop_succ_cons, List.drop_zero, List.reverse_cons, List.reverse_nil, List.length_cons, List.length_nil, Option.toList, true_and, and_true, eq_self, ↓reduceIte, not_true_eq_false, not_false_eq_true, true_or, or_true, hw, hv] | with_reducible refine w_106 hw hv d71 hlo (fun T1 C1 => ?_) | with_reducible refine And.intro ?_ ?_ | with_reducible intro _)
  all_goals (try (first | omega | (exfalso; assumption) | skip))
theorem k31_0 : pg.1 31 0 = [.iload 2, .aload 1, .getfield 804, .if_icmp .ge 14, .iload 2, .bipush 6, .if_icmp .lt 43, .jsr 14] := rfl
theorem a31_0 {tb : Tab} {d : Nat} {K : Out → AM → Prop} {ls st : List AV} {m : AM} : At tb d 31 K 0 ls st m = wpB tb (pg.2.1 31) (Runs tb pg d) K (At tb d 31 K) [.iload 2, .aload 1, .getfield 804, .if_icmp .ge 14, .iload 2, .bipush 6, .if_icmp .lt 43, .jsr 14] ls st m := At.eq k31_0
theorem k31_14 : pg.1 31 14 = [.iload 3, .aload 0, .getfield 106, .if_icmp .le 42, .aload 0, .iload 3, .putfield 106, .aload 0, .getfield 104, .bipush 0, .aload 0, .getfield 105, .bipush 0, .bipush 6, .invokestatic 2, .jsr 42] := rfl
theorem a31_14 {tb : Tab} {d : Nat} {K : Out → AM → Prop} {ls st : List AV} {m : AM} : At tb d 31 K 14 ls st m = wpB tb (pg.2.1 31) (Runs tb pg d) K (At tb d 31 K) [.iload 3, .aload 0, .getfield 106, .if_icmp .le 42, .aload 0, .iload 3, .putfield 106, .aload 0, .getfield 104, .bipush 0, .aload 0, .getfield 105, .bipush 0, .bipush 6, .invokestatic 2, .jsr 42] ls st m := At.eq k31_14
theorem k31_42 : pg.1 31 42 = [.return_] := rfl
theorem a31_42 {tb : Tab} {d : Nat} {K : Out → AM → Prop} {ls st : List AV} {m : AM} : At tb d 31 K 42 ls st m = wpB tb (pg.2.1 31) (Runs tb pg d) K (At tb d 31 K) [.return_] ls st m := At.eq k31_42
theorem k31_43 : pg.1 31 43 = [.iload 3, .aload 0, .getfield 102, .iload 2, .iaload, .iadd, .aload 0, .getfield 106, .if_icmp .gt 59, .return_] := rfl
theorem a31_43 {tb : Tab} {d : Nat} {K : Out → AM → Prop} {ls st : List AV} {m : AM} : At tb d 31 K 43 ls st m = wpB tb (pg.2.1 31) (Runs tb pg d) K (At tb d 31 K) [.iload 3, .aload 0, .getfield 102, .iload 2, .iaload, .iadd, .aload 0, .getfield 106, .if_icmp .gt 59, .return_] ls st m := At.eq k31_43
theorem k31_59 : pg.1 31 59 = [.aload 1, .getfield 805, .iload 2, .iaload, .istore 4, .bipush 0, .istore 5, .jsr 70] := rfl
theorem a31_59 {tb : Tab} {d : Nat} {K : Out → AM → Prop} {ls st : List AV} {m : AM} : At tb d 31 K 59 ls st m = wpB tb (pg.2.1 31) (Runs tb pg d) K (At tb d 31 K) [.aload 1, .getfield 805, .iload 2, .iaload, .istore 4, .bipush 0, .istore 5, .jsr 70] ls st m := At.eq k31_59
theorem k31_70 : pg.1 31 70 = [.iload 5, .aload 1, .getfield 800, .if_icmp .ge 169, .aload 1, .getfield 802, .iload 5, .iaload, .ifCond .le 163, .aload 0, .getfield 103, .iload 5, .iaload, .iload 4, .if_icmp .lt 163, .aload 0, .getfield 103, .iload 5, .dup2, .iaload, .iload 4, .isub, .iastore, .aload 0, .getfield 104, .iload 2, .iload 5, .iastore, .aload 0, .aload 1, .iload 2, .bipush 1, .iadd, .iload 3, .aload 0, .getfield 101, .bipush 6, .iload 2, .imul, .iload 5, .iadd, .baload, .ifCond .eq 146, .bipush 1, .goto 147] := rfl
theorem a31_70 {tb : Tab} {d : Nat} {K : Out → AM → Prop} {ls st : List AV} {m : AM} : At tb d 31 K 70 ls st m = wpB tb (pg.2.1 31) (Runs tb pg d) K (At tb d 31 K) [.iload 5, .aload 1, .getfield 800, .if_icmp .ge 169, .aload 1, .getfield 802, .iload 5, .iaload, .ifCond .le 163, .aload 0, .getfield 103, .iload 5, .iaload, .iload 4, .if_icmp .lt 163, .aload 0, .getfield 103, .iload 5, .dup2, .iaload, .iload 4, .isub, .iastore, .aload 0, .getfield 104, .iload 2, .iload 5, .iastore, .aload 0, .aload 1, .iload 2, .bipush 1, .iadd, .iload 3, .aload 0, .getfield 101, .bipush 6, .iload 2, .imul, .iload 5, .iadd, .baload, .ifCond .eq 146, .bipush 1, .goto 147] ls st m := At.eq k31_70
theorem k31_146 : pg.1 31 146 = [.bipush 0, .jsr 147] := rfl
theorem a31_146 {tb : Tab} {d : Nat} {K : Out → AM → Prop} {ls st : List AV} {m : AM} : At tb d 31 K 146 ls st m = wpB tb (pg.2.1 31) (Runs tb pg d) K (At tb d 31 K) [.bipush 0, .jsr 147] ls st m := At.eq k31_146
theorem k31_147 : pg.1 31 147 = [.iadd, .invokeinterface 31 4, .aload 0, .getfield 103, .iload 5, .dup2, .iaload, .iload 4, .iadd, .iastore, .jsr 163] := rfl
theorem a31_147 {tb : Tab} {d : Nat} {K : Out → AM → Prop} {ls st : List AV} {m : AM} : At tb d 31 K 147 ls st m = wpB tb (pg.2.1 31) (Runs tb pg d) K (At tb d 31 K) [.iadd, .invokeinterface 31 4, .aload 0, .getfield 103, .iload 5, .dup2, .iaload, .iload 4, .iadd, .iastore, .jsr 163] ls st m := At.eq k31_147
theorem k31_163 : pg.1 31 163 = [.iinc 5 1, .goto 70] := rfl
theorem a31_163 {tb : Tab} {d : Nat} {K : Out → AM → Prop} {ls st : List AV} {m : AM} : At tb d 31 K 163 ls st m = wpB tb (pg.2.1 31) (Runs tb pg d) K (At tb d 31 K) [.iinc 5 1, .goto 70] ls st m := At.eq k31_163
theorem k31_169 : pg.1 31 169 = [.aload 0, .getfield 104, .iload 2, .bipush (-1), .iastore, .aload 0, .aload 1, .iload 2, .bipush 1, .iadd, .iload 3, .invokeinterface 31 4, .return_] := rfl
theorem a31_169 {tb : Tab} {d : Nat} {K : Out → AM → Prop} {ls st : List AV} {m : AM} : At tb d 31 K 169 ls st m = wpB tb (pg.2.1 31) (Runs tb pg d) K (At tb d 31 K) [.aload 0, .getfield 104, .iload 2, .bipush (-1), .iastore, .aload 0, .aload 1, .iload 2, .bipush 1, .iadd, .iload 3, .invokeinterface 31 4, .return_] ls st m := At.eq k31_169
theorem w_31 {v : Nat} {n : Int} {a : Int → Int} (hv : isW v) (hd : v ≠ 71) (hA : AB r) : ∀ (j p : Nat) (wh : Int) (c : Int → Int) (S : Nat → Int → Int) (K : Out → AM → Prop), (p : Int) + j = r 4 → RW S v r → knT r n a S → zoB (S 88) → inT r n c S p wh → bsT r n S (nrN (r 3) c p * pwN (r 3) j) → (∀ T, frT S T p → bsT r n T ((nrN (r 3) c p + 1) * pwN (r 3) j) → K (.inl none) (X T m)) → Runs tb pg (d + (j + 1)) 31 [vr 70, vr v, vi p, vi wh] (X S m) K
  | 0, p, wh, c, S, K, hp, hR, hk, hz, hi, hb, hK => by
    have q3 := hA.2.1.1
    have q4 := hA.2.1.2.1
    have t4 : S v 4 = r 4 := hR.1.2.1
    have k0 := hb.1
    have wr : wh ≤ 36 ∧ 0 ≤ wh := by
      have := tlW_rg (L := lasM evL r n) (c := c) (np := p) (n := r 3) q3.1 (by omega)
      rw [← hi.2.2.2] at this
      have e := (tr_end hA (by omega) hi).1
      have := byW_rg (P := pr r) (F := fr r) (L := lasM evL r n) (c := c) q3 q4
      unfold byV at e
      omega
    have hno : wh ≤ S 70 6 → K (.inl none) (X S m) := fun y => hK _ frT_r (tr_no hA (by omega) hi hb y)
    have hyes : S 70 6 < wh → K (.inl none) (X (cpyS (upS S 70 6 wh) 91 92 0 0 6) m) := fun y => hK _ (tr_yes hA (by omega) hi hb y).2 (tr_yes hA (by omega) hi hb y).1
    refine Runs.of (al := [vr 70, vr v, vi p, vi wh]) (n := 2) ⟨70, _, _, rfl, xo_70⟩ rfl rfl trivial ?_
    repeat' (first | omega | (exact hno (by omega)) | (exact hyes (by omega)) | simp only [w_iload, w_aload, x_g804_w0, w_ifc, cI, Int.reduceToNat, w_iconst, w_fall, x_g106_70, x_p106_70, x_g104_70, x_g105_70, x_copy, w_return, x_g102_70, x_iald, w_ialoads, w_ialoadw, w_iadd, x_g805_w0, w_istore, x_g800_w0, x_g802_w0, w_if, x_g103_70, w_dup2, w_isub, x_iast, x_g101_70, w_imul, x_bald, w_baloadx, w_goto, w_call, w_iinc, lgB, Nat.reduceSub, isA_w1, isA_w2, isA_w3, isA_w4, isA_w5, isA_w6, isA_w7, isA_w8, isA_w10, isA_w11, isA_w12, isA_w14, isA_w15, isA_w16, len_w1, len_w2, len_w3, len_w4, len_w5, len_w6, len_w7, len_w8, len_w10, len_w11, len_w12, len_w14, len_w15, len_w16, isA_88, len_88, isA_89, len_89, isA_90, len_90, isA_91, len_91, isA_92, len_92, Int.cast_ofNat_Int, a31_0, a31_14, a31_42, a31_59, a31_146, a31_147, a31_163, a31_169, R32, List.getElem?_cons_zero, List.getElem?_cons_succ, List.set_cons_zero, List.set_cons_succ, List.cons_append, List.nil_append, List.replicate_succ, List.replicate_zero, List.take_succ_cons, List.take_zero, List.drop_succ_cons, List.drop_zero, List.reverse_cons, List.reverse_nil, List.length_cons, List.length_nil, Option.toList, true_and, and_true, eq_self, ↓reduceIte, not_true_eq_false, not_false_eq_true, true_or, or_true, hv] | with_reducible refine And.intro ?_ ?_ | with_reducible intro _)
    all_goals (try (first | omega | (exfalso; assumption) | skip))
  | j + 1, p, wh, c, S, K, hp, hR, hk, hz, hi, hb, hK => by
    have q3 := hA.2.1.1
    have q4 := hA.2.1.2.1
    have t4 : S v 4 = r 4 := hR.1.2.1
    have pp := hR.2.2.1 p (by omega) (by omega)
    have s4 := pp.1
    have zp := AB_pp hA (p := p) (by omega) (by omega)
    have kb := hb.1
    have e89 : S 89 p = saN a (r 4) (j + 1) := by
      have := hk.2.1 (j + 1) (by omega)
      rw [show r 4 - ((j + 1 : Nat) : Int) = p by omega] at this
      exact this
    have sr := saN_rg (np := r 4) hk.2.2.2 (j + 1)
    have wr : wh ≤ 36 ∧ 0 ≤ wh := by
      have := tlW_rg (L := lasM evL r n) (c := c) (np := p) (n := r 3) q3.1 (by omega)
      rw [← hi.2.2.2] at this
      omega
    have hcut : wh + saN a (r 4) (j + 1) ≤ S 70 6 → K (.inl none) (X S m) := fun y => hK _ frT_r (tr_cut hA (by omega) hk hi hb y)
    have hrec : ∀ (T : Nat → Int → Int) (i st : Int) (K2 : Out → AM → Prop), 0 ≤ i → i < r 3 → frT S T p → bsT r n T ((nrN (r 3) c p * (r 3 + 1) + i) * pwN (r 3) j) → 0 < fr r i 1 → pr r p 0 ≤ fr r i 2 - inW (pr r) c i p → yn st (lasM evL r n p i) → (∀ U, frT S (upS U 90 i (U 90 i + pr r p 0)) p → U 90 i = S 90 i - pr r p 0 → bsT r n (upS U 90 i (U 90 i + pr r p 0)) ((nrN (r 3) c p * (r 3 + 1) + (i + 1)) * pwN (r 3) j) → K2 (.inl none) (X U m)) → Runs tb pg (d + (j + 1)) 31 [vr 70, vr v, vi ((p : Int) + 1), vi (wh + st)] (X (upS (upS T 90 i (T 90 i - pr r p 0)) 91 p i) m) K2 := by
      intro T i st K2 h0 h1 hT hbT hs hl hst hK2
      have e90 : T 90 = S 90 := hT.1 90 (by decide) (by decide) (by decide)
      have ib := tr_put hA (by omega) h0 h1 hi hT hs hl hst
      have hRT : RW (upS (upS T 90 i (T 90 i - pr r p 0)) 91 p i) v r := RW_k hR (fun k hk => by
        have a1 := scr_w hv (a := 90) (by unfold scr; omega) hk
        have a2 := scr_w hv (a := 91) (by unfold scr; omega) hk
        have a3 : v + k ≠ 70 := scr_w hv (a := 70) (by unfold scr; omega) hk
        have a4 : v + k ≠ 92 := scr_w hv (a := 92) (by unfold scr; omega) hk
        rw [up_lit a2, up_lit a1]
        exact hT.1 _ a3 a2 a4)
      refine w_31 hv hd hA j (p + 1) (wh + st) (putC c p i) _ K2 (by omega) hRT (knT_f hk ?_ ?_) ?_ ib ?_ (fun U hU hbU => ?_)
      · exact hT.1 88 (by decide) (by decide) (by decide)
      · exact hT.1 89 (by decide) (by decide) (by decide)
      · show zoB (T 88)
        rw [hT.1 88 (by decide) (by decide) (by decide)]; exact hz
      · rw [nr_next]; exact hbT
      · rw [nr_nextS] at hbU
        have u90 : U 90 = upS T 90 i (T 90 i - pr r p 0) 90 := hU.1 90 (by decide) (by decide) (by decide)
        have ui : U 90 i = S 90 i - pr r p 0 := by rw [u90, upS_at, if_pos ⟨rfl, rfl⟩, e90]
        refine hK2 U ⟨fun x x1 x2 x3 => ?_, fun y hy => ?_, fun y hy => ?_⟩ ui hbU
        · by_cases z : x = 90
          · subst z
            funext y
            rw [upS_at, u90, upS_at, upS_at, e90]
            by_cases q : y = i
            · rw [if_pos ⟨rfl, q⟩, if_pos ⟨rfl, rfl⟩, q]; omega
            · rw [if_neg (fun h => q h.2), if_neg (fun h => q h.2)]
          · rw [up_lit z, hU.1 x x1 x2 x3, up_lit x2, up_lit z]
            exact hT.1 x x1 x2 x3
        · rw [up_lit (by decide), hU.2.1 y hy, up_lit (by decide), up_lit (by decide)]
          exact hT.2.1 y hy
        · rw [up_lit (by decide), hU.2.2 y (by omega), upS_at, if_neg (by omega), up_lit (by decide)]
          exact hT.2.2 y hy
    have hlast : ∀ (T : Nat → Int → Int) (K2 : Out → AM → Prop), frT S T p → bsT r n T ((nrN (r 3) c p * (r 3 + 1) + r 3) * pwN (r 3) j) → (∀ U, frT S U p → bsT r n U ((nrN (r 3) c p + 1) * pwN (r 3) (j + 1)) → K2 (.inl none) (X U m)) → Runs tb pg (d + (j + 1)) 31 [vr 70, vr v, vi ((p : Int) + 1), vi wh] (X (upS T 91 p (-1)) m) K2 := by
      intro T K2 hT hbT hK2
      have ib := tr_none hA (by omega) hi hT
      have hRT : RW (upS T 91 p (-1)) v r := RW_k hR (fun k hk => by
        have a2 := scr_w hv (a := 91) (by unfold scr; omega) hk
        have a3 : v + k ≠ 70 := scr_w hv (a := 70) (by unfold scr; omega) hk
        have a4 : v + k ≠ 92 := scr_w hv (a := 92) (by unfold scr; omega) hk
        rw [up_lit a2]
        exact hT.1 _ a3 a2 a4)
      refine w_31 hv hd hA j (p + 1) wh (putC c p (r 3)) _ K2 (by omega) hRT (knT_f hk ?_ ?_) ?_ ib ?_ (fun U hU hbU => ?_)
      · exact hT.1 88 (by decide) (by decide) (by decide)
      · exact hT.1 89 (by decide) (by decide) (by decide)
      · show zoB (T 88)
        rw [hT.1 88 (by decide) (by decide) (by decide)]; exact hz
      · rw [nr_next]; exact hbT
      · rw [nr_nextS, ← nr_last] at hbU
        refine hK2 U ⟨fun x x1 x2 x3 => ?_, fun y hy => ?_, fun y hy => ?_⟩ hbU
        · rw [hU.1 x x1 x2 x3, up_lit x2]; exact hT.1 x x1 x2 x3
        · rw [hU.2.1 y hy, up_lit (by decide)]; exact hT.2.1 y hy
        · rw [hU.2.2 y (by omega), upS_at, if_neg (by omega)]; exact hT.2.2 y hy
    have hL70 : (fun i : Int => ∀ (T : Nat → Int → Int), (frT S T p) → (bsT r n T ((nrN (r 3) c p * (r 3 + 1) + i) * pwN (r 3) j)) → At tb (d + (j + 1)) 31 K 70 [vr 70, vr v, vi p, vi wh, vi (pr r p 0), vi i] [] (X T m)) 0 := by
      refine loopZ (fun i : Int => ∀ (T : Nat → Int → Int), (frT S T p) → (bsT r n T ((nrN (r 3) c p * (r 3 + 1) + i) * pwN (r 3) j)) → At tb (d + (j + 1)) 31 K 70 [vr 70, vr v, vi p, vi wh, vi (pr r p 0), vi i] [] (X T m)) (r 3) (by omega) ?_ ?_
      · intro i h0 h1 h9 T hT hbT
        have hTR : RW T v r := RW_k hR (fun k hk => hT.1 _ (scr_w hv (a := 70) (by unfold scr; omega) hk) (scr_w hv (a := 91) (by unfold scr; omega) hk) (scr_w hv (a := 92) (by unfold scr; omega) hk))
        have t0 : T v 0 = r 3 := hTR.1.1
        have t2 := (hTR.2.1 i h0 h1).2.1
        have zf := AB_ff hA h0 h1
        have e90 : T 90 = S 90 := hT.1 90 (by decide) (by decide) (by decide)
        have e88 : T 88 = S 88 := hT.1 88 (by decide) (by decide) (by decide)
        have l90 := (hi.2.2.1 i h0 h1).1
        have rm := (hi.2.2.1 i h0 h1).2
        have ig := inW_rg (c := c) (f := i) (n := p) (P := pr r) (by omega) (fun k k0 k1 => (hA.2.2.1 k k0 k1).1)
        have t90 : T 90 i = fr r i 2 - inW (pr r) c i p := by rw [e90]; exact l90
        have y88 := hk.1 p i (by omega) (by omega) h0 h1
        rw [← e88] at y88
        have g88 := yn_b y88
        have full : (fr r i 1 ≤ 0 ∨ fr r i 2 - inW (pr r) c i p < pr r p 0) → bsT r n T ((nrN (r 3) c p * (r 3 + 1) + (i + 1)) * pwN (r 3) j) := fun y => tr_full hA (by omega) h0 h1 hi y hbT
        rw [a31_70]
        repeat' (first | omega | with_reducible refine h9 _ ?_ ?_ | simp only [w_iload, w_aload, x_g804_w0, w_ifc, cI, Int.reduceToNat, w_iconst, w_fall, x_g106_70, x_p106_70, x_g104_70, x_g105_70, x_copy, w_return, x_g102_70, x_iald, w_ialoads, w_ialoadw, w_iadd, x_g805_w0, w_istore, x_g800_w0, x_g802_w0, w_if, x_g103_70, w_dup2, w_isub, x_iast, x_g101_70, w_imul, x_bald, w_baloadx, w_goto, w_call, w_iinc, lgB, Nat.reduceSub, isA_w1, isA_w2, isA_w3, isA_w4, isA_w5, isA_w6, isA_w7, isA_w8, isA_w10, isA_w11, isA_w12, isA_w14, isA_w15, isA_w16, len_w1, len_w2, len_w3, len_w4, len_w5, len_w6, len_w7, len_w8, len_w10, len_w11, len_w12, len_w14, len_w15, len_w16, isA_88, len_88, isA_89, len_89, isA_90, len_90, isA_91, len_91, isA_92, len_92, Int.cast_ofNat_Int, a31_0, a31_14, a31_42, a31_43, a31_59, a31_146, a31_147, a31_163, a31_169, R32, List.getElem?_cons_zero, List.getElem?_cons_succ, List.set_cons_zero, List.set_cons_succ, List.cons_append, List.nil_append, List.replicate_succ, List.replicate_zero, List.take_succ_cons, List.take_zero, List.drop_succ_cons, List.drop_zero, List.reverse_cons, List.reverse_nil, List.length_cons, List.length_nil, Option.toList, true_and, and_true, eq_self, ↓reduceIte, not_true_eq_false, not_false_eq_true, true_or, or_true, hv, up_lit, ne_eq, Nat.reduceEqDiff, not_false_eq_true] | (have z1 : yn 1 (lasM evL r n p i) := (by rw [show (1 : Int) = T 88 (6 * (p : Int) + i) by omega]; exact y88); (with_reducible refine hrec T i 1 _ h0 h1 hT hbT ?_ ?_ z1 (fun U hU uU hbU => ?_))) | (have z1 : yn 0 (lasM evL r n p i) := (by rw [show (0 : Int) = T 88 (6 * (p : Int) + i) by omega]; exact y88); (with_reducible refine hrec T i 0 _ h0 h1 hT hbT ?_ ?_ z1 (fun U hU uU hbU => ?_))) | with_reducible refine And.intro ?_ ?_ | with_reducible intro _)
        all_goals (try (first | omega | contradiction | exact hT | exact hU | exact hbU | (exact full (by omega)) | (unfold roomM at rm; split at rm <;> omega)))
      · intro T hT hbT
        have hTR : RW T v r := RW_k hR (fun k hk => hT.1 _ (scr_w hv (a := 70) (by unfold scr; omega) hk) (scr_w hv (a := 91) (by unfold scr; omega) hk) (scr_w hv (a := 92) (by unfold scr; omega) hk))
        have t0 : T v 0 = r 3 := hTR.1.1
        rw [a31_70]
        repeat' (first | omega | simp only [w_iload, w_aload, x_g804_w0, w_ifc, cI, Int.reduceToNat, w_iconst, w_fall, x_g106_70, x_p106_70, x_g104_70, x_g105_70, x_copy, w_return, x_g102_70, x_iald, w_ialoads, w_ialoadw, w_iadd, x_g805_w0, w_istore, x_g800_w0, x_g802_w0, w_if, x_g103_70, w_dup2, w_isub, x_iast, x_g101_70, w_imul, x_bald, w_baloadx, w_goto, w_call, w_iinc, lgB, Nat.reduceSub, isA_w1, isA_w2, isA_w3, isA_w4, isA_w5, isA_w6, isA_w7, isA_w8, isA_w10, isA_w11, isA_w12, isA_w14, isA_w15, isA_w16, len_w1, len_w2, len_w3, len_w4, len_w5, len_w6, len_w7, len_w8, len_w10, len_w11, len_w12, len_w14, len_w15, len_w16, isA_88, len_88, isA_89, len_89, isA_90, len_90, isA_91, len_91, isA_92, len_92, Int.cast_ofNat_Int, a31_0, a31_14, a31_42, a31_43, a31_59, a31_146, a31_147, a31_163, a31_169, R32, List.getElem?_cons_zero, List.getElem?_cons_succ, List.set_cons_zero, List.set_cons_succ, List.cons_append, List.nil_append, List.replicate_succ, List.replicate_zero, List.take_succ_cons, List.take_zero, List.drop_succ_cons, List.drop_zero, List.reverse_cons, List.reverse_nil, List.length_cons, List.length_nil, Option.toList, true_and, and_true, eq_self, ↓reduceIte, not_true_eq_false, not_false_eq_true, true_or, or_true, hv, up_lit, ne_eq, Nat.reduceEqDiff, not_false_eq_true] | with_reducible refine hlast T _ hT hbT (fun U hU hbU => ?_) | (exact hK _ hU hbU) | with_reducible refine And.intro ?_ ?_ | with_reducible intro _)
        all_goals (try (first | omega | contradiction | skip))
    refine Runs.of (al := [vr 70, vr v, vi p, vi wh]) (n := 2) ⟨70, _, _, rfl, xo_70⟩ rfl rfl trivial ?_
    repeat' (first | omega | (exact hcut (by omega)) | (refine hL70 _ ?_ ?_) | simp only [w_iload, w_aload, x_g804_w0, w_ifc, cI, Int.reduceToNat, w_iconst, w_fall, x_g106_70, x_p106_70, x_g104_70, x_g105_70, x_copy, w_return, x_g102_70, x_iald, w_ialoads, w_ialoadw, w_iadd, x_g805_w0, w_istore, x_g800_w0, x_g802_w0, w_if, x_g103_70, w_dup2, w_isub, x_iast, x_g101_70, w_imul, x_bald, w_baloadx, w_goto, w_call, w_iinc, lgB, Nat.reduceSub, isA_w1, isA_w2, isA_w3, isA_w4, isA_w5, isA_w6, isA_w7, isA_w8, isA_w10, isA_w11, isA_w12, isA_w14, isA_w15, isA_w16, len_w1, len_w2, len_w3, len_w4, len_w5, len_w6, len_w7, len_w8, len_w10, len_w11, len_w12, len_w14, len_w15, len_w16, isA_88, len_88, isA_89, len_89, isA_90, len_90, isA_91, len_91, isA_92, len_92, Int.cast_ofNat_Int, a31_0, a31_42, a31_43, a31_59, a31_146, a31_147, a31_163, a31_169, R32, List.getElem?_cons_zero, List.getElem?_cons_succ, List.set_cons_zero, List.set_cons_succ, List.cons_append, List.nil_append, List.replicate_succ, List.replicate_zero, List.take_succ_cons, List.take_zero, List.drop_succ_cons, List.drop_zero, List.reverse_cons, List.reverse_nil, List.length_cons, List.length_nil, Option.toList, true_and, and_true, eq_self, ↓reduceIte, not_true_eq_false, not_false_eq_true, true_or, or_true, hv] | (rw [s4]) | with_reducible refine And.intro ?_ ?_ | with_reducible intro _)
    all_goals (try (first | omega | (exfalso; assumption) | exact frT_r | (rw [← nr_first]; exact hb)))
end Last2
