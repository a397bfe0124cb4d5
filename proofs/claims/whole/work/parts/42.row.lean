/-! ===== THE REFERENCE'S ROW AS A VALUE ===== -/
def sR (S : Nat → Int → Int) (r : Int → Int) : Nat → Int → Int := fun b => if b = 301 then r else S b
def putR (r : Int → Int) (i v : Int) : Int → Int := fun j => if j = i then v else r j
theorem upS_301 {S : Nat → Int → Int} {i v : Int} : upS S 301 i v = sR S (putR (S 301) i v) := by
  funext b
  unfold upS sR
  by_cases h : b = 301
  · rw [if_pos h, if_pos h]; rfl
  · rw [if_neg h, if_neg h]
theorem sR_sR {S : Nat → Int → Int} {r q : Int → Int} : sR (sR S r) q = sR S q := by
  funext b
  unfold sR
  by_cases h : b = 301
  · rw [if_pos h, if_pos h]
  · rw [if_neg h, if_neg h, if_neg h]
theorem sR_r {S : Nat → Int → Int} {r : Int → Int} : sR S r 301 = r := rfl
theorem sR_0 {S : Nat → Int → Int} {r : Int → Int} : sR S r 300 = S 300 := rfl
theorem sR_4 {S : Nat → Int → Int} {r : Int → Int} : sR S r 304 = S 304 := rfl
theorem sR_5 {S : Nat → Int → Int} {r : Int → Int} : sR S r 312 = S 312 := rfl
theorem sR_id {S : Nat → Int → Int} : sR S (S 301) = S := by
  funext b
  unfold sR
  by_cases h : b = 301
  · rw [if_pos h, h]
  · rw [if_neg h]
def pr (r : Int → Int) (p w : Int) : Int := r (31 + 20 * p + w)
def fr (r : Int → Int) (f w : Int) : Int := r (13 + 3 * f + w)
def dr (r : Int → Int) (k w : Int) : Int := r (151 + 3 * k + w)
def gr (r : Int → Int) (k w : Int) : Int := r (175 + 4 * k + w)
theorem oR_pr {S : Nat → Int → Int} : oR S = pr (S 301) := rfl
theorem fR_fr {S : Nat → Int → Int} : fR S = fr (S 301) := rfl
theorem dR_dr {S : Nat → Int → Int} : dR S = dr (S 301) := rfl
theorem lgR_gr {S : Nat → Int → Int} : lgR S = gr (S 301) := rfl
def B0 (r : Int → Int) : Prop := ∀ j, j ≠ 12 → -1 ≤ r j ∧ r j ≤ 10000
def B1 (r : Int → Int) : Prop := (0 ≤ r 3 ∧ r 3 ≤ 6) ∧ (0 ≤ r 4 ∧ r 4 ≤ 6) ∧ (0 ≤ r 5 ∧ r 5 ≤ 8) ∧ (0 ≤ r 0 ∧ r 0 ≤ 12) ∧ (-1 ≤ r 1 ∧ r 1 ≤ 12) ∧ (0 ≤ r 8 ∧ r 8 ≤ 100) ∧ (0 ≤ r 11 ∧ r 11 ≤ 60) ∧ (0 ≤ r 6 ∧ r 6 ≤ 9) ∧ (0 ≤ r 10 ∧ r 10 ≤ 9999)
def B2 (r : Int → Int) : Prop := ∀ p, 0 ≤ p → p < 6 → (0 ≤ pr r p 0 ∧ pr r p 0 ≤ 6) ∧ (-1 ≤ pr r p 1 ∧ pr r p 1 < 6) ∧ (∀ k, 0 ≤ k → k < 6 → (0 ≤ pr r p (14 + k) ∧ pr r p (14 + k) ≤ 9) ∧ (-1 ≤ pr r p (2 + k) ∧ pr r p (2 + k) < 8))
def B3 (r : Int → Int) : Prop := ∀ f, 0 ≤ f → f < 6 → (0 ≤ fr r f 0 ∧ fr r f 0 ≤ 9) ∧ (0 ≤ fr r f 1 ∧ fr r f 1 ≤ 99) ∧ (0 ≤ fr r f 2 ∧ fr r f 2 ≤ 20)
def B4 (r : Int → Int) : Prop := ∀ k, 0 ≤ k → k < r 5 → (0 ≤ dr r k 0 ∧ dr r k 0 < 6) ∧ (0 ≤ dr r k 1 ∧ dr r k 1 < 6)
/-- those of the people are on fields that are there, and have letters -/
def B5 (r : Int → Int) : Prop := ∀ p, 0 ≤ p → p < r 4 → 1 ≤ pr r p 0 ∧ pr r p 1 < r 3
/-- all that always holds of the row -/
def AB (r : Int → Int) : Prop := B0 r ∧ B1 r ∧ B2 r ∧ B3 r ∧ B4 r ∧ B5 r
theorem AB_B {S : Nat → Int → Int} (h : AB (S 301)) : BR S := ⟨h.1, h.2.1.1, h.2.1.2.1, h.2.1.2.2.1, fun p h0 h1 => ⟨(h.2.2.1 p h0 h1).1, (h.2.2.1 p h0 h1).2.1⟩, fun p k h0 h1 k0 k1 => ((h.2.2.1 p h0 h1).2.2 k k0 k1).1, fun p k h0 h1 k0 k1 => ((h.2.2.1 p h0 h1).2.2 k k0 k1).2⟩
theorem AB_C {S : Nat → Int → Int} (h : AB (S 301)) : CR S := ⟨h.2.1.2.2.2.1, h.2.1.2.2.2.2.1, h.2.1.2.2.2.2.2.1, h.2.1.2.2.2.2.2.2.1, fun f h0 h1 => (h.2.2.2.1 f h0 h1).2.2.1⟩
theorem AB_D {S : Nat → Int → Int} (h : AB (S 301)) : DR S := h.2.2.2.2.1
/-- the same but for people: what is wanted so that all holds on -/
theorem AB_p {r q : Int → Int} (h : AB r) (hj : ∀ j, j < 31 ∨ 151 ≤ j → q j = r j) (h0 : ∀ j, 31 ≤ j → j < 151 → -1 ≤ q j ∧ q j ≤ 10000) (h2 : B2 q) (h5 : B5 q) : AB q := by
  obtain ⟨b0, b1, b2, b3, b4, b5⟩ := h
  refine ⟨fun j hj2 => ?_, ?_, h2, fun f f0 f1 => ?_, fun k k0 k1 => ?_, h5⟩
  · by_cases e : 31 ≤ j ∧ j < 151
    · exact h0 j e.1 e.2
    · rw [hj j (by omega)]; exact b0 j hj2
  · unfold B1 at b1 ⊢
    rw [hj 3 (by omega), hj 4 (by omega), hj 5 (by omega), hj 0 (by omega), hj 1 (by omega), hj 8 (by omega), hj 11 (by omega), hj 6 (by omega), hj 10 (by omega)]
    exact b1
  · unfold fr
    rw [hj _ (by omega), hj _ (by omega), hj _ (by omega)]
    exact b3 f f0 f1
  · rw [hj 5 (by omega)] at k1
    unfold dr
    rw [hj _ (by omega), hj _ (by omega)]
    exact b4 k k0 k1
def leavesR (r : Int → Int) (p : Int) : Int → Int := fun i => if i = 32 + 20 * p ∨ (39 + 20 * p ≤ i ∧ i < 45 + 20 * p) then -1 else if 45 + 20 * p ≤ i ∧ i < 51 + 20 * p then 0 else r i
theorem leavesR_p {r : Int → Int} {p q w : Int} (w0 : 0 ≤ w) (w1 : w < 20) : pr (leavesR r p) q w = if q = p ∧ (w = 1 ∨ (8 ≤ w ∧ w < 14)) then -1 else if q = p ∧ 14 ≤ w then 0 else pr r q w := by
  unfold pr leavesR
  by_cases e : q = p ∧ (w = 1 ∨ (8 ≤ w ∧ w < 14))
  · rw [if_pos e, if_pos (by omega)]
  · rw [if_neg e, if_neg (by omega)]
    by_cases e2 : q = p ∧ 14 ≤ w
    · rw [if_pos e2, if_pos (by omega)]
    · rw [if_neg e2, if_neg (by omega)]
theorem leavesR_o {r : Int → Int} {p j : Int} (h0 : 0 ≤ p) (h1 : p < 6) (hj : j < 31 ∨ 151 ≤ j) : leavesR r p j = r j := by
  unfold leavesR
  rw [if_neg (by omega), if_neg (by omega)]
theorem leavesR_AB {r : Int → Int} {p : Int} (h0 : 0 ≤ p) (h1 : p < 6) (h : AB r) : AB (leavesR r p) := by
  refine AB_p h (fun j hj => leavesR_o h0 h1 hj) (fun j j0 j1 => ?_) (fun q q0 q1 => ?_) (fun q q0 q1 => ?_)
  · have := h.1 j (by omega)
    unfold leavesR
    split
    · omega
    · split <;> omega
  · have := h.2.2.1 q q0 q1
    rw [leavesR_p (by omega) (by omega), leavesR_p (by omega) (by omega), if_neg (by omega), if_neg (by omega)]
    refine ⟨this.1, by split <;> first | omega | (split <;> omega), fun k k0 k1 => ?_⟩
    have := this.2.2 k k0 k1
    rw [leavesR_p (by omega) (by omega), leavesR_p (by omega) (by omega), if_neg (by omega)]
    refine ⟨by split <;> omega, ?_⟩
    rw [if_neg (by omega), if_neg (by omega)]
    exact this.2
  · rw [leavesR_o h0 h1 (by omega)] at q1
    have := h.2.2.2.2.2 q q0 q1
    have b := h.2.1.1
    rw [leavesR_p (by omega) (by omega), leavesR_p (by omega) (by omega), leavesR_o h0 h1 (by omega), if_neg (by omega), if_neg (by omega)]
    refine ⟨this.1, ?_⟩
    split
    · omega
    · split <;> omega
def logsR (r : Int → Int) (p w f : Int) : Int → Int := fun i => if i = 11 then (if 60 < r 11 + 1 then 60 else r 11 + 1) else if 179 ≤ i ∧ i < 415 then r (i - 4) else if i = 175 then r 10 else if i = 176 then p else if i = 177 then w else if i = 178 then f else r i
theorem logsR_o {r : Int → Int} {p w f j : Int} (hj : j ≠ 11) (h : j < 175 ∨ 415 ≤ j) : logsR r p w f j = r j := by
  unfold logsR
  rw [if_neg hj, if_neg (by omega), if_neg (by omega), if_neg (by omega), if_neg (by omega), if_neg (by omega)]
theorem logsR_p {r : Int → Int} {p w f : Int} {q v : Int} (q0 : 0 ≤ q) (q1 : q < 6) (v0 : 0 ≤ v) (v1 : v < 20) : pr (logsR r p w f) q v = pr r q v := by
  unfold pr
  exact logsR_o (by omega) (by omega)
theorem logsR_AB {r : Int → Int} {p w f : Int} (hp : -1 ≤ p ∧ p < 6) (hw : 0 ≤ w ∧ w < 5) (hf : -1 ≤ f ∧ f < 6) (h : AB r) : AB (logsR r p w f) := by
  obtain ⟨b0, b1, b2, b3, b4, b5⟩ := h
  refine ⟨fun j hj => ?_, ?_, fun q q0 q1 => ?_, fun q q0 q1 => ?_, fun k k0 k1 => ?_, fun q q0 q1 => ?_⟩
  · have a1 := b0 j hj
    have a2 := b0 (j - 4)
    have a3 := b0 11 (by decide)
    have a4 := b0 10 (by decide)
    unfold logsR
    grind
  · unfold B1 at b1 ⊢
    rw [logsR_o (by omega) (by omega), logsR_o (by omega) (by omega), logsR_o (by omega) (by omega), logsR_o (by omega) (by omega), logsR_o (by omega) (by omega), logsR_o (by omega) (by omega), logsR_o (j := 6) (by omega) (by omega), logsR_o (j := 10) (by omega) (by omega)]
    refine ⟨b1.1, b1.2.1, b1.2.2.1, b1.2.2.2.1, b1.2.2.2.2.1, b1.2.2.2.2.2.1, ?_, b1.2.2.2.2.2.2.2⟩
    unfold logsR
    rw [if_pos rfl]
    split <;> omega
  · have := b2 q q0 q1
    rw [logsR_p q0 q1 (by omega) (by omega), logsR_p q0 q1 (by omega) (by omega)]
    refine ⟨this.1, this.2.1, fun k k0 k1 => ?_⟩
    rw [logsR_p q0 q1 (by omega) (by omega), logsR_p q0 q1 (by omega) (by omega)]
    exact this.2.2 k k0 k1
  · unfold fr
    rw [logsR_o (by omega) (by omega), logsR_o (by omega) (by omega), logsR_o (by omega) (by omega)]
    exact b3 q q0 q1
  · have b := b1.2.2.1
    rw [logsR_o (by omega) (by omega)] at k1
    unfold dr
    rw [logsR_o (by omega) (by omega), logsR_o (by omega) (by omega)]
    exact b4 k k0 k1
  · have b := b1.2.1
    rw [logsR_o (by omega) (by omega)] at q1
    rw [logsR_p q0 (by omega) (by omega) (by omega), logsR_p q0 (by omega) (by omega) (by omega), logsR_o (by omega) (by omega)]
    exact b5 q q0 q1
