/-! ===== THE REFERENCE: a day goes by ===== -/
/-- whether it snows; the row behind each part of a day -/
def snB (w : Int) (r : Int → Int) : Prop := w ≠ 0 ∧ drawV r % 100 < r 7
noncomputable def st0 (w : Int) (r : Int → Int) : Int → Int := if w = 0 then r else drawR r
noncomputable def st1 (ev : LawD → Int → (Int → Int) → Int) (w : Int) (r : Int → Int) : Int → Int := @ite _ (snB w r) (Classical.propDecidable _) (fallsR (st0 w r)) (thawsR ev (st0 w r))
noncomputable def st2 (w : Int) (r : Int → Int) : Int → Int := if w = 0 then r else if drawV r % 100 < r 8 ∧ onS r ≠ 0 then haresR (drawR r) else drawR r
def st3 (w : Int) (r : Int → Int) : Int → Int := if w = 0 then r else if drawV r % 100 < r 9 then blowsR (drawR r) else drawR r
def st4 (r : Int → Int) : Int → Int := putR r 10 (if 9999 < r 10 + 1 then 9999 else r 10 + 1)
noncomputable def passR (ev : LawD → Int → (Int → Int) → Int) (w : Int) (r : Int → Int) : Int → Int := st4 (st3 w (st2 w (st1 ev w r)))
theorem st0_AB {w : Int} {r : Int → Int} (h : AB r) : AB (st0 w r) := by
  unfold st0
  split
  · exact h
  · exact drawR_AB h
theorem st1_AB {ev : LawD → Int → (Int → Int) → Int} {w : Int} {r : Int → Int} (h : AB r) : AB (st1 ev w r) := by
  unfold st1
  split
  · exact fallsR_AB (st0_AB h)
  · exact thawsR_AB (st0_AB h)
theorem hareR_AB {r : Int → Int} {p : Int} (h : AB r) (h0 : 0 ≤ p) (h1 : p < r 4) : AB (hareR r p) := by
  have b4 := h.2.1.2.1
  have d := drawR_AB h
  have b5 := h.2.2.2.2.2 p h0 h1
  have b2 := (h.2.2.1 p h0 (by omega)).1
  have m0 : 0 ≤ drawV r % pr r p 0 := Int.emod_nonneg _ (by omega)
  have m1 : drawV r % pr r p 0 < pr r p 0 := Int.emod_lt_of_pos _ (by omega)
  have c2 := (d.2.2.1 p h0 (by omega)).2.1
  have c0 := d.1 (31 + 20 * p + (8 + drawV r % pr r p 0)) (by omega)
  unfold hareR
  split
  · exact d
  · have e0 : 0 ≤ pr (drawR r) p (8 + drawV r % pr r p 0) + 1 := by show 0 ≤ drawR r (31 + 20 * p + (8 + drawV r % pr r p 0)) + 1; omega
    refine logsR_AB (by omega) (by omega) (by omega) (markR_AB h0 (by omega) m0 (by omega) ?_ d)
    omega
theorem oneF_ex {s k : Int} (h : 0 ≤ k) (hk : k < bitsM s 31) : 0 ≤ oneF s k ∧ oneF s k < 31 ∧ bitB s (oneF s k) := by
  have h9 := fstC_is (c := fun i => bitB s i ∧ bitsM s i = k) 31
  rcases h9 with ⟨h1, h2⟩ | ⟨h1, h2, h3, h4⟩
  · exfalso
    have : ∀ j : Nat, (j : Int) ≤ 31 → bitsM s j ≤ k := by
      intro j
      induction j with
      | zero => intro _; rw [show bitsM s ((0 : Nat) : Int) = 0 from rfl]; exact h
      | succ j ih =>
        intro hj
        have a := ih (by omega)
        have b := h2 j (by omega) (by omega)
        rw [show ((j + 1 : Nat) : Int) = (j : Int) + 1 by omega, bitsM_s (by omega)]
        have q := andI_1 (shrI s j)
        by_cases e : bitsM s j = k
        · rcases q with q | q
          · omega
          · exact absurd ⟨q, e⟩ b
        · omega
    have := this 31 (by decide)
    rw [show ((31 : Nat) : Int) = 31 from rfl] at this
    omega
  · exact ⟨h1, h2, h3.1⟩
theorem haresR_AB {r : Int → Int} (h : AB r) (hs : onS r ≠ 0) : AB (haresR r) := by
  obtain ⟨j, j0, j1, j2⟩ := on_ex h hs
  have bp := bits_pos j0 (by omega) j2
  have o := oneF_ex (s := onS r) (k := drawV r % bitsM (onS r) 31) (Int.emod_nonneg _ (by omega)) (Int.emod_lt_of_pos _ bp)
  have a := on_mem h o.1 o.2.1 o.2.2
  exact hareR_AB (drawR_AB h) o.1 (by rw [drawR_o (by decide)]; exact a.1)
theorem st2_AB {w : Int} {r : Int → Int} (h : AB r) : AB (st2 w r) := by
  unfold st2
  split
  · exact h
  · split
    · next e => exact haresR_AB (drawR_AB h) (by rw [onS_draw h]; exact e.2)
    · exact drawR_AB h
theorem st3_AB {w : Int} {r : Int → Int} (h : AB r) : AB (st3 w r) := by
  unfold st3
  split
  · exact h
  · have d := drawR_AB h
    split
    · exact (blwN_AB d _ (by have := d.2.1.2.1; omega)).1
    · exact d
theorem st4_AB {r : Int → Int} (h : AB r) : AB (st4 r) := by
  have e : ∀ j, j ≠ 10 → st4 r j = r j := fun j hj => by unfold st4 putR; rw [if_neg hj]
  have e10 : st4 r 10 = if 9999 < r 10 + 1 then 9999 else r 10 + 1 := by unfold st4 putR; rw [if_pos rfl]
  obtain ⟨b0, b1, b2, b3, b4, b5⟩ := h
  have b3' := b1.2.1
  have b10 := b1.2.2.2.2.2.2.2.2
  refine ⟨fun j hj => ?_, ?_, fun q q0 q1 => ?_, fun q q0 q1 => ?_, fun k k0 k1 => ?_, fun q q0 q1 => ?_⟩
  · by_cases z : j = 10
    · rw [z, e10]; split <;> omega
    · rw [e j z]; exact b0 j hj
  · unfold B1 at b1 ⊢
    rw [e 3 (by decide), e 4 (by decide), e 5 (by decide), e 0 (by decide), e 1 (by decide), e 8 (by decide), e 11 (by decide), e 6 (by decide), e10]
    exact ⟨b1.1, b1.2.1, b1.2.2.1, b1.2.2.2.1, b1.2.2.2.2.1, b1.2.2.2.2.2.1, b1.2.2.2.2.2.2.1, b1.2.2.2.2.2.2.2.1, by split <;> omega⟩
  · have := b2 q q0 q1
    have w : ∀ v, 0 ≤ v → pr (st4 r) q v = pr r q v := fun v v0 => e _ (by omega)
    rw [w 0 (by decide), w 1 (by decide)]
    exact ⟨this.1, this.2.1, fun k k0 k1 => by rw [w _ (by omega), w _ (by omega)]; exact this.2.2 k k0 k1⟩
  · have w : ∀ v, 0 ≤ v → fr (st4 r) q v = fr r q v := fun v v0 => e _ (by omega)
    rw [w 0 (by decide), w 1 (by decide), w 2 (by decide)]
    exact b3 q q0 q1
  · rw [e 5 (by decide)] at k1
    have w : ∀ v, 0 ≤ v → dr (st4 r) k v = dr r k v := fun v v0 => e _ (by omega)
    rw [w 0 (by decide), w 1 (by decide)]
    exact b4 k k0 k1
  · rw [e 4 (by decide)] at q1
    have w : ∀ v, 0 ≤ v → pr (st4 r) q v = pr r q v := fun v v0 => e _ (by omega)
    rw [w 0 (by decide), w 1 (by decide), e 3 (by decide)]
    exact b5 q q0 q1
theorem passR_AB {ev : LawD → Int → (Int → Int) → Int} {w : Int} {r : Int → Int} (h : AB r) : AB (passR ev w r) := st4_AB (st3_AB (st2_AB (st1_AB h)))
/-- nothing of the law is altered -/
def LQ (r q : Int → Int) : Prop := ∀ j, j = 1 ∨ j = 2 ∨ 415 ≤ j ∨ j < 0 → q j = r j
theorem lawD_LQ {r q : Int → Int} (h : LQ r q) : lawD q = lawD r := lawD_eq fun j hj => h j (by omega)
theorem LQ_r {r : Int → Int} : LQ r r := fun _ _ => rfl
theorem LQ_t {r q s : Int → Int} (h : LQ r q) (g : LQ q s) : LQ r s := fun j hj => (g j hj).trans (h j hj)
theorem LQ_put {r : Int → Int} {i v : Int} (h : 3 ≤ i ∧ i < 415) : LQ r (putR r i v) := fun j hj => by unfold putR; rw [if_neg (by omega)]
theorem LQ_draw {r : Int → Int} : LQ r (drawR r) := LQ_put (by decide)
theorem LQ_lv {r : Int → Int} {p : Int} (h0 : 0 ≤ p) (h1 : p < 6) : LQ r (leavesR r p) := fun j hj => leavesR_o h0 h1 (by omega)
theorem LQ_lg {r : Int → Int} {p w f : Int} : LQ r (logsR r p w f) := fun j hj => logsR_o (by omega) (by omega)
theorem LQ_snk {r : Int → Int} {p n b : Int} (h0 : 0 ≤ p) (h1 : p < 6) (hc : pr r p 0 ≤ 6) : LQ r (sinkR r p n b) := by
  unfold sinkR
  split
  · exact fun j hj => sinkP_o h0 h1 hc (by omega)
  · exact LQ_t (LQ_t (fun j hj => sinkP_o h0 h1 hc (by omega)) LQ_lg) (LQ_lv h0 h1)
theorem LQ_snkN {n b : (Int → Int) → Int → Int} {r : Int → Int} (hA : AB r) (hn : ∀ q k, 0 ≤ n q k) : ∀ k : Nat, k ≤ 6 → LQ r (snkN n b r k)
  | 0, _ => LQ_r
  | k + 1, hk => by
    have ih := LQ_snkN (b := b) hA hn k (by omega)
    have a := snkN_AB (b := b) hA hn k (by omega)
    show LQ r (if pr (snkN n b r k) k 1 = -1 then snkN n b r k else sinkR (snkN n b r k) k (n (snkN n b r k) k) (b (snkN n b r k) k))
    split
    · exact ih
    · exact LQ_t ih (LQ_snk (by omega) (by omega) (a.2.2.1 k (by omega) (by omega)).1.2)
theorem LQ_snw {g : (Int → Int) → Int → Int} {r : Int → Int} {i : Int} (h : i ≤ 6) : LQ r (snwP g r i) := fun j hj => snwP_o h (by omega)
theorem LQ_blw {r : Int → Int} (h : AB r) : ∀ k : Nat, (k : Int) ≤ r 4 → LQ r (blwN r k)
  | 0, _ => LQ_r
  | k + 1, hk => by
    have b4 := h.2.1.2.1
    have ih := LQ_blw h k (by omega)
    unfold blwN
    split
    · exact ih
    · split
      · exact LQ_t ih (LQ_put (by omega))
      · exact LQ_t ih (LQ_t LQ_lg (LQ_lv (by omega) (by omega)))
theorem LQ_st1 {ev : LawD → Int → (Int → Int) → Int} {w : Int} {r : Int → Int} (h : AB r) : LQ r (st1 ev w r) := by
  have l0 : LQ r (st0 w r) := by
    unfold st0
    split
    · exact LQ_r
    · exact LQ_draw
  have a0 := st0_AB (w := w) h
  have b3 := a0.2.1.1
  have b4 := a0.2.1.2.1
  unfold st1
  split
  · exact LQ_t l0 (LQ_t (LQ_snw b3.2) (LQ_snkN (snwP_AB b3.2 (fl_rg a0) a0) (fun _ _ => by decide) _ (by omega)))
  · exact LQ_t l0 (LQ_t (LQ_snw b3.2) (LQ_snkN (snwP_AB b3.2 (th_rg a0) a0) (fun _ _ => mlF_0) _ (by omega)))
theorem LQ_st2 {w : Int} {q : Int → Int} (a1 : AB q) : LQ q (st2 w q) := by
  unfold st2
  split
  · exact LQ_r
  · split
    · next e =>
      have d := drawR_AB a1
      have hs : onS (drawR q) ≠ 0 := by rw [onS_draw a1]; exact e.2
      obtain ⟨j, j0, j1, j2⟩ := on_ex d hs
      have bp := bits_pos j0 (by omega) j2
      have o := oneF_ex (s := onS (drawR q)) (k := drawV (drawR q) % bitsM (onS (drawR q)) 31) (Int.emod_nonneg _ (by omega)) (Int.emod_lt_of_pos _ bp)
      have a := on_mem d o.1 o.2.1 o.2.2
      have b9 := d.2.1.2.1
      unfold haresR
      refine LQ_t LQ_draw (LQ_t LQ_draw ?_)
      obtain ⟨p, hp⟩ : ∃ p, p = oneF (onS (drawR q)) (drawV (drawR q) % bitsM (onS (drawR q)) 31) := ⟨_, rfl⟩
      rw [← hp] at o a ⊢
      have d2 := drawR_AB d
      have b5 := d2.2.2.2.2.2 p o.1 (by rw [drawR_o (by decide)]; exact a.1)
      have c2 := (d2.2.2.1 p o.1 (by omega)).1
      have m0 : 0 ≤ drawV (drawR (drawR q)) % pr (drawR (drawR q)) p 0 := Int.emod_nonneg _ (by omega)
      have m1 : drawV (drawR (drawR q)) % pr (drawR (drawR q)) p 0 < pr (drawR (drawR q)) p 0 := Int.emod_lt_of_pos _ (by omega)
      unfold hareR
      split
      · exact LQ_draw
      · exact LQ_t LQ_draw (LQ_t (LQ_put (by omega)) LQ_lg)
    · exact LQ_draw
theorem LQ_st3 {w : Int} {q : Int → Int} (a2 : AB q) : LQ q (st3 w q) := by
  unfold st3
  split
  · exact LQ_r
  · have d := drawR_AB a2
    split
    · exact LQ_t LQ_draw (LQ_blw d _ (by have := d.2.1.2.1; omega))
    · exact LQ_draw
theorem LQ_pass {ev : LawD → Int → (Int → Int) → Int} {w : Int} {r : Int → Int} (h : AB r) : LQ r (passR ev w r) := LQ_t (LQ_st1 h) (LQ_t (LQ_st2 (st1_AB h)) (LQ_t (LQ_st3 (st2_AB (st1_AB h))) (LQ_put (by decide))))
theorem st1_y {ev : LawD → Int → (Int → Int) → Int} {w : Int} {r : Int → Int} (h : snB w r) : st1 ev w r = fallsR (st0 w r) := if_pos h
theorem st1_n {ev : LawD → Int → (Int → Int) → Int} {w : Int} {r : Int → Int} (h : ¬ snB w r) : st1 ev w r = thawsR ev (st0 w r) := if_neg h
theorem st0_0 {r : Int → Int} {w : Int} (h : w = 0) : st0 w r = r := if_pos h
theorem st0_1 {r : Int → Int} {w : Int} (h : w ≠ 0) : st0 w r = drawR r := if_neg h
