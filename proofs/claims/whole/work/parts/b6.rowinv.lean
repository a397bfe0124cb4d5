/-! ===== WHAT ALWAYS HOLDS OF A ROW ===== -/
/-- who is there, the names and the debts are the same -/
def KP (r q : Int → Int) : Prop := (∀ j, j < 10 ∨ (151 ≤ j ∧ j < 175) → q j = r j) ∧ ∀ p w, 0 ≤ p → p < 6 → 0 ≤ w → w < 8 → w ≠ 1 → pr q p w = pr r p w
theorem KP_r {r : Int → Int} : KP r r := ⟨fun _ _ => rfl, fun _ _ _ _ _ _ _ => rfl⟩
theorem KP_t {r q s : Int → Int} (h : KP r q) (g : KP q s) : KP r s := ⟨fun j hj => (g.1 j hj).trans (h.1 j hj), fun p w a b c e f => (g.2 p w a b c e f).trans (h.2 p w a b c e f)⟩
theorem KP_put {r : Int → Int} {i v : Int} (h0 : 10 ≤ i ∧ i < 151) (h1 : i < 31 ∨ (i - 31) % 20 = 1 ∨ 8 ≤ (i - 31) % 20) : KP r (putR r i v) := by
  refine ⟨fun j hj => if_neg (by omega), fun p w p0 p1 w0 w1 w2 => ?_⟩
  show (if 31 + 20 * p + w = i then v else r (31 + 20 * p + w)) = r (31 + 20 * p + w)
  rw [if_neg (by omega)]
theorem KP_draw {r : Int → Int} : KP r (drawR r) := KP_put (by decide) (by decide)
theorem KP_lv {r : Int → Int} {p : Int} (h0 : 0 ≤ p) (h1 : p < 6) : KP r (leavesR r p) := ⟨fun j hj => leavesR_o h0 h1 (by omega), fun q w q0 q1 w0 w1 w2 => by rw [leavesR_p w0 (by omega), if_neg (by omega), if_neg (by omega)]⟩
theorem KP_lg {r : Int → Int} {p w f : Int} : KP r (logsR r p w f) := ⟨fun j hj => logsR_o (by omega) (by omega), fun q v q0 q1 v0 v1 v2 => logsR_p q0 q1 v0 (by omega)⟩
theorem KP_sk {r : Int → Int} {p n b i : Int} (h0 : 0 ≤ p) (h1 : p < 6) (hi : i ≤ 6) : KP r (sinkP r p n b i) := ⟨fun j hj => sinkP_o h0 h1 hi (by omega), fun q w q0 q1 w0 w1 w2 => by rw [sinkP_p hi w0 (by omega), if_neg (by omega)]⟩
theorem KP_snk {r : Int → Int} {p n b : Int} (h0 : 0 ≤ p) (h1 : p < 6) (hc : pr r p 0 ≤ 6) : KP r (sinkR r p n b) := by
  unfold sinkR
  split
  · exact KP_sk h0 h1 hc
  · exact KP_t (KP_t (KP_sk h0 h1 hc) KP_lg) (KP_lv h0 h1)
theorem KP_snkN {n b : (Int → Int) → Int → Int} {r : Int → Int} (hA : AB r) (hn : ∀ q k, 0 ≤ n q k) : ∀ k : Nat, k ≤ 6 → KP r (snkN n b r k)
  | 0, _ => KP_r
  | k + 1, hk => by
    have ih := KP_snkN (b := b) hA hn k (by omega)
    have a := snkN_AB (b := b) hA hn k (by omega)
    show KP r (if pr (snkN n b r k) k 1 = -1 then snkN n b r k else sinkR (snkN n b r k) k (n (snkN n b r k) k) (b (snkN n b r k) k))
    split
    · exact ih
    · exact KP_t ih (KP_snk (by omega) (by omega) (a.2.2.1 k (by omega) (by omega)).1.2)
theorem KP_snw {g : (Int → Int) → Int → Int} {r : Int → Int} {i : Int} (h : i ≤ 6) : KP r (snwP g r i) := ⟨fun j hj => snwP_o h (by omega), fun p w p0 p1 w0 w1 w2 => snwP_p h p0 w0⟩
theorem KP_blw {r : Int → Int} (h : AB r) : ∀ k : Nat, (k : Int) ≤ r 4 → KP r (blwN r k)
  | 0, _ => KP_r
  | k + 1, hk => by
    have b4 := h.2.1.2.1
    have ih := KP_blw h k (by omega)
    unfold blwN
    split
    · exact ih
    · split
      · exact KP_t ih (KP_put (by omega) (by omega))
      · exact KP_t ih (KP_t KP_lg (KP_lv (by omega) (by omega)))
theorem KP_st1 {ev : LawD → Int → (Int → Int) → Int} {w : Int} {r : Int → Int} (h : AB r) : KP r (st1 ev w r) := by
  have l0 : KP r (st0 w r) := by
    unfold st0
    split
    · exact KP_r
    · exact KP_draw
  have a0 := st0_AB (w := w) h
  have b3 := a0.2.1.1
  have b4 := a0.2.1.2.1
  unfold st1
  split
  · exact KP_t l0 (KP_t (KP_snw b3.2) (KP_snkN (snwP_AB b3.2 (fl_rg a0) a0) (fun _ _ => by decide) _ (by omega)))
  · exact KP_t l0 (KP_t (KP_snw b3.2) (KP_snkN (snwP_AB b3.2 (th_rg a0) a0) (fun _ _ => mlF_0) _ (by omega)))
theorem KP_st2 {w : Int} {q : Int → Int} (a1 : AB q) : KP q (st2 w q) := by
  unfold st2
  split
  · exact KP_r
  · split
    · next e =>
      have d := drawR_AB a1
      have hs : onS (drawR q) ≠ 0 := by rw [onS_draw a1]; exact e.2
      obtain ⟨j, j0, j1, j2⟩ := on_ex d hs
      have bp := bits_pos j0 (by omega) j2
      have o := oneF_ex (s := onS (drawR q)) (k := drawV (drawR q) % bitsM (onS (drawR q)) 31) (Int.emod_nonneg _ (by omega)) (Int.emod_lt_of_pos _ bp)
      have a := on_mem d o.1 o.2.1 o.2.2
      have b9 := d.2.1.2.1
      unfold haresR
      refine KP_t KP_draw (KP_t KP_draw ?_)
      obtain ⟨p, hp⟩ : ∃ p, p = oneF (onS (drawR q)) (drawV (drawR q) % bitsM (onS (drawR q)) 31) := ⟨_, rfl⟩
      rw [← hp] at o a ⊢
      have d2 := drawR_AB d
      have b5 := d2.2.2.2.2.2 p o.1 (by rw [drawR_o (by decide)]; exact a.1)
      have c2 := (d2.2.2.1 p o.1 (by omega)).1
      have m0 : 0 ≤ drawV (drawR (drawR q)) % pr (drawR (drawR q)) p 0 := Int.emod_nonneg _ (by omega)
      have m1 : drawV (drawR (drawR q)) % pr (drawR (drawR q)) p 0 < pr (drawR (drawR q)) p 0 := Int.emod_lt_of_pos _ (by omega)
      unfold hareR
      split
      · exact KP_draw
      · exact KP_t KP_draw (KP_t (KP_put (by omega) (by omega)) KP_lg)
    · exact KP_draw
theorem KP_st3 {w : Int} {q : Int → Int} (a2 : AB q) : KP q (st3 w q) := by
  unfold st3
  split
  · exact KP_r
  · have d := drawR_AB a2
    split
    · exact KP_t KP_draw (KP_blw d _ (by have := d.2.1.2.1; omega))
    · exact KP_draw
theorem KP_pass {ev : LawD → Int → (Int → Int) → Int} {w : Int} {r : Int → Int} (h : AB r) : KP r (passR ev w r) := KP_t (KP_st1 h) (KP_t (KP_st2 (st1_AB h)) (KP_t (KP_st3 (st2_AB (st1_AB h))) (KP_put (by decide) (by decide))))
theorem KP_go {ev : LawD → Int → (Int → Int) → Int} {w : Int} {r : Int → Int} (h : AB r) : ∀ k : Nat, KP r (goN ev w r k)
  | 0 => KP_r
  | k + 1 => KP_t (KP_go h k) (KP_pass (goN_AB h k).1)
/-- all that always holds of a row -/
def RI (r : Int → Int) : Prop := AB r ∧ DS r ∧ GV r ∧ DN r ∧ goodL (lawD r)
theorem RI_k {r q : Int → Int} (h : RI r) (hA : AB q) (hK : KP r q) (hL : LQ r q) : RI q := by
  obtain ⟨a, s, v, n, g⟩ := h
  have b4 := a.2.1.2.1
  have b5 := a.2.1.2.2.1
  have e4 : q 4 = r 4 := hK.1 4 (by omega)
  have e5 : q 5 = r 5 := hK.1 5 (by omega)
  have ed : ∀ k c, 0 ≤ k → k < r 5 → 0 ≤ c → c < 3 → dr q k c = dr r k c := fun k c k0 k1 c0 c1 => hK.1 _ (by omega)
  refine ⟨hA, fun k k0 k1 => ?_, fun p k p0 p1 k0 k1 => ?_, fun k k0 k1 => ?_, by rw [lawD_LQ hL]; exact g⟩
  · rw [e5] at k1
    rw [ed k 2 k0 k1 (by decide) (by decide)]
    exact s k k0 k1
  · rw [e4] at p1
    rw [hK.2 p 0 p0 (by omega) (by decide) (by decide) (by decide), hK.2 p (2 + k) p0 (by omega) (by omega) (by omega) (by omega)]
    exact v p k p0 p1 k0 k1
  · rw [e5] at k1
    rw [ed k 0 k0 k1 (by decide) (by decide), ed k 1 k0 k1 (by decide) (by decide), e4]
    exact n k k0 k1
theorem RI_go {r : Int → Int} {w : Int} (h : RI r) (k : Nat) : RI (goN evL w r k) := RI_k h (goN_AB h.1 k).1 (KP_go h.1 k) (goN_AB h.1 k).2
theorem KP_wrt {r : Int → Int} {p f n i : Int} (h0 : 0 ≤ p) (h1 : p < 6) (i0 : 0 ≤ i) (hi : i ≤ 6) : KP r (wrtP r p f n i) := ⟨fun j hj => wrtP_o h0 h1 hi (by omega), fun q w q0 q1 w0 w1 w2 => by rw [wrtP_p i0 hi w0 (by omega), if_neg (by omega), if_neg (by omega), if_neg (by omega)]⟩
theorem KP_tr {r : Int → Int} {p n i : Int} (h0 : 0 ≤ p) (h1 : p < 6) (hi : i ≤ 6) : KP r (trP r p n i) := ⟨fun j hj => trP_o h0 h1 hi (by omega), fun q w q0 q1 w0 w1 w2 => by rw [trP_p hi w0 (by omega), if_neg (by omega)]⟩
theorem LQ_tr {r : Int → Int} {p n i : Int} (h0 : 0 ≤ p) (h1 : p < 6) (hi : i ≤ 6) : LQ r (trP r p n i) := fun j hj => trP_o h0 h1 hi (by omega)
theorem RI_ln {r : Int → Int} {p o n : Int} (h : RI r) (h5 : r 5 < 8) (hp : 0 ≤ p ∧ p < r 4) (ho : 0 ≤ o ∧ o < r 4) (hn : 1 ≤ n ∧ n ≤ 99) : RI (lendR r p o n) := by
  obtain ⟨a, s, v, dn, g⟩ := h
  have b4 := a.2.1.2.1
  have b5 := a.2.1.2.2.1
  have o4 : ∀ j, j < 151 ∨ 175 ≤ j → j ≠ 5 → lendR r p o n j = r j := fun j hj hj5 => lendR_o b5.1 hj hj5 h5
  have e5 : lendR r p o n 5 = r 5 + 1 := by unfold lendR; rw [if_pos rfl]
  have ed : ∀ k c, 0 ≤ k → k < r 5 → 0 ≤ c → c < 3 → dr (lendR r p o n) k c = dr r k c := fun k c k0 k1 c0 c1 => by
    show lendR r p o n (151 + 3 * k + c) = r (151 + 3 * k + c)
    unfold lendR
    rw [if_neg (by omega), if_neg (by omega), if_neg (by omega), if_neg (by omega)]
  have n0 : dr (lendR r p o n) (r 5) 0 = p := by
    show lendR r p o n (151 + 3 * r 5 + 0) = p
    unfold lendR
    rw [if_neg (by omega), if_pos (by omega)]
  have n1 : dr (lendR r p o n) (r 5) 1 = o := by
    show lendR r p o n (151 + 3 * r 5 + 1) = o
    unfold lendR
    rw [if_neg (by omega), if_neg (by omega), if_pos (by omega)]
  have n2 : dr (lendR r p o n) (r 5) 2 = n := by
    show lendR r p o n (151 + 3 * r 5 + 2) = n
    unfold lendR
    rw [if_neg (by omega), if_neg (by omega), if_neg (by omega), if_pos (by omega)]
  refine ⟨lendR_AB a (by omega) (by omega) (by omega) hn, fun k k0 k1 => ?_, fun q k q0 q1 k0 k1 => ?_, fun k k0 k1 => ?_, by rw [lawD_eq (r := r) (fun j hj => o4 j (by omega) (by omega))]; exact g⟩
  · rw [e5] at k1
    by_cases z : k = r 5
    · rw [z, n2]; exact hn
    · rw [ed k 2 k0 (by omega) (by decide) (by decide)]; exact s k k0 (by omega)
  · rw [o4 4 (by decide) (by decide)] at q1
    rw [show pr (lendR r p o n) q 0 = pr r q 0 from o4 _ (by omega) (by omega), show pr (lendR r p o n) q (2 + k) = pr r q (2 + k) from o4 _ (by omega) (by omega)]
    exact v q k q0 q1 k0 k1
  · rw [e5] at k1
    rw [o4 4 (by decide) (by decide)]
    by_cases z : k = r 5
    · rw [z, n0, n1]; omega
    · rw [ed k 0 k0 (by omega) (by decide) (by decide), ed k 1 k0 (by omega) (by decide) (by decide)]; exact dn k k0 (by omega)
theorem RI_py {r : Int → Int} {k : Int} (h : RI r) (hk : 0 ≤ k ∧ k < r 5) (hA : AB (payP r k (3 * (r 5 - 1)))) : RI (payP r k (3 * (r 5 - 1))) := by
  obtain ⟨a, s, v, dn, g⟩ := h
  have b4 := a.2.1.2.1
  have b5 := a.2.1.2.2.1
  have o4 : ∀ j, j < 151 ∨ 175 ≤ j → j ≠ 5 → payP r k (3 * (r 5 - 1)) j = r j := fun j hj hj5 => by
    unfold payP
    rw [if_neg hj5, if_neg (by omega)]
  have e5 : payP r k (3 * (r 5 - 1)) 5 = r 5 - 1 := by unfold payP; rw [if_pos rfl]
  have ed : ∀ q c, 0 ≤ q → q < r 5 - 1 → 0 ≤ c → c < 3 → ∃ q2, 0 ≤ q2 ∧ q2 < r 5 ∧ ∀ c, 0 ≤ c → c < 3 → dr (payP r k (3 * (r 5 - 1))) q c = dr r q2 c := fun q c q0 q1 c0 c1 => by
    by_cases z : q < k
    · refine ⟨q, q0, by omega, fun c c0 c1 => ?_⟩
      show payP r k (3 * (r 5 - 1)) (151 + 3 * q + c) = r (151 + 3 * q + c)
      unfold payP
      rw [if_neg (by omega), if_neg (by omega)]
    · refine ⟨q + 1, by omega, by omega, fun c c0 c1 => ?_⟩
      show payP r k (3 * (r 5 - 1)) (151 + 3 * q + c) = r (151 + 3 * (q + 1) + c)
      unfold payP
      rw [if_neg (by omega), if_pos (by omega), show 151 + 3 * q + c + 3 = 151 + 3 * (q + 1) + c by omega]
  refine ⟨hA, fun q q0 q1 => ?_, fun q j q0 q1 j0 j1 => ?_, fun q q0 q1 => ?_, by rw [lawD_eq (r := r) (fun j hj => o4 j (by omega) (by omega))]; exact g⟩
  · rw [e5] at q1
    obtain ⟨q2, y0, y1, y2⟩ := ed q 0 q0 q1 (by decide) (by decide)
    rw [y2 2 (by decide) (by decide)]
    exact s q2 y0 y1
  · rw [o4 4 (by decide) (by decide)] at q1
    rw [show pr (payP r k (3 * (r 5 - 1))) q 0 = pr r q 0 from o4 _ (by omega) (by omega), show pr (payP r k (3 * (r 5 - 1))) q (2 + j) = pr r q (2 + j) from o4 _ (by omega) (by omega)]
    exact v q j q0 q1 j0 j1
  · rw [e5] at q1
    obtain ⟨q2, y0, y1, y2⟩ := ed q 0 q0 q1 (by decide) (by decide)
    rw [y2 0 (by decide) (by decide), y2 1 (by decide) (by decide), o4 4 (by decide) (by decide)]
    exact dn q2 y0 y1
theorem fld_AB {r : Int → Int} {f k v : Int} (h : AB r) (hf : 0 ≤ f ∧ f < 6) (hk : (k = 0 ∧ 0 ≤ v ∧ v ≤ 9) ∨ (k = 1 ∧ 0 ≤ v ∧ v ≤ 99)) : AB (putR r (13 + 3 * f + k) v) := by
  obtain ⟨b0, b1, b2, b3, b4, b5⟩ := h
  have e : ∀ j, j < 13 ∨ 31 ≤ j → putR r (13 + 3 * f + k) v j = r j := fun j hj => if_neg (by omega)
  refine ⟨fun j hj => ?_, ?_, ?_, ?_, ?_, ?_⟩
  · unfold putR
    split
    · omega
    · exact b0 j hj
  · unfold B1 at *
    simp only [e 3 (by decide), e 4 (by decide), e 5 (by decide), e 0 (by decide), e 1 (by decide), e 8 (by decide), e 11 (by decide), e 6 (by decide), e 7 (by decide), e 9 (by decide), e 10 (by decide), e 12 (by decide)]
    exact b1
  · intro p h0 h1
    have g := b2 p h0 h1
    have w : ∀ k2, 0 ≤ k2 → k2 < 20 → pr (putR r (13 + 3 * f + k) v) p k2 = pr r p k2 := fun k2 k0 k1 => e _ (by omega)
    refine ⟨by rw [w 0 (by decide) (by decide)]; exact g.1, by rw [w 1 (by decide) (by decide)]; exact g.2.1, fun k2 k0 k1 => ?_⟩
    rw [w _ (by omega) (by omega), w _ (by omega) (by omega)]
    exact g.2.2 k2 k0 k1
  · intro f2 h0 h1
    have g := b3 f2 h0 h1
    have w : ∀ c, 0 ≤ c → c < 3 → fr (putR r (13 + 3 * f + k) v) f2 c = if f2 = f ∧ c = k then v else fr r f2 c := fun c c0 c1 => by
      show (if 13 + 3 * f2 + c = 13 + 3 * f + k then v else r (13 + 3 * f2 + c)) = _
      by_cases z : f2 = f ∧ c = k
      · rw [if_pos z, if_pos (by omega)]
      · rw [if_neg z, if_neg (by omega)]; rfl
    rw [w 0 (by decide) (by decide), w 1 (by decide) (by decide), w 2 (by decide) (by decide)]
    refine ⟨?_, ?_, ?_⟩
    · split
      · omega
      · exact g.1
    · split
      · omega
      · exact g.2.1
    · rw [if_neg (by omega)]; exact g.2.2
  · intro k2 h0 h1
    rw [e 5 (by decide)] at h1
    have g := b4 k2 h0 h1
    have w : ∀ c, 0 ≤ c → c < 3 → dr (putR r (13 + 3 * f + k) v) k2 c = dr r k2 c := fun c c0 c1 => e _ (by omega)
    rw [w 0 (by decide) (by decide), w 1 (by decide) (by decide)]
    exact g
  · intro p h0 h1
    rw [e 4 (by decide)] at h1
    have g := b5 p h0 h1
    have w : ∀ c, 0 ≤ c → c < 20 → pr (putR r (13 + 3 * f + k) v) p c = pr r p c := fun c c0 c1 => e _ (by omega)
    rw [w 0 (by decide) (by decide), w 1 (by decide) (by decide), e 3 (by decide)]
    exact g
theorem RW_fl {S : Nat → Int → Int} {w : Nat} {r : Int → Int} {f v : Int} {c : Nat} (hR : RW S w r) (hc : c = 0 ∨ c = 1) (hf : 0 ≤ f ∧ f < 6) : RW (upS S (w + 1 + c) f v) w (putR r (13 + 3 * f + c) v) := by
  obtain ⟨⟨c0, c1, c2, c3⟩, cf, cp, cd, cl, cs⟩ := hR
  have o : ∀ k : Nat, k ≠ 1 + c → upS S (w + 1 + c) f v (w + k) = S (w + k) := fun k hk => if_neg (by omega)
  have oz : upS S (w + 1 + c) f v w = S w := if_neg (by omega)
  have e : ∀ j, j < 13 ∨ 31 ≤ j → putR r (13 + 3 * f + c) v j = r j := fun j hj => if_neg (by omega)
  have b11 : True := trivial
  refine ⟨⟨by rw [oz, e 3 (by decide)]; exact c0, by rw [oz, e 4 (by decide)]; exact c1, by rw [oz, e 12 (by decide)]; exact c2, by rw [oz, e 0 (by decide)]; exact c3⟩, ?_, ?_, ?_, ?_, ?_⟩
  · intro f2 h0 h1
    rw [e 3 (by decide)] at h1
    have g := cf f2 h0 h1
    have w3 : ∀ k, 0 ≤ k → k < 3 → fr (putR r (13 + 3 * f + c) v) f2 k = if f2 = f ∧ k = c then v else fr r f2 k := fun k k0 k1 => by
      show (if 13 + 3 * f2 + k = 13 + 3 * f + c then v else r (13 + 3 * f2 + k)) = _
      by_cases z : f2 = f ∧ k = c
      · rw [if_pos z, if_pos (by omega)]
      · rw [if_neg z, if_neg (by omega)]; rfl
    rw [w3 0 (by decide) (by decide), w3 1 (by decide) (by decide), w3 2 (by decide) (by decide)]
    refine ⟨?_, ?_, ?_⟩
    · rw [upS_at]
      by_cases z : f2 = f ∧ (0 : Int) = c
      · rw [if_pos z, if_pos ⟨by omega, z.1⟩]
      · rw [if_neg z, if_neg (fun y => z ⟨y.2, by omega⟩)]; exact g.1
    · rw [upS_at]
      by_cases z : f2 = f ∧ (1 : Int) = c
      · rw [if_pos z, if_pos ⟨by omega, z.1⟩]
      · rw [if_neg z, if_neg (fun y => z ⟨y.2, by omega⟩)]; exact g.2.1
    · rw [o 3 (by omega), if_neg (by omega)]; exact g.2.2
  · intro p p0 p1
    rw [e 4 (by decide)] at p1
    have w3 : ∀ k, 0 ≤ k → pr (putR r (13 + 3 * f + c) v) p k = pr r p k := fun k k0 => e _ (by omega)
    have g := cp p p0 p1
    rw [o 4 (by omega), o 5 (by omega), o 6 (by omega), o 7 (by omega), o 8 (by omega), w3 0 (by decide), w3 1 (by decide)]
    refine ⟨g.1, g.2.1, fun k k0 k1 => ?_, fun h k k0 k1 => ?_⟩
    · rw [w3 (2 + k) (by omega)]; exact g.2.2.1 k k0 k1
    · rw [w3 (8 + k) (by omega), w3 (14 + k) (by omega)]; exact g.2.2.2 h k k0 k1
  · unfold RWd at *
    rw [o 9 (by omega), o 10 (by omega), o 11 (by omega), o 12 (by omega), e 5 (by decide)]
    refine ⟨cd.1, fun k k0 k1 => ?_⟩
    have w3 : ∀ q, 0 ≤ q → dr (putR r (13 + 3 * f + c) v) k q = dr r k q := fun q q0 => e _ (by omega)
    rw [w3 0 (by decide), w3 1 (by decide), w3 2 (by decide)]
    exact cd.2 k k0 k1
  · unfold RWl at *
    rw [o 13 (by omega), o 14 (by omega), e 11 (by decide)]
    refine ⟨cl.1, fun k x k0 k1 x0 x1 => ?_⟩
    rw [show gr (putR r (13 + 3 * f + c) v) k x = gr r k x from e _ (by omega)]
    exact cl.2 k x k0 k1 x0 x1
  · intro j j0 j1
    rw [o 15 (by omega), e _ (by omega)]
    exact cs j j0 j1
theorem lv_lg {r : Int → Int} {p w f : Int} (h0 : 0 ≤ p) (h1 : p < 6) : logsR (leavesR r p) p w f = leavesR (logsR r p w f) p := by
  funext j
  by_cases z : j < 31 ∨ 151 ≤ j
  · rw [leavesR_o h0 h1 z]
    unfold logsR
    have e : ∀ i, i < 31 ∨ 151 ≤ i → leavesR r p i = r i := fun i hi => leavesR_o h0 h1 hi
    rw [e 11 (by decide), e 10 (by decide)]
    by_cases y : 179 ≤ j ∧ j < 415
    · rw [if_pos y, if_pos y, e (j - 4) (by omega)]
    · rw [if_neg y, if_neg y, e j z]
  · have e1 : logsR (leavesR r p) p w f j = leavesR r p j := logsR_o (by omega) (by omega)
    rw [e1]
    unfold leavesR
    rw [show logsR r p w f j = r j from logsR_o (by omega) (by omega)]
theorem REM_o {S T : Nat → Int → Int} (h : REM S T) (h8 : 0 ≤ S 0 8 ∧ S 0 8 < 12) (h9 : 0 ≤ S 0 9 ∧ S 0 9 ≤ 12) {a : Nat} (a0 : a ≠ 0) (a1 : a < 96 ∨ 300 ≤ a) : T a = S a := by
  obtain ⟨w, o, c, h1, h2, h3, _⟩ := h
  exact h3 a a0 (by omega)
