/-! ===== THE REFERENCE: span, longestOf ===== -/
/-- how many are whole behind n days by draws of a seed -/
noncomputable def whN (ev : LawD → Int → (Int → Int) → Int) (r : Int → Int) (n s : Int) : Int := bitsM (setZ (goN ev 1 (putR r 12 s) n.toNat 4) (fun p => wholeM (pr (goN ev 1 (putR r 12 s) n.toNat)) p (pr (goN ev 1 (putR r 12 s) n.toNat) p 0))) 31
noncomputable def spN (c : Int → Int) (w : Int) : Nat → Int
  | 0 => -1
  | j + 1 => if spN c w j = -1 then c (j + 1) else if w = 0 then (if spN c w j < c (j + 1) then spN c w j else c (j + 1)) else (if c (j + 1) < spN c w j then spN c w j else c (j + 1))
theorem seed_AB {r : Int → Int} {s : Int} (h : AB r) : AB (putR r 12 s) := by
  have e : ∀ j, j ≠ 12 → putR r 12 s j = r j := fun j hj => by unfold putR; rw [if_neg hj]
  obtain ⟨b0, b1, b2, b3, b4, b5⟩ := h
  have b3' := b1.2.1
  refine ⟨fun j hj => by rw [e j hj]; exact b0 j hj, ?_, fun q q0 q1 => ?_, fun q q0 q1 => ?_, fun k k0 k1 => ?_, fun q q0 q1 => ?_⟩
  · unfold B1 at b1 ⊢
    rw [e 3 (by decide), e 4 (by decide), e 5 (by decide), e 0 (by decide), e 1 (by decide), e 8 (by decide), e 11 (by decide), e 6 (by decide), e 10 (by decide)]
    exact b1
  · have := b2 q q0 q1
    have w : ∀ v, 0 ≤ v → pr (putR r 12 s) q v = pr r q v := fun v v0 => e _ (by omega)
    rw [w 0 (by decide), w 1 (by decide)]
    exact ⟨this.1, this.2.1, fun k k0 k1 => by rw [w _ (by omega), w _ (by omega)]; exact this.2.2 k k0 k1⟩
  · have w : ∀ v, 0 ≤ v → fr (putR r 12 s) q v = fr r q v := fun v v0 => e _ (by omega)
    rw [w 0 (by decide), w 1 (by decide), w 2 (by decide)]
    exact b3 q q0 q1
  · rw [e 5 (by decide)] at k1
    have w : ∀ v, 0 ≤ v → dr (putR r 12 s) k v = dr r k v := fun v v0 => e _ (by omega)
    rw [w 0 (by decide), w 1 (by decide)]
    exact b4 k k0 k1
  · rw [e 4 (by decide)] at q1
    have w : ∀ v, 0 ≤ v → pr (putR r 12 s) q v = pr r q v := fun v v0 => e _ (by omega)
    rw [w 0 (by decide), w 1 (by decide), e 3 (by decide)]
    exact b5 q q0 q1
