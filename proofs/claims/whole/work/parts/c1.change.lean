/-! ===== BOTH SIDES TOGETHER: what changes ===== -/
theorem memI_w {r : Int → Int} {S T : Nat → Int → Int} (h : memI r S) (hq : ∀ a, a = 2 ∨ (96 ≤ a ∧ a < 300) ∨ a = 301 ∨ a = 304 → T a = S a) (e8 : T 0 8 = S 0 8) (h6 : T 300 6 = S 300 6) : memI r T := by
  have ek : ∀ k, rkR T k = rkR S k := fun k => by
    funext j
    unfold rkR
    rw [hq 304 (by omega), hq 301 (by omega)]
  intro k k0 k1
  rw [h6] at k1
  obtain ⟨a, b, c, e⟩ := h k k0 k1
  have sr := slW_rg (o := S 0 8) (k := k)
  rw [ek, e8]
  exact ⟨a, b, RW_c c (fun x x0 x1 => hq x (by omega)), by rw [hq _ (by omega), hq 2 (by omega)]; exact e⟩
theorem imgI_w {S T : Nat → Int → Int} {m m1 : AM} (h : imgI S m) (hq : ∀ a, a = 302 ∨ (36 ≤ a ∧ a < 52) → T a = S a) (h3 : T 300 3 = S 300 3) (hL : LM m m1) : imgI T m1 := by
  intro z
  rw [h3] at z
  obtain ⟨a, b, c⟩ := h z
  rw [hq 302 (by omega)]
  exact ⟨a, RW_c b (fun x x0 x1 => hq x (by omega)), by rw [hq 36 (by omega)]; exact LWo_M hL c⟩
/-- another row, the image as it was -/
theorem TOP_mk {r q : Int → Int} {S T : Nat → Int → Int} {m m1 : AM} (h : TOP r S m) (hq : RI q) (ho : OUT q) (c1 : T 301 = q) (hR : RW T 2 q) (hl : LWo m1 (T 2 15) (lawD q)) (tp : T 0 1 = T 300 8 ∧ (0 ≤ T 300 8 ∧ T 300 8 ≤ 400) ∧ T 1 = T 305 ∧ TB T) (c2 : T 0 2 = T 300 12) (im : T 0 6 = S 0 6 ∧ T 300 3 = S 300 3 ∧ ∀ a, a = 302 ∨ (36 ≤ a ∧ a < 52) → T a = S a) (me : T 0 9 = T 300 6 ∧ (0 ≤ T 300 6 ∧ T 300 6 ≤ 12) ∧ (0 ≤ T 0 8 ∧ T 0 8 < 12) ∧ memI q T) (c3 : T 312 = S 312) (hL : LM m m1) : TOP q T m1 := by
  obtain ⟨-, -, -, ⟨d1, d2, d3, d4, d5⟩, -, f1, f2⟩ := h
  exact ⟨⟨c1, hq, hR, hl⟩, tp, c2, ⟨by rw [im.1, im.2.1]; exact d1, by rw [im.2.1]; exact d2, imgI_w d3 im.2.2 im.2.1 hL, ho, by rw [im.2.2 302 (Or.inl rfl)]; exact d5⟩, me, GR_q f1 c3, Nat.le_trans f2 hL.2⟩
/-- the same row, another tape -/
theorem TOP_tp {r : Int → Int} {S T : Nat → Int → Int} {m m1 : AM} (h : TOP r S m) (hq : ∀ a, CL a → a ≠ 0 → a ≠ 1 → a ≠ 305 → T a = S a) (h0 : ∀ j, j = 6 ∨ j = 8 ∨ j = 9 → T 0 j = S 0 j) (h3 : ∀ j, j = 3 ∨ j = 6 → T 300 j = S 300 j) (tp : T 0 1 = T 300 8 ∧ (0 ≤ T 300 8 ∧ T 300 8 ≤ 400) ∧ T 1 = T 305 ∧ TB T) (c2 : T 0 2 = T 300 12) (hL : LM m m1) : TOP r T m1 := by
  obtain ⟨⟨a1, a2, a3, a4⟩, -, -, ⟨d1, d2, d3, d4, d5⟩, ⟨e1, e2, e3, e4⟩, f1, f2⟩ := id h
  have e6 := h3 6 (by omega)
  have q : ∀ a, (2 ≤ a ∧ a < 18) ∨ (36 ≤ a ∧ a < 52) ∨ (96 ≤ a ∧ a < 300) ∨ a = 301 ∨ a = 302 ∨ a = 304 ∨ a = 312 → T a = S a := fun a ha => hq a (by unfold CL; omega) (by omega) (by omega) (by omega)
  refine TOP_mk h a2 d4 ((q 301 (by omega)).trans a1) (RW_c a3 (fun x x0 x1 => q x (by omega))) (by rw [q 2 (by omega)]; exact LWo_M hL a4) tp c2 ⟨h0 6 (by omega), h3 3 (by omega), fun a ha => q a (by omega)⟩ ⟨by rw [h0 9 (by omega), e6]; exact e1, by rw [e6]; exact e2, by rw [h0 8 (by omega)]; exact e3, memI_w e4 (fun a ha => q a (by omega)) (h0 8 (by omega)) e6⟩ (q 312 (by omega)) hL
theorem rkR_row {S T : Nat → Int → Int} {k k2 : Int} {q : Int → Int} (h1 : T 301 = q) (h2 : ∀ j, 0 ≤ j → j < 415 → T 304 (415 * k + j) = S 304 (415 * k2 + j)) (hq : LQ (S 301) q) : rkR T k = rkR S k2 := by
  funext j
  unfold rkR
  by_cases z : 0 ≤ j ∧ j < 415
  · rw [if_pos z, if_pos z]; exact h2 j z.1 z.2
  · rw [if_neg z, if_neg z, h1]; exact hq j (by omega)
theorem LQ_s {r q : Int → Int} (h : LQ r q) : LQ q r := fun j hj => (h j hj).symm
theorem OUT_L {r q : Int → Int} (h : OUT r) (g : LQ r q) : OUT q := fun j hj => (g j (by omega)).trans (h j hj)
theorem slW_ne {o k c : Int} (h : k < c) (h2 : c < k + 12) : slW o k + 17 ≤ slW o c ∨ slW o c + 17 ≤ slW o k := by
  unfold slW
  omega
/-- an act: all is remembered, then the row is another one -/
theorem TOP_act {r q : Int → Int} {S T T1 S2 U : Nat → Int → Int} {m m1 : AM} (h : TOP r S m) (g1 : REM S T1) (g2 : RW T 2 q) (g3 : EW T1 T 2) (g4 : T 2 15 = S 2 15) (hL : LM m m1) (hq : RI q) (hlq : LQ r q) (s2 : ∀ a, a ≠ 316 → S2 a = T a) (x : SR (sR (rmS (upS S2 300 0 0)) q) U) : EN q S2 U m1 0 := by
  obtain ⟨⟨a1, a2, a3, a4⟩, ⟨b1, b2, b3, b4⟩, cc, ⟨d1, d2, d3, d4, d5⟩, ⟨e1, e2, e3, e4⟩, f1, f2⟩ := id h
  have oT := fun (a : Nat) (a0 : a ≠ 0) (a1 : a < 96 ∨ 300 ≤ a) => REM_o g1 e3 (by omega) a0 a1
  obtain ⟨w, o, c, y1, y2, y3, ⟨y4, y5, y6⟩, y7, y8⟩ := g1
  -- cells
  have k0 : ∀ a, a ≠ 0 → (a < 2 ∨ 300 ≤ a ∨ (36 ≤ a ∧ a < 52)) → a ≠ 316 → S2 a = S a := fun a a0 a1 a2 => (s2 a a2).trans ((g3 a (by omega)).trans (oT a a0 (by omega)))
  have s300 : S2 300 = S 300 := k0 300 (by decide) (by decide) (by decide)
  have s301 : S2 301 = S 301 := k0 301 (by decide) (by decide) (by decide)
  have s304 : S2 304 = S 304 := k0 304 (by decide) (by decide) (by decide)
  have u0 : ∀ a, a ≠ 300 → a ≠ 301 → a ≠ 304 → (a < 306 ∨ 311 < a) → U a = S2 a := fun a a0 a1 a2 a3 => (x.1 a a0 a3).trans (by
    show (if a = 301 then q else (if a = 304 then _ else if a = 300 then _ else upS S2 300 0 0 a)) = S2 a
    rw [if_neg a1, if_neg a2, if_neg a0]; exact up_lit a0)
  have u301 : U 301 = q := x.1 301 (by decide) (by decide)
  have rA : rmA (upS S2 300 0 0) = if S 300 6 = 12 then 11 else S 300 6 := by
    unfold rmA
    rw [show upS S2 300 0 0 300 6 = S 300 6 from by rw [upS_at, if_neg (by decide), s300]]
  have u300 : ∀ j, j = 3 ∨ j = 8 ∨ j = 12 → U 300 j = S 300 j := fun j hj => (x.2 j (by omega)).trans (by
    show (if j = 6 then _ else upS S2 300 0 0 300 j) = S 300 j
    rw [if_neg (by omega), upS_at, if_neg (by omega), s300])
  have u00 : U 300 0 = 0 := (x.2 0 (by omega)).trans (by
    show (if (0 : Int) = 6 then rmA (upS S2 300 0 0) + 1 else upS S2 300 0 0 300 0) = 0
    rw [if_neg (by decide), upS_at, if_pos ⟨rfl, rfl⟩])
  have u6 : U 300 6 = c + 1 := (x.2 6 (by omega)).trans (by
    show (if (6 : Int) = 6 then rmA (upS S2 300 0 0) + 1 else upS S2 300 0 0 300 6) = c + 1
    rw [if_pos rfl, rA]
    split <;> omega)
  have rAc : rmA (upS S2 300 0 0) = c := by rw [rA]; split <;> omega
  have u304 : ∀ j, U 304 j = if 415 * c ≤ j ∧ j < 415 * c + 415 then S 301 (j - 415 * c) else if S 300 6 = 12 ∧ 0 ≤ j ∧ j < 4565 then S 304 (j + 415) else S 304 j := fun j => by
    rw [x.1 304 (by decide) (by decide)]
    show (if 415 * rmA (upS S2 300 0 0) ≤ j ∧ j < 415 * rmA (upS S2 300 0 0) + 415 then upS S2 300 0 0 301 (j - 415 * rmA (upS S2 300 0 0)) else if upS S2 300 0 0 300 6 = 12 ∧ 0 ≤ j ∧ j < 4565 then upS S2 300 0 0 304 (j + 415) else upS S2 300 0 0 304 j) = _
    rw [rAc, show upS S2 300 0 0 301 = S 301 from (up_lit (by decide)).trans s301, show upS S2 300 0 0 304 = S 304 from (up_lit (by decide)).trans s304, show upS S2 300 0 0 300 6 = S 300 6 from by rw [upS_at, if_neg (by decide), s300]]
  have c9 : 0 ≤ c ∧ c < 12 := by omega
  have o9 : 0 ≤ o ∧ o < 12 := by omega
  have z0 : ∀ j, j ≠ 8 → j ≠ 9 → U 0 j = S 0 j := fun j j8 j9 => by
    rw [u0 0 (by decide) (by decide) (by decide) (by decide), s2 0 (by decide), g3 0 (by decide)]
    exact y6 j j8 j9
  have z8 : U 0 8 = o := by rw [u0 0 (by decide) (by decide) (by decide) (by decide), s2 0 (by decide), g3 0 (by decide)]; exact y4
  have z9 : U 0 9 = c + 1 := by rw [u0 0 (by decide) (by decide) (by decide) (by decide), s2 0 (by decide), g3 0 (by decide)]; exact y5
  have uT : ∀ a, 2 ≤ a → a < 300 → U a = T a := fun a a0 a1 => (u0 a (by omega) (by omega) (by omega) (by omega)).trans (s2 a (by omega))
  have u15 : U 2 15 = S 2 15 := by rw [uT 2 (by decide) (by decide)]; exact g4
  refine ⟨TOP_mk h hq (OUT_L d4 hlq) u301 (RW_c g2 (fun a a0 a1 => uT a (by omega) (by omega))) (by rw [u15, lawD_LQ hlq]; exact LWo_M hL a4) ⟨?_, ?_, ?_, ?_⟩ ?_ ⟨z0 6 (by decide) (by decide), u300 3 (by omega), fun a ha => ?_⟩ ⟨by rw [z9, u6], by rw [u6]; omega, by rw [z8]; exact o9, ?_⟩ ?_ hL, u0 316 (by decide) (by decide) (by decide) (by decide), u00⟩
  · rw [z0 1 (by decide) (by decide), u300 8 (by omega)]; exact b1
  · rw [u300 8 (by omega)]; exact b2
  · rw [u0 1 (by decide) (by decide) (by decide) (by decide), u0 305 (by decide) (by decide) (by decide) (by decide), k0 1 (by decide) (by decide) (by decide), k0 305 (by decide) (by decide) (by decide)]; exact b3
  · intro j j0 j1
    rw [u0 305 (by decide) (by decide) (by decide) (by decide), k0 305 (by decide) (by decide) (by decide)]; exact b4 j j0 j1
  · rw [z0 2 (by decide) (by decide), u300 12 (by omega)]; exact cc
  · rw [u0 a (by omega) (by omega) (by omega) (by omega)]; exact k0 a (by omega) (by omega) (by omega)
  · -- what is remembered
    intro k kk0 kk1
    rw [u6] at kk1
    have hlq2 : LQ (S 301) q := by rw [a1]; exact hlq
    have sw := slW_rg (o := o) (k := k)
    have sc := slW_rg (o := o) (k := c)
    have wE : w = slW o c := y2
    rw [z8, u15]
    by_cases zc : k = c
    · have er : rkR U k = r := by
        funext j
        unfold rkR
        by_cases z : 0 ≤ j ∧ j < 415
        · rw [if_pos z, u304, if_pos (by omega), show 415 * k + j - 415 * c = j by rw [zc]; omega, a1]
        · rw [if_neg z, u301]; exact hlq j (by omega)
      rw [er]
      refine ⟨a2, LQ_s hlq, ?_, ?_⟩
      · rw [zc]
        refine RW_c (wE ▸ y7 r a2.1 a3) (fun a a0 a1 => ?_)
        rw [uT a (by omega) (by omega)]
        exact g3 a (by omega)
      · rw [zc, uT _ (by omega) (by omega), g3 _ (by omega), ← wE]; exact y8
    · have sn := slW_ne (o := o) (k := k) (c := c) (by omega) (by omega)
      have cell : ∀ a, slW o k ≤ a → a < slW o k + 16 → U a = S a := fun a a0 a1 => by
        rw [uT a (by omega) (by omega), g3 a (by omega)]
        exact y3 a (by omega) (by omega)
      rcases y1 with ⟨v1, v2, v3⟩ | ⟨v1, v2, v3⟩
      · have er : rkR U k = rkR S k := rkR_row u301 (fun j j0 j1 => by rw [u304, if_neg (by omega), if_neg (by omega)]) hlq2
        obtain ⟨p1, p2, p3, p4⟩ := e4 k kk0 (by omega)
        rw [er]
        rw [← v2] at p3 p4
        exact ⟨p1, LQ_t (LQ_s hlq) p2, RW_c p3 cell, by rw [cell _ (by omega) (by omega)]; exact p4⟩
      · have er : rkR U k = rkR S (k + 1) := rkR_row u301 (fun j j0 j1 => by rw [u304, if_neg (by omega), if_pos (by omega)]; congr 1; omega) hlq2
        obtain ⟨p1, p2, p3, p4⟩ := e4 (k + 1) (by omega) (by omega)
        have es : slW (S 0 8) (k + 1) = slW o k := by unfold slW; omega
        rw [er]
        rw [es] at p3 p4
        exact ⟨p1, LQ_t (LQ_s hlq) p2, RW_c p3 cell, by rw [cell _ (by omega) (by omega)]; exact p4⟩
  · rw [u0 312 (by decide) (by decide) (by decide) (by decide)]; exact k0 312 (by decide) (by decide) (by decide)
theorem SR_rf {S : Nat → Int → Int} : SR S S := ⟨fun _ _ _ => rfl, fun _ _ => rfl⟩
