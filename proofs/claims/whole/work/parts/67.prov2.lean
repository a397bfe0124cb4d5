/-! ===== THE REFERENCE: the province ===== -/
theorem wdL {t : Int → Int} {n b : Int} {w : List Int} (hb : b ≤ 1000) (hn : n ≤ 400) (y : wdP t n b w) : b + w.length ≤ 1000 := by
  have z1 := y.1
  have z2 := ltE_rg (t := t) (n := n) (a := b)
  omega
theorem q_223b {tb : Tab} {d : Nat} {m : AM} {K : Out → AM → Prop} {S : Nat → Int → Int} {b f : Int} {t : Int → Int} {n : Int} {k : Nat} (hX : tb.2.1 = strB) (hk : k < 39) (hT : TX t n S) (hb : skp t n b = b) (hb2 : 0 ≤ b ∧ b ≤ 1000) (hN : ¬ wdP t n b (strB k) → K (.inl (some (vi 0))) (X (tS S b f) m)) (hY : wdP t n b (strB k) → K (.inl (some (vi 1))) (X (tS S (b + (strB k).length) f) m)) : Runs tb pg (d + 5) 223 [vr 300, vx (2 * k + 2)] (X (tS S b f) m) K := by
  refine q_223 hX hk hT hb2 (fun c e1 e2 => ?_) (fun c e e1 e2 e3 => ?_)
  · rw [hb] at e1; subst e1; exact hN e2
  · rw [hb] at e1; subst e1 e3; exact hY e2
theorem rdN_s {α : Type} {line : α → Int → PR α} {t : Int → Int} {n a i : Int} {r : α} (h : i < 14) : rdN line t n (14 - i).toNat r a = bnd (line r (skp t n a)) fun q e => if skp t n e = n then .inr (q, skp t n e) else if t (skp t n e) = 59 then rdN line t n (14 - (i + 1)).toNat q (skp t n e + 1) else .inl (skp t n e) := by
  rw [show (14 - i).toNat = (14 - (i + 1)).toNat + 1 by omega]
  rfl
section rd
variable {α : Type} {line : α → Int → PR α} {t : Int → Int} {n a i b e : Int} {r q : α} {p : PR α}
theorem rdN_f (h : i < 14) (z : line r (skp t n a) = .inl b) (y : rdN line t n (14 - i).toNat r a = p) : p = .inl b := by rw [← y, rdN_s h, z]; rfl
theorem rdN_e (h : i < 14) (z : line r (skp t n a) = .inr (q, e)) (y : rdN line t n (14 - i).toNat r a = p) (g : skp t n e = n) : p = .inr (q, skp t n e) := by
  rw [← y, rdN_s h, z]; exact if_pos g
theorem rdN_c (h : i < 14) (z : line r (skp t n a) = .inr (q, e)) (y : rdN line t n (14 - i).toNat r a = p) (g : skp t n e ≠ n) (g2 : t (skp t n e) = 59) : rdN line t n (14 - (i + 1)).toNat q (skp t n e + 1) = p := by
  rw [← y, rdN_s h, z]; exact ((if_neg g).trans (if_pos g2)).symm
theorem rdN_w (h : i < 14) (z : line r (skp t n a) = .inr (q, e)) (y : rdN line t n (14 - i).toNat r a = p) (g : skp t n e ≠ n) (g2 : t (skp t n e) ≠ 59) : p = .inl (skp t n e) := by
  rw [← y, rdN_s h, z]; exact (if_neg g).trans (if_neg g2)
end rd
/-- a text begins -/
def bgS (S : Nat → Int → Int) : Nat → Int → Int := upS (upS (upS (upS S 300 9 (-1)) 300 10 (S 300 8)) 300 8 0) 300 13 0
theorem AB_put {r : Int → Int} {w v : Int} (h : AB r) (hw : 6 ≤ w ∧ w ≤ 10) (hv : (w = 6 → 1 ≤ v ∧ v ≤ 9) ∧ (7 ≤ w → w ≤ 9 → 0 ≤ v ∧ v ≤ 100) ∧ (w = 10 → 0 ≤ v ∧ v ≤ 999)) : AB (putR r w v) := by
  obtain ⟨b0, b1, b2, b3, b4, b5⟩ := h
  have e : ∀ j, j ≠ w → putR r w v j = r j := fun j hj => if_neg hj
  have ew : putR r w v w = v := if_pos rfl
  refine ⟨fun j hj => ?_, ?_, fun q q0 q1 => ?_, fun q q0 q1 => ?_, fun k k0 k1 => ?_, fun q q0 q1 => ?_⟩
  · by_cases z : j = w
    · subst z; rw [ew]; omega
    · rw [e j z]; exact b0 j hj
  · unfold B1 at b1 ⊢
    rw [e 3 (by omega), e 4 (by omega), e 5 (by omega), e 0 (by omega), e 1 (by omega), e 11 (by omega)]
    have h8 : 0 ≤ putR r w v 8 ∧ putR r w v 8 ≤ 100 := by
      by_cases z : 8 = w
      · rw [z, ew]; omega
      · rw [e 8 z]; omega
    have h6 : 0 ≤ putR r w v 6 ∧ putR r w v 6 ≤ 9 := by
      by_cases z : 6 = w
      · rw [z, ew]; omega
      · rw [e 6 z]; omega
    have h10 : 0 ≤ putR r w v 10 ∧ putR r w v 10 ≤ 9999 := by
      by_cases z : 10 = w
      · rw [z, ew]; omega
      · rw [e 10 z]; omega
    exact ⟨b1.1, b1.2.1, b1.2.2.1, b1.2.2.2.1, b1.2.2.2.2.1, h8, b1.2.2.2.2.2.2.1, h6, h10⟩
  · have := b2 q q0 q1
    have w9 : ∀ v9, 0 ≤ v9 → pr (putR r w v) q v9 = pr r q v9 := fun v9 v0 => e _ (by omega)
    rw [w9 0 (by decide), w9 1 (by decide)]
    exact ⟨this.1, this.2.1, fun k k0 k1 => by rw [w9 _ (by omega), w9 _ (by omega)]; exact this.2.2 k k0 k1⟩
  · have w9 : ∀ v9, 0 ≤ v9 → fr (putR r w v) q v9 = fr r q v9 := fun v9 v0 => e _ (by omega)
    rw [w9 0 (by decide), w9 1 (by decide), w9 2 (by decide)]
    exact b3 q q0 q1
  · rw [e 5 (by omega)] at k1
    have w9 : ∀ v9, 0 ≤ v9 → dr (putR r w v) k v9 = dr r k v9 := fun v9 v0 => e _ (by omega)
    rw [w9 0 (by decide), w9 1 (by decide)]
    exact b4 k k0 k1
  · rw [e 4 (by omega)] at q1
    have w9 : ∀ v9, 0 ≤ v9 → pr (putR r w v) q v9 = pr r q v9 := fun v9 v0 => e _ (by omega)
    rw [w9 0 (by decide), w9 1 (by decide), e 3 (by omega)]
    exact b5 q q0 q1
theorem lendR_e {r : Int → Int} {p o n j : Int} : lendR r p o n j = if j = 5 then r 5 + 1 else if j = 151 + 3 * r 5 then p else if j = 151 + 3 * r 5 + 1 then o else if j = 151 + 3 * r 5 + 2 then n else r j := rfl
theorem lendR_o {r : Int → Int} {p o n j : Int} (h5 : 0 ≤ r 5) (hj : j < 151 ∨ 175 ≤ j) (hj5 : j ≠ 5) (h8 : r 5 < 8) : lendR r p o n j = r j := by
  rw [lendR_e, if_neg hj5, if_neg (by omega), if_neg (by omega), if_neg (by omega)]
theorem lendR_AB {r : Int → Int} {p o n : Int} (h : AB r) (h5 : r 5 ≠ 8) (hp : 0 ≤ p ∧ p < 6) (ho : 0 ≤ o ∧ o < 6) (hn : 1 ≤ n ∧ n ≤ 99) : AB (lendR r p o n) := by
  obtain ⟨b0, b1, b2, b3, b4, b5⟩ := h
  have q5 := b1.2.2.1
  have q4 := b1.2.1
  have e : ∀ j, j < 151 ∨ 175 ≤ j → j ≠ 5 → lendR r p o n j = r j := fun j h1 h2 => lendR_o q5.1 h1 h2 (by omega)
  have e5 : lendR r p o n 5 = r 5 + 1 := rfl
  refine ⟨fun j hj => ?_, ?_, fun q q0 q1 => ?_, fun q q0 q1 => ?_, fun k k0 k1 => ?_, fun q q0 q1 => ?_⟩
  · rw [lendR_e]
    have := b0 j hj
    split
    · omega
    · split
      · omega
      · split
        · omega
        · split <;> omega
  · unfold B1 at b1 ⊢
    rw [e5, e 3 (by omega) (by omega), e 4 (by omega) (by omega), e 0 (by omega) (by omega), e 1 (by omega) (by omega), e 8 (by omega) (by omega), e 11 (by omega) (by omega), e 6 (by omega) (by omega), e 10 (by omega) (by omega)]
    exact ⟨b1.1, b1.2.1, by omega, b1.2.2.2⟩
  · have := b2 q q0 q1
    have w9 : ∀ v9, 0 ≤ v9 → v9 < 20 → pr (lendR r p o n) q v9 = pr r q v9 := fun v9 v0 v1 => e _ (by omega) (by omega)
    rw [w9 0 (by decide) (by decide), w9 1 (by decide) (by decide)]
    exact ⟨this.1, this.2.1, fun k k0 k1 => by rw [w9 _ (by omega) (by omega), w9 _ (by omega) (by omega)]; exact this.2.2 k k0 k1⟩
  · have w9 : ∀ v9, 0 ≤ v9 → v9 < 3 → fr (lendR r p o n) q v9 = fr r q v9 := fun v9 v0 v1 => e _ (by omega) (by omega)
    rw [w9 0 (by decide) (by decide), w9 1 (by decide) (by decide), w9 2 (by decide) (by decide)]
    exact b3 q q0 q1
  · rw [e5] at k1
    have := b4 k k0
    show (0 ≤ lendR r p o n (151 + 3 * k + 0) ∧ lendR r p o n (151 + 3 * k + 0) < 6) ∧ (0 ≤ lendR r p o n (151 + 3 * k + 1) ∧ lendR r p o n (151 + 3 * k + 1) < 6)
    by_cases z : k = r 5
    · subst z
      rw [lendR_e, lendR_e, if_neg (by omega), if_pos (by omega), if_neg (by omega), if_neg (by omega), if_pos (by omega)]
      exact ⟨hp, ho⟩
    · rw [lendR_e, lendR_e, if_neg (by omega), if_neg (by omega), if_neg (by omega), if_neg (by omega), if_neg (by omega), if_neg (by omega), if_neg (by omega), if_neg (by omega)]
      exact this (by omega)
  · rw [e 4 (by omega) (by omega)] at q1
    have w9 : ∀ v9, 0 ≤ v9 → v9 < 20 → pr (lendR r p o n) q v9 = pr r q v9 := fun v9 v0 v1 => e _ (by omega) (by omega)
    rw [w9 0 (by decide) (by decide), w9 1 (by decide) (by decide), e 3 (by omega) (by omega)]
    exact b5 q q0 q1
theorem lendR_DS {r : Int → Int} {p o n : Int} (h : DS r) (h5 : 0 ≤ r 5 ∧ r 5 < 8) (hn : 1 ≤ n ∧ n ≤ 99) : DS (lendR r p o n) := fun k k0 k1 => by
  have k1 : k < r 5 + 1 := k1
  show 1 ≤ lendR r p o n (151 + 3 * k + 2) ∧ lendR r p o n (151 + 3 * k + 2) ≤ 99
  by_cases z : k = r 5
  · subst z
    rw [lendR_e, if_neg (by omega), if_neg (by omega), if_neg (by omega), if_pos (by omega)]
    exact hn
  · rw [lendR_e, if_neg (by omega), if_neg (by omega), if_neg (by omega), if_neg (by omega)]
    exact h k k0 (by omega)
theorem lendR_LQ {r : Int → Int} {p o n : Int} (h5 : 0 ≤ r 5 ∧ r 5 < 8) : LQ r (lendR r p o n) := fun j hj => lendR_o h5.1 (by omega) (by omega) h5.2
theorem fldR_e {r : Int → Int} {s sn rm j : Int} (h3 : 0 ≤ r 3) : fldR r s sn rm j = if j = 3 then r 3 + 1 else if j = 13 + 3 * r 3 then s else if j = 14 + 3 * r 3 then sn else if j = 15 + 3 * r 3 then rm else r j := by
  unfold fldR putR
  grind
theorem fldR_AB {r : Int → Int} {s sn rm : Int} (h : AB r) (h3 : r 3 ≠ 6) (hs : 0 ≤ s ∧ s ≤ 9) (hn : 0 ≤ sn ∧ sn ≤ 99) (hm : 1 ≤ rm ∧ rm ≤ 20) : AB (fldR r s sn rm) := by
  obtain ⟨b0, b1, b2, b3, b4, b5⟩ := h
  have q3 := b1.1
  have q4 := b1.2.1
  have ee : ∀ j, fldR r s sn rm j = if j = 3 then r 3 + 1 else if j = 13 + 3 * r 3 then s else if j = 14 + 3 * r 3 then sn else if j = 15 + 3 * r 3 then rm else r j := fun j => fldR_e q3.1
  have e : ∀ j, j < 13 ∨ 31 ≤ j → j ≠ 3 → fldR r s sn rm j = r j := fun j h1 h2 => by rw [ee, if_neg h2, if_neg (by omega), if_neg (by omega), if_neg (by omega)]
  have e3 : fldR r s sn rm 3 = r 3 + 1 := by rw [ee, if_pos rfl]
  refine ⟨fun j hj => ?_, ?_, fun q q0 q1 => ?_, fun q q0 q1 => ?_, fun k k0 k1 => ?_, fun q q0 q1 => ?_⟩
  · rw [ee]
    have := b0 j hj
    split
    · omega
    · split
      · omega
      · split
        · omega
        · split <;> omega
  · unfold B1 at b1 ⊢
    rw [e3, e 4 (by omega) (by omega), e 5 (by omega) (by omega), e 0 (by omega) (by omega), e 1 (by omega) (by omega), e 8 (by omega) (by omega), e 11 (by omega) (by omega), e 6 (by omega) (by omega), e 10 (by omega) (by omega)]
    exact ⟨by omega, b1.2⟩
  · have := b2 q q0 q1
    have w9 : ∀ v9, 0 ≤ v9 → pr (fldR r s sn rm) q v9 = pr r q v9 := fun v9 v0 => e _ (by omega) (by omega)
    rw [w9 0 (by decide), w9 1 (by decide)]
    exact ⟨this.1, this.2.1, fun k k0 k1 => by rw [w9 _ (by omega), w9 _ (by omega)]; exact this.2.2 k k0 k1⟩
  · have := b3 q q0 q1
    show (0 ≤ fldR r s sn rm (13 + 3 * q + 0) ∧ fldR r s sn rm (13 + 3 * q + 0) ≤ 9) ∧ (0 ≤ fldR r s sn rm (13 + 3 * q + 1) ∧ fldR r s sn rm (13 + 3 * q + 1) ≤ 99) ∧ (0 ≤ fldR r s sn rm (13 + 3 * q + 2) ∧ fldR r s sn rm (13 + 3 * q + 2) ≤ 20)
    by_cases z : q = r 3
    · subst z
      rw [ee, ee, ee, if_neg (by omega), if_pos (by omega), if_neg (by omega), if_neg (by omega), if_pos (by omega), if_neg (by omega), if_neg (by omega), if_neg (by omega), if_pos (by omega)]
      omega
    · rw [ee, ee, ee, if_neg (by omega), if_neg (by omega), if_neg (by omega), if_neg (by omega), if_neg (by omega), if_neg (by omega), if_neg (by omega), if_neg (by omega), if_neg (by omega), if_neg (by omega), if_neg (by omega), if_neg (by omega)]
      exact this
  · rw [e 5 (by omega) (by omega)] at k1
    have w9 : ∀ v9, 0 ≤ v9 → dr (fldR r s sn rm) k v9 = dr r k v9 := fun v9 v0 => e _ (by omega) (by omega)
    rw [w9 0 (by decide), w9 1 (by decide)]
    exact b4 k k0 k1
  · rw [e 4 (by omega) (by omega)] at q1
    have w9 : ∀ v9, 0 ≤ v9 → pr (fldR r s sn rm) q v9 = pr r q v9 := fun v9 v0 => e _ (by omega) (by omega)
    rw [w9 0 (by decide), w9 1 (by decide), e3]
    have := b5 q q0 q1
    omega
theorem fldR_LQ {r : Int → Int} {s sn rm : Int} (h3 : 0 ≤ r 3 ∧ r 3 < 6) : LQ r (fldR r s sn rm) := fun j hj => by rw [fldR_e h3.1, if_neg (by omega), if_neg (by omega), if_neg (by omega), if_neg (by omega)]
theorem DS_of {r q : Int → Int} (h : DS r) (e : ∀ j, j = 5 ∨ (151 ≤ j ∧ j < 175) → q j = r j) (h5 : r 5 ≤ 8) : DS q := fun k k0 k1 => by
  rw [e 5 (Or.inl rfl)] at k1
  show 1 ≤ q (151 + 3 * k + 2) ∧ q (151 + 3 * k + 2) ≤ 99
  rw [e _ (Or.inr (by omega))]
  exact h k k0 k1
theorem skp_n {t : Int → Int} {n a : Int} (h : a ≤ n) : a ≤ skp t n a ∧ skp t n a ≤ n := ⟨skp_ge, skp_le h⟩
theorem wd_n {t : Int → Int} {n b : Int} {w : List Int} (h : b ≤ n) (y : wdP t n b w) : b + w.length ≤ n := by
  have z1 := y.1
  have z2 := ltE_rg (t := t) (n := n) (a := b)
  omega
def okL (r q : Int → Int) : Prop := AB q ∧ DS q ∧ LQ r q
section prv
variable {ev : LawD → Int → (Int → Int) → Int} {good : LawD → Prop} {t : Int → Int} {n a b bg e : Int} {r q : Int → Int}
theorem bnd_y {α β : Type} {p : PR α} {g : α → Int → PR β} {z : β × Int} (h : bnd p g = .inr z) : ∃ v a, p = .inr (v, a) ∧ g v a = .inr z := by
  rcases p with f | ⟨v, a⟩
  · cases h
  · exact ⟨v, a, rfl, h⟩
theorem fldP_ok (hA : AB r) (hS : DS r) (ha : a ≤ n) (h : fldP t n r bg a = .inr (q, e)) : okL r q ∧ a ≤ e ∧ e ≤ n := by
  have b3 := hA.2.1.1
  have b5 := hA.2.1.2.2.1
  by_cases z : r 3 = 6
  · rw [fldP_0 z] at h; cases h
  · unfold fldP at h
    rw [if_neg z] at h
    obtain ⟨s, a1, y1, h⟩ := bnd_y h
    obtain ⟨rm, a2, y2, h⟩ := bnd_y h
    obtain ⟨sn, a3, y3, h⟩ := bnd_y h
    have h' := Sum.inr.inj h
    have e1 : fldR r s sn rm = q := congrArg Prod.fst h'
    have e2 : a3 = e := congrArg Prod.snd h'
    have g1 := aftP_rg y1
    have g2 := aftP_rg y2
    have g3 : (0 ≤ sn ∧ sn ≤ 99) ∧ a2 ≤ a3 ∧ a3 ≤ n := by
      have k1 := skp_n (t := t) (n := n) (a := a2) (by omega)
      by_cases y : wdP t n (skp t n a2) (strB 3)
      · rw [snwQ_1 y] at y3
        have := numP_rg y3
        omega
      · rw [snwQ_0 y] at y3
        have y4 := Sum.inr.inj y3
        have k2 : (0 : Int) = sn := congrArg Prod.fst y4
        have k3 : skp t n a2 = a3 := congrArg Prod.snd y4
        omega
    subst e1 e2
    exact ⟨⟨fldR_AB hA z g1.1 g3.1 g2.1, DS_of hS (fun j hj => by rw [fldR_e b3.1, if_neg (by omega), if_neg (by omega), if_neg (by omega), if_neg (by omega)]) b5.2, fldR_LQ (by omega)⟩, by omega, by omega⟩
theorem dbtP_ok (hA : AB r) (hS : DS r) (ha : a ≤ n) (h : dbtP t n r bg a = .inr (q, e)) : okL r q ∧ a ≤ e ∧ e ≤ n := by
  have b4 := hA.2.1.2.1
  have b5 := hA.2.1.2.2.1
  by_cases z : r 5 = 8
  · rw [dbtP_0 z] at h; cases h
  · unfold dbtP at h
    rw [if_neg z] at h
    obtain ⟨p, a1, y1, h⟩ := bnd_y h
    obtain ⟨o, a2, y2, h⟩ := bnd_y h
    by_cases z2 : p = o
    · rw [if_pos z2] at h; cases h
    rw [if_neg z2] at h
    obtain ⟨k, a3, y3, h⟩ := bnd_y h
    have h' := Sum.inr.inj h
    have e1 : lendR r p o k = q := congrArg Prod.fst h'
    have e2 : a3 = e := congrArg Prod.snd h'
    have g1 := numP_rg y1
    have g2 := numP_rg y2
    have g3 := numP_rg y3
    subst e1 e2
    exact ⟨⟨lendR_AB hA z (by omega) (by omega) g3.1, lendR_DS hS (by omega) g3.1, lendR_LQ (by omega)⟩, by omega, by omega⟩
theorem setP_ok {w lo hi : Int} (hA : AB r) (hS : DS r) (ha : a ≤ n) (hw : (w = 6 ∧ lo = 1 ∧ hi = 9) ∨ ((w = 7 ∨ w = 8 ∨ w = 9) ∧ lo = 0 ∧ hi = 100) ∨ (w = 10 ∧ lo = 0 ∧ hi = 999)) (h : setP t n r w lo hi a = .inr (q, e)) : okL r q ∧ a ≤ e ∧ e ≤ n := by
  have b5 := hA.2.1.2.2.1
  obtain ⟨v, a1, y1, h⟩ := bnd_y h
  have h' := Sum.inr.inj h
  have e1 : putR r w v = q := congrArg Prod.fst h'
  have e2 : a1 = e := congrArg Prod.snd h'
  have g1 := numP_rg y1
  subst e1 e2
  exact ⟨⟨AB_put hA (by omega) ⟨by omega, by omega, by omega⟩, DS_of hS (fun j hj => if_neg (by omega)) b5.2, LQ_put (by omega)⟩, by omega, by omega⟩
theorem onP_ok {p : Int} (hE : EvD ev good) (hG : good (lawD r)) (hA : AB r) (hS : DS r) (hp : 0 ≤ p ∧ p < 6) (ha : a ≤ n) (h : onP ev t n r p a = .inr (q, e)) : okL r q ∧ a ≤ e ∧ e ≤ n := by
  have k1 := skp_n (t := t) (n := n) (a := a) ha
  have b5 := hA.2.1.2.2.1
  by_cases z : wdP t n (skp t n a) (strB 5)
  · unfold onP at h
    rw [if_pos z] at h
    obtain ⟨f, a2, y1, h⟩ := bnd_y h
    by_cases z2 : rooM r p f
    · rw [if_pos z2] at h
      have h' := Sum.inr.inj h
      have e1 : wrtR ev r p f = q := congrArg Prod.fst h'
      have e2 : a2 = e := congrArg Prod.snd h'
      have g1 := numP_rg y1
      have hc := (hA.2.2.1 p hp.1 hp.2).1
      subst e1 e2
      exact ⟨⟨wrtR_AB hp.1 hp.2 (by omega) (dptR_rg hE hG) hA, DS_of hS (fun j hj => wrtP_o hp.1 hp.2 hc.2 (by omega)) b5.2, LQ_wrt hp.1 hp.2 hc.2⟩, by omega, by omega⟩
    · rw [if_neg z2] at h; cases h
  · rw [onP_0 z] at h
    have h' := Sum.inr.inj h
    have e1 : r = q := congrArg Prod.fst h'
    have e2 : skp t n a = e := congrArg Prod.snd h'
    subst e1 e2
    exact ⟨⟨hA, hS, LQ_r⟩, by omega, by omega⟩
theorem nmP_ok (hE : EvD ev good) (hG : good (lawD r)) (hA : AB r) (hS : DS r) (ha : a ≤ n) (h : nmP ev t n r bg a = .inr (q, e)) : okL r q ∧ a ≤ e ∧ e ≤ n := by
  have b4 := hA.2.1.2.1
  have b5 := hA.2.1.2.2.1
  have k1 := skp_n (t := t) (n := n) (a := a) ha
  by_cases z : r 4 = 6
  · rw [nmP_0 z] at h; cases h
  · by_cases z2 : gdW t (skp t n a) (ltE t n (skp t n a) - skp t n a) ∧ 1 ≤ ltE t n (skp t n a) - skp t n a ∧ ltE t n (skp t n a) - skp t n a ≤ 6
    · rw [nmP_2 z z2] at h
      have l1 := ltE_rg (t := t) (n := n) (a := skp t n a)
      have l2 := (scn_rg (c := fun j => 97 ≤ t j ∧ t j ≤ 122) (n := n) (i := skp t n a)).2.2.1
      have aR := namR_AB (t := t) (b := skp t n a) (k := ltE t n (skp t n a) - skp t n a) hA (by omega) z2.2 (fun j j0 j1 => by
        have w1 := (l2 (skp t n a + j) (by omega) (by show _ < ltE t n (skp t n a); omega)).2.1
        have w2 := z2.1 j j0 j1
        omega)
      have qR := namR_LQ (t := t) (b := skp t n a) (k := ltE t n (skp t n a) - skp t n a) (r := r) (by omega)
      have sR9 : DS (namR r t (skp t n a) (ltE t n (skp t n a) - skp t n a)) := DS_of hS (fun j hj => namR_o (by omega) (by omega) (by omega)) b5.2
      obtain ⟨⟨o1, o2, o3⟩, o4, o5⟩ := onP_ok hE (by rw [lawD_LQ qR]; exact hG) aR sR9 (by omega) (by omega) h
      exact ⟨⟨o1, o2, LQ_t qR o3⟩, by omega, by omega⟩
    · rw [nmP_1 z z2] at h; cases h
theorem prvP_ok (hE : EvD ev good) (hG : good (lawD r)) (hA : AB r) (hS : DS r) (ha : a ≤ n) (h : prvP ev t n r a = .inr (q, e)) : okL r q ∧ a ≤ e ∧ e ≤ n := by
  unfold prvP at h
  have st : ∀ (k : Nat) (x y : PR (Int → Int)), wdI t n a k x y = .inr (q, e) → (wdP t n a (strB k) → x = .inr (q, e) → okL r q ∧ a ≤ e ∧ e ≤ n) → (y = .inr (q, e) → okL r q ∧ a ≤ e ∧ e ≤ n) → okL r q ∧ a ≤ e ∧ e ≤ n := fun k x y g1 g2 g3 => by
    by_cases z : wdP t n a (strB k)
    · rw [wdI_y z] at g1; exact g2 z g1
    · rw [wdI_n z] at g1; exact g3 g1
  have fx : ∀ (k : Nat), wdP t n a (strB k) → (okL r q ∧ a + (strB k).length ≤ e ∧ e ≤ n) → okL r q ∧ a ≤ e ∧ e ≤ n := fun k _ g => ⟨g.1, by omega, g.2.2⟩
  refine st _ _ _ h (fun z g => fx 0 z (fldP_ok hA hS (wd_n ha z) g)) fun h => ?_
  refine st _ _ _ h (fun z g => fx 4 z (nmP_ok hE hG hA hS (wd_n ha z) g)) fun h => ?_
  refine st _ _ _ h (fun z g => fx 6 z (dbtP_ok hA hS (wd_n ha z) g)) fun h => ?_
  refine st _ _ _ h (fun z g => fx 7 z (setP_ok hA hS (wd_n ha z) (by omega) g)) fun h => ?_
  refine st _ _ _ h (fun z g => fx 8 z (setP_ok hA hS (wd_n ha z) (by omega) g)) fun h => ?_
  refine st _ _ _ h (fun z g => fx 9 z (setP_ok hA hS (wd_n ha z) (by omega) g)) fun h => ?_
  refine st _ _ _ h (fun z g => fx 10 z (setP_ok hA hS (wd_n ha z) (by omega) g)) fun h => ?_
  refine st _ _ _ h (fun z g => fx 11 z (setP_ok hA hS (wd_n ha z) (by omega) g)) fun h => ?_
  cases h
end prv
theorem bgS_t {S : Nat → Int → Int} : upS (upS (upS (upS (upS (upS S 300 12 (-1)) 300 9 (-1)) 300 10 (S 300 8)) 300 8 0) 300 11 0) 300 13 0 = tS (bgS S) 0 (-1) := by
  funext b j
  simp only [bgS, tS_at, upS_at]
  grind
/-- a text, nothing behind it -/
def nrm (t : Int → Int) (n : Int) : Int → Int := fun j => if 0 ≤ j ∧ j < n then t j else 0
theorem nrm_y {t : Int → Int} {n j : Int} (h : 0 ≤ j) (g : j < n) : nrm t n j = t j := if_pos ⟨h, g⟩
theorem TP_bg {S : Nat → Int → Int} (h8 : 0 ≤ S 300 8 ∧ S 300 8 ≤ 400) (hB : TB S) : TP (nrm (S 305) (S 300 8)) (S 300 8) (bgS S) := ⟨rfl, h8, fun k k0 k1 => by have := hB k k0 (by omega); rw [nrm_y k0 k1]; omega, rfl, fun k k0 k1 => nrm_y k0 k1⟩
theorem RT_v {S T U : Nat → Int → Int} {r q : Int → Int} {c f b g : Int} (h : RT S r c f (tS T c f)) (k : RT T q b g U) : RT S q b g U := by
  refine RT_t h ⟨?_, k.2.1, k.2.2.1, k.2.2.2⟩
  have e := k.1
  rw [tS_q, tS_tS]
  exact e
theorem tS_0 {S : Nat → Int → Int} {a f : Int} : tS S a f 300 0 = S 300 0 := rfl
theorem tS_u0 {S : Nat → Int → Int} {a f v : Int} : upS (tS S a f) 300 0 v = tS (upS S 300 0 v) a f := tS_uo (by decide) (by decide)
theorem tS_u6 {S : Nat → Int → Int} {a f v : Int} : upS (tS S a f) 300 6 v = tS (upS S 300 6 v) a f := tS_uo (by decide) (by decide)
theorem up00 {S : Nat → Int → Int} {v : Int} : upS S 300 0 v 300 0 = v := rfl
theorem up01 {S : Nat → Int → Int} {v j : Int} : upS S 300 0 v 301 j = S 301 j := rfl
theorem prE {S T : Nat → Int → Int} {r : Int → Int} {e b v : Int} (h : RT (bgS (asS S 415)) r e b T) (hq : LQ (S 301) r) : SQ (upS (upS (upS S 300 0 v) 300 8 0) 300 12 b) (sR (tS (upS T 300 0 v) e b) (bkR ((tS (upS T 300 0 v) e b) 301) ((tS (upS T 300 0 v) e b) 303) 415)) := by
  have e1 : T 301 = r := RT_m h
  have e3 : T 303 = asS S 415 303 := h.1.1 303 (by decide) (by decide)
  refine ⟨fun a h1 h2 h3 => ?_, fun j hj => ?_⟩
  · rw [show (upS (upS (upS S 300 0 v) 300 8 0) 300 12 b) a = S a by funext j; simp only [upS_at]; rw [if_neg (by omega), if_neg (by omega), if_neg (by omega)]]
    by_cases z : a = 301
    · subst z
      show bkR (T 301) (T 303) 415 = S 301
      funext j
      unfold bkR
      rw [e1, e3]
      by_cases y : 0 ≤ j ∧ j < 415
      · rw [if_pos y]
        show (if 0 ≤ j ∧ j < 415 then S 301 j else S 303 j) = S 301 j
        rw [if_pos y]
      · rw [if_neg y]
        exact hq j (by omega)
    · rw [show (sR (tS (upS T 300 0 v) e b) (bkR ((tS (upS T 300 0 v) e b) 301) ((tS (upS T 300 0 v) e b) 303) 415)) a = T a by funext j; simp only [sR, if_neg z, tS_at, if_neg h1, upS_at]; rw [if_neg (by omega)]]
      rw [h.1.1 a h1 h3]
      funext j
      simp only [tS_at, if_neg h1, sR, if_neg z, bgS, upS_at, asS, if_neg h2]
      rw [if_neg (by omega), if_neg (by omega), if_neg (by omega), if_neg (by omega)]
  · rcases hj with y | y | y | y | y
    · subst y; rfl
    · subst y; exact h.1.2 3 (by omega)
    · subst y; exact h.1.2 6 (by omega)
    · subst y; exact h.1.2 8 (by omega)
    · subst y; rfl
theorem prO {S T : Nat → Int → Int} {r : Int → Int} {e x : Int} (h : RT (bgS (asS S 415)) r e (-1) T) (hx : x = r 0 + 1) : SQ (sR (upS (upS (upS (upS S 300 0 0) 300 8 0) 300 12 (-1)) 300 6 0) (putR r 0 (r 0 + 1))) (tS (upS (sR (upS T 300 0 0) (putR (T 301) 0 x)) 300 6 0) e (-1)) := by
  have e1 : T 301 = r := RT_m h
  refine ⟨fun a h1 h2 h3 => ?_, fun j hj => ?_⟩
  · by_cases z : a = 301
    · subst z
      show putR (T 301) 0 x = putR r 0 (r 0 + 1)
      rw [e1, hx]
    · rw [show (sR (upS (upS (upS (upS S 300 0 0) 300 8 0) 300 12 (-1)) 300 6 0) (putR r 0 (r 0 + 1))) a = S a by funext j; simp only [sR, if_neg z, upS_at]; rw [if_neg (by omega), if_neg (by omega), if_neg (by omega), if_neg (by omega)]]
      rw [show (tS (upS (sR (upS T 300 0 0) (putR (T 301) 0 x)) 300 6 0) e (-1)) a = T a by funext j; simp only [tS_at, if_neg h1, upS_at, sR, if_neg z]; rw [if_neg (by omega), if_neg (by omega)]]
      rw [h.1.1 a h1 h3]
      funext j
      simp only [tS_at, if_neg h1, sR, if_neg z, bgS, upS_at, asS, if_neg h2]
      rw [if_neg (by omega), if_neg (by omega), if_neg (by omega), if_neg (by omega)]
  · rcases hj with y | y | y | y | y
    · subst y; rfl
    · subst y; exact h.1.2 3 (by omega)
    · subst y; rfl
    · subst y; exact h.1.2 8 (by omega)
    · subst y; rfl
section Ref40
variable {tb : Tab} {d : Nat} {m : AM} {K : Out → AM → Prop} {S : Nat → Int → Int} {a f : Int} {t : Int → Int} {n : Int} {ev : LawD → Int → (Int → Int) → Int} {good : LawD → Prop}
theorem k234_0 : pg.1 234 0 = [.aload 0, .invokeinterface 225 1, .istore 1, .aload 0, .ldc 0, .invokeinterface 223 2, .ifCond .eq 22, .aload 0, .iload 1, .invokeinterface 228 2, .goto 170] := rfl
theorem a234_0 {tb : Tab} {d : Nat} {K : Out → AM → Prop} {ls st : List AV} {m : AM} : At tb d 234 K 0 ls st m = wpB tb (pg.2.1 234) (Runs tb pg d) K (At tb d 234 K) [.aload 0, .invokeinterface 225 1, .istore 1, .aload 0, .ldc 0, .invokeinterface 223 2, .ifCond .eq 22, .aload 0, .iload 1, .invokeinterface 228 2, .goto 170] ls st m := At.eq k234_0
theorem k234_22 : pg.1 234 22 = [.aload 0, .ldc 4, .invokeinterface 223 2, .ifCond .eq 39, .aload 0, .iload 1, .invokeinterface 229 2, .goto 170] := rfl
theorem a234_22 {tb : Tab} {d : Nat} {K : Out → AM → Prop} {ls st : List AV} {m : AM} : At tb d 234 K 22 ls st m = wpB tb (pg.2.1 234) (Runs tb pg d) K (At tb d 234 K) [.aload 0, .ldc 4, .invokeinterface 223 2, .ifCond .eq 39, .aload 0, .iload 1, .invokeinterface 229 2, .goto 170] ls st m := At.eq k234_22
theorem k234_39 : pg.1 234 39 = [.aload 0, .ldc 6, .invokeinterface 223 2, .ifCond .eq 56, .aload 0, .iload 1, .invokeinterface 231 2, .goto 170] := rfl
theorem a234_39 {tb : Tab} {d : Nat} {K : Out → AM → Prop} {ls st : List AV} {m : AM} : At tb d 234 K 39 ls st m = wpB tb (pg.2.1 234) (Runs tb pg d) K (At tb d 234 K) [.aload 0, .ldc 6, .invokeinterface 223 2, .ifCond .eq 56, .aload 0, .iload 1, .invokeinterface 231 2, .goto 170] ls st m := At.eq k234_39
theorem k234_56 : pg.1 234 56 = [.aload 0, .ldc 7, .invokeinterface 223 2, .ifCond .eq 77, .aload 0, .bipush 6, .bipush 1, .bipush 9, .invokeinterface 233 4, .goto 170] := rfl
theorem a234_56 {tb : Tab} {d : Nat} {K : Out → AM → Prop} {ls st : List AV} {m : AM} : At tb d 234 K 56 ls st m = wpB tb (pg.2.1 234) (Runs tb pg d) K (At tb d 234 K) [.aload 0, .ldc 7, .invokeinterface 223 2, .ifCond .eq 77, .aload 0, .bipush 6, .bipush 1, .bipush 9, .invokeinterface 233 4, .goto 170] ls st m := At.eq k234_56
theorem k234_77 : pg.1 234 77 = [.aload 0, .ldc 8, .invokeinterface 223 2, .ifCond .eq 98, .aload 0, .bipush 7, .bipush 0, .bipush 100, .invokeinterface 233 4, .goto 170] := rfl
theorem a234_77 {tb : Tab} {d : Nat} {K : Out → AM → Prop} {ls st : List AV} {m : AM} : At tb d 234 K 77 ls st m = wpB tb (pg.2.1 234) (Runs tb pg d) K (At tb d 234 K) [.aload 0, .ldc 8, .invokeinterface 223 2, .ifCond .eq 98, .aload 0, .bipush 7, .bipush 0, .bipush 100, .invokeinterface 233 4, .goto 170] ls st m := At.eq k234_77
theorem k234_98 : pg.1 234 98 = [.aload 0, .ldc 9, .invokeinterface 223 2, .ifCond .eq 119, .aload 0, .bipush 8, .bipush 0, .bipush 100, .invokeinterface 233 4, .goto 170] := rfl
theorem a234_98 {tb : Tab} {d : Nat} {K : Out → AM → Prop} {ls st : List AV} {m : AM} : At tb d 234 K 98 ls st m = wpB tb (pg.2.1 234) (Runs tb pg d) K (At tb d 234 K) [.aload 0, .ldc 9, .invokeinterface 223 2, .ifCond .eq 119, .aload 0, .bipush 8, .bipush 0, .bipush 100, .invokeinterface 233 4, .goto 170] ls st m := At.eq k234_98
theorem k234_119 : pg.1 234 119 = [.aload 0, .ldc 10, .invokeinterface 223 2, .ifCond .eq 140, .aload 0, .bipush 9, .bipush 0, .bipush 100, .invokeinterface 233 4, .goto 170] := rfl
theorem a234_119 {tb : Tab} {d : Nat} {K : Out → AM → Prop} {ls st : List AV} {m : AM} : At tb d 234 K 119 ls st m = wpB tb (pg.2.1 234) (Runs tb pg d) K (At tb d 234 K) [.aload 0, .ldc 10, .invokeinterface 223 2, .ifCond .eq 140, .aload 0, .bipush 9, .bipush 0, .bipush 100, .invokeinterface 233 4, .goto 170] ls st m := At.eq k234_119
theorem k234_140 : pg.1 234 140 = [.aload 0, .ldc 11, .invokeinterface 223 2, .ifCond .eq 162, .aload 0, .bipush 10, .bipush 0, .bipush 999, .invokeinterface 233 4, .goto 170] := rfl
theorem a234_140 {tb : Tab} {d : Nat} {K : Out → AM → Prop} {ls st : List AV} {m : AM} : At tb d 234 K 140 ls st m = wpB tb (pg.2.1 234) (Runs tb pg d) K (At tb d 234 K) [.aload 0, .ldc 11, .invokeinterface 223 2, .ifCond .eq 162, .aload 0, .bipush 10, .bipush 0, .bipush 999, .invokeinterface 233 4, .goto 170] ls st m := At.eq k234_140
theorem k234_162 : pg.1 234 162 = [.aload 0, .aload 0, .getfield 1011, .invokeinterface 224 2, .jsr 170] := rfl
theorem a234_162 {tb : Tab} {d : Nat} {K : Out → AM → Prop} {ls st : List AV} {m : AM} : At tb d 234 K 162 ls st m = wpB tb (pg.2.1 234) (Runs tb pg d) K (At tb d 234 K) [.aload 0, .aload 0, .getfield 1011, .invokeinterface 224 2, .jsr 170] ls st m := At.eq k234_162
theorem k234_170 : pg.1 234 170 = [.return_] := rfl
theorem a234_170 {tb : Tab} {d : Nat} {K : Out → AM → Prop} {ls st : List AV} {m : AM} : At tb d 234 K 170 ls st m = wpB tb (pg.2.1 234) (Runs tb pg d) K (At tb d 234 K) [.return_] ls st m := At.eq k234_170
theorem q_234 (hX : tb.2.1 = strB) (hP : TP t n S) (hD : AskD tb ev good) (hA : AB (S 301)) (hG : good (lawD (S 301))) (ha : 0 ≤ a ∧ a ≤ 1000) (hN : ∀ r e b T, prvP ev t n (S 301) (skp t n a) = .inl b → LQ (S 301) r → 0 ≤ e → e ≤ 1000 → 0 ≤ b → b ≤ 1000 → RT S r e b T → K (.inl none) (X T m)) (hK : ∀ r e T, prvP ev t n (S 301) (skp t n a) = .inr (r, e) → RT S r e (-1) T → K (.inl none) (X T m)) : Runs tb pg (d + 64) 234 [vr 300] (X (tS S a (-1)) m) K := by
  refine Runs.of (al := [vr 300]) (n := 1) ⟨300, _, _, rfl, xo_300⟩ rfl rfl trivial ?_
  have hT := TP_X hP
  have hn := hT.1
  have hn2 := hT.2.1
  have g0 := skp_ge (t := t) (n := n) (a := a)
  have g1 := skp_b (t := t) (n := n) (a := a) ha.2 (by omega)
  obtain ⟨b, hb⟩ : ∃ b, b = skp t n a := ⟨_, rfl⟩
  have hbb : skp t n b = b := by rw [hb, skp_skp]
  rw [← hb] at g0 g1 hK hN
  have hb2 : 0 ≤ b ∧ b ≤ 1000 := by omega
  have hb3 : b ≤ 1000 := hb2.2
  have hn3 : n ≤ 400 := hn2.2
  obtain ⟨P, hp⟩ : ∃ P, prvP ev t n (S 301) b = P := ⟨_, rfl⟩
  rw [hp] at hK hN
  unfold prvP at hp
  have k0 : 0 < 39 := by decide
  have k4 : 4 < 39 := by decide
  have k6 : 6 < 39 := by decide
  have k7 : 7 < 39 := by decide
  have k8 : 8 < 39 := by decide
  have k9 : 9 < 39 := by decide
  have k10 : 10 < 39 := by decide
  have k11 : 11 < 39 := by decide
  repeat' (first | omega | (refine hK r7 e7 _ (hp.symm.trans z1) RT_0) | (refine hN (S 301) _ _ _ (hp.symm.trans z1) LQ_r z2 z3 z4 z5 RT_1) | (refine hN r7 _ _ _ (hp.symm.trans z1) zq z2 z3 z4 z5 zr) | (refine hK r7 e7 _ (hp.symm.trans z1) zr) | (refine hN (S 301) _ _ _ hp.symm LQ_r ?_ ?_ ?_ ?_ RT_1) | simp only [w_aload, w_call, w_istore, w_ldc, w_if, cI, Int.reduceToNat, w_iload, w_goto, w_iconst, x_g1011_300, w_fall, w_return, a234_0, a234_22, a234_39, a234_56, a234_77, a234_98, a234_119, a234_140, a234_162, a234_170, R32, List.getElem?_cons_zero, List.getElem?_cons_succ, List.set_cons_zero, List.set_cons_succ, List.cons_append, List.nil_append, List.replicate_succ, List.replicate_zero, List.take_succ_cons, List.take_zero, List.drop_succ_cons, List.drop_zero, List.reverse_cons, List.reverse_nil, List.length_cons, List.length_nil, Option.toList, true_and, and_true, eq_self, ↓reduceIte, not_true_eq_false, not_false_eq_true, true_or, or_true, tS_11, tS_12, tS_8, tS_9, tS_10, tS_13, tS_15, tS_16, tS_17, tS_18, tS_19, tS_301, tS_303, tS_305, tS_306, tS_u11, tS_u12, tS_tS, tS_u1, sR_sR, sR_r, tS_q] | (rw [wdI_n n0] at hp; clear n0) | (have yl := wdL hb3 hn3 y0; rw [wdI_y y0] at hp; clear y0) | (refine q_225 hT ha (fun b9 e9 => ?_); rw [← hb] at e9; have e8 := e9.symm; clear e9; subst e8) | with_reducible refine q_224n ?_ | with_reducible refine q_223b (k := 0) hX k0 hT hbb hb2 (fun n0 => ?_) (fun y0 => ?_) | with_reducible refine q_223b (k := 4) hX k4 hT hbb hb2 (fun n0 => ?_) (fun y0 => ?_) | with_reducible refine q_223b (k := 6) hX k6 hT hbb hb2 (fun n0 => ?_) (fun y0 => ?_) | with_reducible refine q_223b (k := 7) hX k7 hT hbb hb2 (fun n0 => ?_) (fun y0 => ?_) | with_reducible refine q_223b (k := 8) hX k8 hT hbb hb2 (fun n0 => ?_) (fun y0 => ?_) | with_reducible refine q_223b (k := 9) hX k9 hT hbb hb2 (fun n0 => ?_) (fun y0 => ?_) | with_reducible refine q_223b (k := 10) hX k10 hT hbb hb2 (fun n0 => ?_) (fun y0 => ?_) | with_reducible refine q_223b (k := 11) hX k11 hT hbb hb2 (fun n0 => ?_) (fun y0 => ?_) | with_reducible refine q_228 hX hP hA ?_ ?_ (fun e7 b7 z1 z2 z3 z4 z5 => ?_) (fun r7 e7 z1 => ?_) | with_reducible refine q_229 hX hP hD hA hG ?_ ?_ (fun r7 e7 b7 T7 z1 zq z2 z3 z4 z5 zr => ?_) (fun r7 e7 T7 z1 zr => ?_) | with_reducible refine q_231 hP hA ?_ ?_ (fun e7 b7 z1 z2 z3 z4 z5 => ?_) (fun r7 e7 z1 => ?_) | with_reducible refine q_233 hP ?_ ?_ ?_ (fun e7 b7 z1 z2 z3 z4 z5 => ?_) (fun r7 e7 z1 => ?_) | with_reducible refine And.intro ?_ ?_ | with_reducible intro _)
  all_goals (try (first | omega | contradiction | (unfold R32; omega) | (constructor <;> unfold R32 <;> omega)))
theorem k235_0 : pg.1 235 0 = [.aload 0, .bipush (-1), .putfield 1012, .aload 0, .bipush (-1), .putfield 1009, .aload 0, .aload 0, .getfield 1008, .putfield 1010, .aload 0, .bipush 0, .putfield 1008, .aload 0, .bipush 0, .putfield 1011, .aload 0, .bipush 0, .putfield 1013, .return_] := rfl
theorem a235_0 {tb : Tab} {d : Nat} {K : Out → AM → Prop} {ls st : List AV} {m : AM} : At tb d 235 K 0 ls st m = wpB tb (pg.2.1 235) (Runs tb pg d) K (At tb d 235 K) [.aload 0, .bipush (-1), .putfield 1012, .aload 0, .bipush (-1), .putfield 1009, .aload 0, .aload 0, .getfield 1008, .putfield 1010, .aload 0, .bipush 0, .putfield 1008, .aload 0, .bipush 0, .putfield 1011, .aload 0, .bipush 0, .putfield 1013, .return_] ls st m := At.eq k235_0
theorem q_235 (hK : K (.inl none) (X (tS (bgS S) 0 (-1)) m)) : Runs tb pg (d + 1) 235 [vr 300] (X S m) K := by
  refine Runs.of (al := [vr 300]) (n := 0) ⟨300, _, _, rfl, xo_300⟩ rfl rfl trivial ?_
  rw [← bgS_t] at hK
  simp only [w_aload, w_iconst, x_p1012_300, x_p1009_300, x_g1008_300, x_p1010_300, x_p1008_300, x_p1011_300, x_p1013_300, w_return, a235_0, R32, List.getElem?_cons_zero, List.getElem?_cons_succ, List.set_cons_zero, List.set_cons_succ, List.cons_append, List.nil_append, List.replicate_succ, List.replicate_zero, List.take_succ_cons, List.take_zero, List.drop_succ_cons, List.drop_zero, List.reverse_cons, List.reverse_nil, List.length_cons, List.length_nil, Option.toList, true_and, and_true, eq_self, ↓reduceIte, not_true_eq_false, not_false_eq_true, true_or, or_true]
  exact hK
/-! depth of 236: 64 -/
theorem k236_0 : pg.1 236 0 = [.aload 0, .invokeinterface 221 1, .aload 0, .getfield 1011, .aload 0, .getfield 1010, .if_icmp .ge 19, .bipush 1, .goto 20] := rfl
theorem a236_0 {tb : Tab} {d : Nat} {K : Out → AM → Prop} {ls st : List AV} {m : AM} : At tb d 236 K 0 ls st m = wpB tb (pg.2.1 236) (Runs tb pg d) K (At tb d 236 K) [.aload 0, .invokeinterface 221 1, .aload 0, .getfield 1011, .aload 0, .getfield 1010, .if_icmp .ge 19, .bipush 1, .goto 20] ls st m := At.eq k236_0
theorem k236_19 : pg.1 236 19 = [.bipush 0, .jsr 20] := rfl
theorem a236_19 {tb : Tab} {d : Nat} {K : Out → AM → Prop} {ls st : List AV} {m : AM} : At tb d 236 K 19 ls st m = wpB tb (pg.2.1 236) (Runs tb pg d) K (At tb d 236 K) [.bipush 0, .jsr 20] ls st m := At.eq k236_19
theorem k236_20 : pg.1 236 20 = [.istore 2, .bipush 0, .istore 3, .jsr 23] := rfl
theorem a236_20 {tb : Tab} {d : Nat} {K : Out → AM → Prop} {ls st : List AV} {m : AM} : At tb d 236 K 20 ls st m = wpB tb (pg.2.1 236) (Runs tb pg d) K (At tb d 236 K) [.istore 2, .bipush 0, .istore 3, .jsr 23] ls st m := At.eq k236_20
theorem k236_23 : pg.1 236 23 = [.iload 2, .ifCond .eq 144, .aload 0, .getfield 1012, .bipush (-1), .if_icmp .ne 144, .aload 0, .invokeinterface 221 1, .iload 3, .iload 1, .ifCond .eq 49, .bipush 12, .goto 51] := rfl
theorem a236_23 {tb : Tab} {d : Nat} {K : Out → AM → Prop} {ls st : List AV} {m : AM} : At tb d 236 K 23 ls st m = wpB tb (pg.2.1 236) (Runs tb pg d) K (At tb d 236 K) [.iload 2, .ifCond .eq 144, .aload 0, .getfield 1012, .bipush (-1), .if_icmp .ne 144, .aload 0, .invokeinterface 221 1, .iload 3, .iload 1, .ifCond .eq 49, .bipush 12, .goto 51] ls st m := At.eq k236_23
theorem k236_49 : pg.1 236 49 = [.bipush 14, .jsr 51] := rfl
theorem a236_49 {tb : Tab} {d : Nat} {K : Out → AM → Prop} {ls st : List AV} {m : AM} : At tb d 236 K 49 ls st m = wpB tb (pg.2.1 236) (Runs tb pg d) K (At tb d 236 K) [.bipush 14, .jsr 51] ls st m := At.eq k236_49
theorem k236_51 : pg.1 236 51 = [.if_icmp .ne 65, .aload 0, .aload 0, .getfield 1011, .invokeinterface 224 2, .goto 80] := rfl
theorem a236_51 {tb : Tab} {d : Nat} {K : Out → AM → Prop} {ls st : List AV} {m : AM} : At tb d 236 K 51 ls st m = wpB tb (pg.2.1 236) (Runs tb pg d) K (At tb d 236 K) [.if_icmp .ne 65, .aload 0, .aload 0, .getfield 1011, .invokeinterface 224 2, .goto 80] ls st m := At.eq k236_51
theorem k236_65 : pg.1 236 65 = [.iload 1, .ifCond .eq 76, .aload 0, .invokeinterface 246 1, .goto 80] := rfl
theorem a236_65 {tb : Tab} {d : Nat} {K : Out → AM → Prop} {ls st : List AV} {m : AM} : At tb d 236 K 65 ls st m = wpB tb (pg.2.1 236) (Runs tb pg d) K (At tb d 236 K) [.iload 1, .ifCond .eq 76, .aload 0, .invokeinterface 246 1, .goto 80] ls st m := At.eq k236_65
theorem k236_76 : pg.1 236 76 = [.aload 0, .invokeinterface 234 1, .jsr 80] := rfl
theorem a236_76 {tb : Tab} {d : Nat} {K : Out → AM → Prop} {ls st : List AV} {m : AM} : At tb d 236 K 76 ls st m = wpB tb (pg.2.1 236) (Runs tb pg d) K (At tb d 236 K) [.aload 0, .invokeinterface 234 1, .jsr 80] ls st m := At.eq k236_76
theorem k236_80 : pg.1 236 80 = [.iinc 3 1, .aload 0, .invokeinterface 221 1, .aload 0, .getfield 1012, .bipush (-1), .if_icmp .ne 106, .aload 0, .getfield 1011, .aload 0, .getfield 1010, .if_icmp .ne 111, .jsr 106] := rfl
theorem a236_80 {tb : Tab} {d : Nat} {K : Out → AM → Prop} {ls st : List AV} {m : AM} : At tb d 236 K 80 ls st m = wpB tb (pg.2.1 236) (Runs tb pg d) K (At tb d 236 K) [.iinc 3 1, .aload 0, .invokeinterface 221 1, .aload 0, .getfield 1012, .bipush (-1), .if_icmp .ne 106, .aload 0, .getfield 1011, .aload 0, .getfield 1010, .if_icmp .ne 111, .jsr 106] ls st m := At.eq k236_80
theorem k236_106 : pg.1 236 106 = [.bipush 0, .istore 2, .goto 23] := rfl
theorem a236_106 {tb : Tab} {d : Nat} {K : Out → AM → Prop} {ls st : List AV} {m : AM} : At tb d 236 K 106 ls st m = wpB tb (pg.2.1 236) (Runs tb pg d) K (At tb d 236 K) [.bipush 0, .istore 2, .goto 23] ls st m := At.eq k236_106
theorem k236_111 : pg.1 236 111 = [.aload 0, .bipush 59, .invokeinterface 222 2, .ifCond .eq 133, .aload 0, .dup, .getfield 1011, .bipush 1, .iadd, .putfield 1011, .goto 23] := rfl
theorem a236_111 {tb : Tab} {d : Nat} {K : Out → AM → Prop} {ls st : List AV} {m : AM} : At tb d 236 K 111 ls st m = wpB tb (pg.2.1 236) (Runs tb pg d) K (At tb d 236 K) [.aload 0, .bipush 59, .invokeinterface 222 2, .ifCond .eq 133, .aload 0, .dup, .getfield 1011, .bipush 1, .iadd, .putfield 1011, .goto 23] ls st m := At.eq k236_111
theorem k236_133 : pg.1 236 133 = [.aload 0, .aload 0, .getfield 1011, .invokeinterface 224 2, .goto 23] := rfl
theorem a236_133 {tb : Tab} {d : Nat} {K : Out → AM → Prop} {ls st : List AV} {m : AM} : At tb d 236 K 133 ls st m = wpB tb (pg.2.1 236) (Runs tb pg d) K (At tb d 236 K) [.aload 0, .aload 0, .getfield 1011, .invokeinterface 224 2, .goto 23] ls st m := At.eq k236_133
theorem k236_144 : pg.1 236 144 = [.iload 3, .ireturn] := rfl
theorem a236_144 {tb : Tab} {d : Nat} {K : Out → AM → Prop} {ls st : List AV} {m : AM} : At tb d 236 K 144 ls st m = wpB tb (pg.2.1 236) (Runs tb pg d) K (At tb d 236 K) [.iload 3, .ireturn] ls st m := At.eq k236_144
theorem q_236 (hX : tb.2.1 = strB) (hP : TP t n S) (hD : AskD tb ev good) (hE : EvD ev good) (hA : AB (S 301)) (hS : DS (S 301)) (hG : good (lawD (S 301))) (ha : 0 ≤ a ∧ a ≤ n) (hN : ∀ r e b T k, rdP (prvP ev t n) t n 14 (S 301) a = .inl b → LQ (S 301) r → 0 ≤ b → b ≤ 1000 → RT S r e b T → K (.inl (some (vi k))) (X T m)) (hK : ∀ r e T k, rdP (prvP ev t n) t n 14 (S 301) a = .inr (r, e) → okL (S 301) r → RT S r e (-1) T → K (.inl (some (vi k))) (X T m)) : Runs tb pg (d + 65) 236 [vr 300, vi 0] (X (tS S a (-1)) m) K := by
  have hT := TP_X hP
  have hn := hT.1
  have hn2 := hT.2.1
  have g0 := skp_n (t := t) (n := n) (a := a) ha.2
  obtain ⟨b, hb⟩ : ∃ b, b = skp t n a := ⟨_, rfl⟩
  rw [← hb] at g0
  have ha1 : 0 ≤ a ∧ a ≤ 1000 := by omega
  have R59 : R32 59 := by unfold R32; omega
  obtain ⟨P, hp⟩ : ∃ P, P = rdP (prvP ev t n) t n 14 (S 301) a := ⟨_, rfl⟩
  rw [← hp] at hK hN
  have hp1 : b < n → rdN (prvP ev t n) t n 14 (S 301) b = P := fun z => by rw [hp]; unfold rdP; rw [← hb, if_pos z]
  have hp0 : ¬ b < n → P = .inr (S 301, b) := fun z => by rw [hp]; unfold rdP; rw [← hb, if_neg z]
  have hE0 : ∀ U k, K (.inl (some (vi k))) (X U m) → At tb (d + 64) 236 K 23 [vr 300, vi 0, vi 0, vi k] [] (X U m) := by
    intro U k hk
    rw [a236_23]
    repeat' (first | omega | with_reducible refine hk | simp only [w_aload, w_call, x_g1011_300, x_g1010_300, w_ifc, cI, Int.reduceToNat, w_iconst, w_goto, w_fall, w_istore, w_iload, w_if, x_g1012_300, w_iinc, lgB, Nat.reduceSub, w_dupi, w_dupr, w_iadd, x_p1011_300, w_ireturn, a236_0, a236_19, a236_20, a236_49, a236_51, a236_65, a236_76, a236_80, a236_106, a236_111, a236_133, a236_144, R32, List.getElem?_cons_zero, List.getElem?_cons_succ, List.set_cons_zero, List.set_cons_succ, List.cons_append, List.nil_append, List.replicate_succ, List.replicate_zero, List.take_succ_cons, List.take_zero, List.drop_succ_cons, List.drop_zero, List.reverse_cons, List.reverse_nil, List.length_cons, List.length_nil, Option.toList, true_and, and_true, eq_self, ↓reduceIte, not_true_eq_false, not_false_eq_true, true_or, or_true, tS_11, tS_12, tS_8, tS_9, tS_10, tS_13, tS_15, tS_16, tS_17, tS_18, tS_19, tS_301, tS_303, tS_305, tS_306, tS_u11, tS_u12, tS_tS, tS_u1, sR_sR, sR_r, tS_q] | with_reducible refine And.intro ?_ ?_ | with_reducible intro _)
    all_goals (try (first | omega | contradiction | skip))
  have hE1 : ∀ T a f k, 0 ≤ f → f ≤ 1000 → K (.inl (some (vi k))) (X (tS T a f) m) → At tb (d + 64) 236 K 23 [vr 300, vi 0, vi 1, vi k] [] (X (tS T a f) m) := by
    intro T a f k hf0 hf1 hk
    rw [a236_23]
    repeat' (first | omega | with_reducible refine hk | simp only [w_aload, w_call, x_g1011_300, x_g1010_300, w_ifc, cI, Int.reduceToNat, w_iconst, w_goto, w_fall, w_istore, w_iload, w_if, x_g1012_300, w_iinc, lgB, Nat.reduceSub, w_dupi, w_dupr, w_iadd, x_p1011_300, w_ireturn, a236_0, a236_19, a236_20, a236_49, a236_51, a236_65, a236_76, a236_80, a236_106, a236_111, a236_133, a236_144, R32, List.getElem?_cons_zero, List.getElem?_cons_succ, List.set_cons_zero, List.set_cons_succ, List.cons_append, List.nil_append, List.replicate_succ, List.replicate_zero, List.take_succ_cons, List.take_zero, List.drop_succ_cons, List.drop_zero, List.reverse_cons, List.reverse_nil, List.length_cons, List.length_nil, Option.toList, true_and, and_true, eq_self, ↓reduceIte, not_true_eq_false, not_false_eq_true, true_or, or_true, tS_11, tS_12, tS_8, tS_9, tS_10, tS_13, tS_15, tS_16, tS_17, tS_18, tS_19, tS_301, tS_303, tS_305, tS_306, tS_u11, tS_u12, tS_tS, tS_u1, sR_sR, sR_r, tS_q] | with_reducible refine And.intro ?_ ?_ | with_reducible intro _)
    all_goals (try (first | omega | contradiction | skip))
  have hL : b < n → At tb (d + 64) 236 K 23 [vr 300, vi 0, vi 1, vi 0] [] (X (tS S b (-1)) m) := by
    intro hbn
    have hp2 := hp1 hbn
    have hL23 : (fun i : Int => ∀ (T : Nat → Int → Int) (c : Int) (r : Int → Int), (0 ≤ c ∧ c ≤ n) → (okL (S 301) r) → (RT S r c (-1) (tS T c (-1))) → (rdN (prvP ev t n) t n (14 - i).toNat r c = P) → At tb (d + 64) 236 K 23 [vr 300, vi 0, vi 1, vi i] [] (X (tS T c (-1)) m)) 0 := by
      refine loopZ (fun i : Int => ∀ (T : Nat → Int → Int) (c : Int) (r : Int → Int), (0 ≤ c ∧ c ≤ n) → (okL (S 301) r) → (RT S r c (-1) (tS T c (-1))) → (rdN (prvP ev t n) t n (14 - i).toNat r c = P) → At tb (d + 64) 236 K 23 [vr 300, vi 0, vi 1, vi i] [] (X (tS T c (-1)) m)) (14) (by omega) ?_ ?_
      · intro i h0 h1 h9 T c r hc hr hRT hrd
        obtain ⟨okA, okD, okQ⟩ := hr
        have tTr : T 301 = r := (show (tS T c (-1)) 301 = r from RT_m hRT)
        have hPT : TP t n T := (show TP t n (tS T c (-1)) from TP_R hP hRT)
        have hTT : TX t n T := TP_X hPT
        have g1 := skp_n (t := t) (n := n) (a := c) hc.2
        have c1 : 0 ≤ c ∧ c ≤ 1000 := by omega
        have c2 : 0 ≤ skp t n c ∧ skp t n c ≤ 1000 := by omega
        have hA2 : AB (T 301) := by rw [tTr]; exact okA
        have hG2 : good (lawD (T 301)) := by rw [tTr, lawD_LQ okQ]; exact hG
        have hGr : good (lawD r) := by rw [lawD_LQ okQ]; exact hG
        rw [a236_23]
        repeat' (first | omega | with_reducible refine h9 _ _ r7 ?_ ?_ ?_ ?_ | with_reducible refine hE0 _ _ ?_ | with_reducible refine hE1 _ _ _ _ ?_ ?_ ?_ | simp only [w_aload, w_call, x_g1011_300, x_g1010_300, w_ifc, cI, Int.reduceToNat, w_iconst, w_goto, w_fall, w_istore, w_iload, w_if, x_g1012_300, w_iinc, lgB, Nat.reduceSub, w_dupi, w_dupr, w_iadd, x_p1011_300, w_ireturn, a236_0, a236_19, a236_20, a236_49, a236_51, a236_65, a236_76, a236_80, a236_106, a236_111, a236_133, a236_144, R32, List.getElem?_cons_zero, List.getElem?_cons_succ, List.set_cons_zero, List.set_cons_succ, List.cons_append, List.nil_append, List.replicate_succ, List.replicate_zero, List.take_succ_cons, List.take_zero, List.drop_succ_cons, List.drop_zero, List.reverse_cons, List.reverse_nil, List.length_cons, List.length_nil, Option.toList, true_and, and_true, eq_self, ↓reduceIte, not_true_eq_false, not_false_eq_true, true_or, or_true, tS_11, tS_12, tS_8, tS_9, tS_10, tS_13, tS_15, tS_16, tS_17, tS_18, tS_19, tS_301, tS_303, tS_305, tS_306, tS_u11, tS_u12, tS_tS, tS_u1, sR_sR, sR_r, tS_q] | (with_reducible refine q_221 hTT c1 (fun b9 e9 => ?_); subst e9) | (with_reducible refine q_234 (S := T) hX hPT hD hA2 hG2 c2 (fun r7 e7 b7 T7 z1 zq z2 z3 z4 z5 zr => ?_) (fun r7 e7 T7 z1 zr => ?_) <;> rw [tTr, skp_skp] at z1) | (have okS := prvP_ok hE hGr okA okD g1.2 z1; have zr2 := zr; clear zr; rw [← RT_id zr2]; have hT7 := TP_X (TP_R hPT zr2); have h710 := hT7.1; have zs := RT_v hRT zr2; have ce7 : 0 ≤ e7 ∧ e7 ≤ 1000 := (by omega); have g8 := skp_n (t := t) (n := n) (a := e7) okS.2.2) | (have zr2 := zr; clear zr; rw [← RT_id zr2]; have hT7 := TP_X (TP_R hPT zr2); have zs := RT_v hRT zr2; have ce7 : 0 ≤ e7 ∧ e7 ≤ 1000 := (by omega)) | (have q0 := hT7; with_reducible refine q_221 (S := T7) hT7 ce7 (fun b8 e8 => ?_); have kb8 : 0 ≤ b8 ∧ b8 ≤ 1000 := (by have w1 := skp_ge (t := t) (n := n) (a := e7); have w2 := skp_b (t := t) (n := n) (a := e7) ce7.2 (by omega); omega)) | (have q0 := e8; (with_reducible refine q_222 (S := T7) hT7 kb8 R59 (fun r6 b6 e6 y6 => ?_)); rw [e8, skp_skp, ← e8] at e6; have e5 := e6.symm; clear e6; subst e5; have r6r : r6 = 0 ∨ r6 = 1 := (by rcases y6 with y5 | y5 <;> omega)) | with_reducible refine q_224n ?_ | with_reducible refine And.intro ?_ ?_ | with_reducible intro _)
        all_goals (try (first | omega | contradiction | (subst e8; first | exact hN _ _ _ _ _ (rdN_f h1 z1 hrd) (LQ_t okQ (by rw [← tTr]; exact zq)) z4 z5 (RT_a zs) | exact hK _ _ _ _ (rdN_e h1 z1 hrd (by omega)) ⟨okS.1.1, okS.1.2.1, LQ_t okQ okS.1.2.2⟩ (RT_a zs) | exact ⟨okS.1.1, okS.1.2.1, LQ_t okQ okS.1.2.2⟩ | exact RT_a zs | (rcases y6 with ⟨y5, y4⟩ | ⟨y5, y4⟩; all_goals first | omega | exact rdN_c h1 z1 hrd (by omega) y4.2 | exact hN _ _ _ _ _ (rdN_w h1 z1 hrd (by omega) (by omega)) (LQ_t okQ okS.1.2.2) (by omega) (by omega) (RT_a zs)))))
      · intro T c r hc hr hRT hrd
        obtain ⟨okA, okD, okQ⟩ := hr
        have hPT : TP t n T := (show TP t n (tS T c (-1)) from TP_R hP hRT)
        have hTT : TX t n T := TP_X hPT
        have c1 : 0 ≤ c ∧ c ≤ 1000 := by omega
        have g1 := skp_n (t := t) (n := n) (a := c) hc.2
        have c2 : 0 ≤ skp t n c ∧ skp t n c ≤ 1000 := by omega
        rw [a236_23]
        repeat' (first | omega | with_reducible refine hE0 _ _ ?_ | with_reducible refine hE1 _ _ _ _ ?_ ?_ ?_ | simp only [w_aload, w_call, x_g1011_300, x_g1010_300, w_ifc, cI, Int.reduceToNat, w_iconst, w_goto, w_fall, w_istore, w_iload, w_if, x_g1012_300, w_iinc, lgB, Nat.reduceSub, w_dupi, w_dupr, w_iadd, x_p1011_300, w_ireturn, a236_0, a236_19, a236_20, a236_49, a236_51, a236_65, a236_76, a236_80, a236_106, a236_111, a236_133, a236_144, R32, List.getElem?_cons_zero, List.getElem?_cons_succ, List.set_cons_zero, List.set_cons_succ, List.cons_append, List.nil_append, List.replicate_succ, List.replicate_zero, List.take_succ_cons, List.take_zero, List.drop_succ_cons, List.drop_zero, List.reverse_cons, List.reverse_nil, List.length_cons, List.length_nil, Option.toList, true_and, and_true, eq_self, ↓reduceIte, not_true_eq_false, not_false_eq_true, true_or, or_true, tS_11, tS_12, tS_8, tS_9, tS_10, tS_13, tS_15, tS_16, tS_17, tS_18, tS_19, tS_301, tS_303, tS_305, tS_306, tS_u11, tS_u12, tS_tS, tS_u1, sR_sR, sR_r, tS_q] | (with_reducible refine q_221 hTT c1 (fun b9 e9 => ?_); subst e9) | (with_reducible refine q_221 hTT c2 (fun b9 e9 => ?_); rw [skp_skp] at e9; subst e9) | with_reducible refine q_224n ?_ | with_reducible refine And.intro ?_ ?_ | with_reducible intro _)
        all_goals (try (first | omega | contradiction | (exact hN r (skp t n c) (skp t n c) (tS T (skp t n c) (skp t n c)) _ (hrd.symm.trans rfl) okQ c2.1 c2.2 (RT_t hRT (by have w := RT_1 (S := tS T c (-1)) (a := skp t n c) (f := skp t n c); rw [tS_tS] at w; rw [RT_m hRT] at w; exact w)))))
    exact hL23 S b (S 301) (by omega) ⟨hA, hS, LQ_r⟩ RT_1 hp2
  refine Runs.of (al := [vr 300, vi 0]) (n := 2) ⟨300, _, _, rfl, xo_300⟩ rfl rfl trivial ?_
  repeat' (first | omega | with_reducible refine hL ?_ | with_reducible refine hE0 _ _ ?_ | simp only [w_aload, w_call, x_g1011_300, x_g1010_300, w_ifc, cI, Int.reduceToNat, w_iconst, w_goto, w_fall, w_istore, w_iload, w_if, x_g1012_300, w_iinc, lgB, Nat.reduceSub, w_dupi, w_dupr, w_iadd, x_p1011_300, w_ireturn, a236_0, a236_19, a236_20, a236_49, a236_51, a236_65, a236_76, a236_80, a236_106, a236_111, a236_133, a236_144, R32, List.getElem?_cons_zero, List.getElem?_cons_succ, List.set_cons_zero, List.set_cons_succ, List.cons_append, List.nil_append, List.replicate_succ, List.replicate_zero, List.take_succ_cons, List.take_zero, List.drop_succ_cons, List.drop_zero, List.reverse_cons, List.reverse_nil, List.length_cons, List.length_nil, Option.toList, true_and, and_true, eq_self, ↓reduceIte, not_true_eq_false, not_false_eq_true, true_or, or_true, tS_11, tS_12, tS_8, tS_9, tS_10, tS_13, tS_15, tS_16, tS_17, tS_18, tS_19, tS_301, tS_303, tS_305, tS_306, tS_u11, tS_u12, tS_tS, tS_u1, sR_sR, sR_r, tS_q] | (with_reducible refine q_221 hT ha1 (fun b9 e9 => ?_); rw [← hb] at e9; have e8 := e9.symm; clear e9; subst e8) | with_reducible refine And.intro ?_ ?_ | with_reducible intro _)
  all_goals (try (first | omega | contradiction | (exact hK _ _ _ _ (hp0 (by omega)) ⟨hA, hS, LQ_r⟩ RT_1)))
theorem k239_0 : pg.1 239 0 = [.aload 0, .invokeinterface 237 1, .aload 0, .invokeinterface 235 1, .aload 0, .bipush 0, .invokeinterface 236 2, .istore 1, .aload 0, .aload 0, .getfield 1012, .bipush (-1), .if_icmp .eq 27, .bipush 1, .goto 43] := rfl
theorem a239_0 {tb : Tab} {d : Nat} {K : Out → AM → Prop} {ls st : List AV} {m : AM} : At tb d 239 K 0 ls st m = wpB tb (pg.2.1 239) (Runs tb pg d) K (At tb d 239 K) [.aload 0, .invokeinterface 237 1, .aload 0, .invokeinterface 235 1, .aload 0, .bipush 0, .invokeinterface 236 2, .istore 1, .aload 0, .aload 0, .getfield 1012, .bipush (-1), .if_icmp .eq 27, .bipush 1, .goto 43] ls st m := At.eq k239_0
theorem k239_27 : pg.1 239 27 = [.aload 0, .getfield 1001, .bipush 0, .iaload, .bipush 12, .if_icmp .ne 42, .bipush 2, .goto 43] := rfl
theorem a239_27 {tb : Tab} {d : Nat} {K : Out → AM → Prop} {ls st : List AV} {m : AM} : At tb d 239 K 27 ls st m = wpB tb (pg.2.1 239) (Runs tb pg d) K (At tb d 239 K) [.aload 0, .getfield 1001, .bipush 0, .iaload, .bipush 12, .if_icmp .ne 42, .bipush 2, .goto 43] ls st m := At.eq k239_27
theorem k239_42 : pg.1 239 42 = [.bipush 0, .jsr 43] := rfl
theorem a239_42 {tb : Tab} {d : Nat} {K : Out → AM → Prop} {ls st : List AV} {m : AM} : At tb d 239 K 42 ls st m = wpB tb (pg.2.1 239) (Runs tb pg d) K (At tb d 239 K) [.bipush 0, .jsr 43] ls st m := At.eq k239_42
theorem k239_43 : pg.1 239 43 = [.putfield 1000, .aload 0, .getfield 1000, .ifCond .le 59, .aload 0, .invokeinterface 238 1, .bipush 0, .ireturn] := rfl
theorem a239_43 {tb : Tab} {d : Nat} {K : Out → AM → Prop} {ls st : List AV} {m : AM} : At tb d 239 K 43 ls st m = wpB tb (pg.2.1 239) (Runs tb pg d) K (At tb d 239 K) [.putfield 1000, .aload 0, .getfield 1000, .ifCond .le 59, .aload 0, .invokeinterface 238 1, .bipush 0, .ireturn] ls st m := At.eq k239_43
theorem k239_59 : pg.1 239 59 = [.aload 0, .getfield 1001, .bipush 0, .dup2, .iaload, .bipush 1, .iadd, .iastore, .aload 0, .bipush 0, .putfield 1006, .aload 0, .getfield 1001, .bipush 0, .iaload, .ireturn] := rfl
theorem a239_59 {tb : Tab} {d : Nat} {K : Out → AM → Prop} {ls st : List AV} {m : AM} : At tb d 239 K 59 ls st m = wpB tb (pg.2.1 239) (Runs tb pg d) K (At tb d 239 K) [.aload 0, .getfield 1001, .bipush 0, .dup2, .iaload, .bipush 1, .iadd, .iastore, .aload 0, .bipush 0, .putfield 1006, .aload 0, .getfield 1001, .bipush 0, .iaload, .ireturn] ls st m := At.eq k239_59
theorem q_239 (hX : tb.2.1 = strB) (hD : AskD tb ev good) (hE : EvD ev good) (hA : AB (S 301)) (hS : DS (S 301)) (hG : good (lawD (S 301))) (h8 : 0 ≤ S 300 8 ∧ S 300 8 ≤ 400) (hB : TB S) (hK1 : ∀ b T, rdP (prvP ev (nrm (S 305) (S 300 8)) (S 300 8)) (nrm (S 305) (S 300 8)) (S 300 8) 14 (S 301) 0 = .inl b → 0 ≤ b → b ≤ 1000 → SQ (upS (upS (upS S 300 0 1) 300 8 0) 300 12 b) T → K (.inl (some (vi 0))) (X T m)) (hK2 : ∀ r e T, rdP (prvP ev (nrm (S 305) (S 300 8)) (S 300 8)) (nrm (S 305) (S 300 8)) (S 300 8) 14 (S 301) 0 = .inr (r, e) → r 0 = 12 → SQ (upS (upS (upS S 300 0 2) 300 8 0) 300 12 (-1)) T → K (.inl (some (vi 0))) (X T m)) (hK : ∀ r e T, rdP (prvP ev (nrm (S 305) (S 300 8)) (S 300 8)) (nrm (S 305) (S 300 8)) (S 300 8) 14 (S 301) 0 = .inr (r, e) → okL (S 301) r → r 0 ≠ 12 → SQ (sR (upS (upS (upS (upS S 300 0 0) 300 8 0) 300 12 (-1)) 300 6 0) (putR r 0 (r 0 + 1))) T → K (.inl (some (vi (r 0 + 1)))) (X T m)) : Runs tb pg (d + 66) 239 [vr 300] (X S m) K := by
  refine Runs.of (al := [vr 300]) (n := 1) ⟨300, _, _, rfl, xo_300⟩ rfl rfl trivial ?_
  have hP : TP (nrm (S 305) (S 300 8)) (S 300 8) (bgS (asS S 415)) := TP_bg (S := asS S 415) h8 hB
  have hA2 : AB (bgS (asS S 415) 301) := hA
  have hS2 : DS (bgS (asS S 415) 301) := hS
  have hG2 : good (lawD (bgS (asS S 415) 301)) := hG
  obtain ⟨P, hp⟩ : ∃ P, P = rdP (prvP ev (nrm (S 305) (S 300 8)) (S 300 8)) (nrm (S 305) (S 300 8)) (S 300 8) 14 (S 301) 0 := ⟨_, rfl⟩
  have hp2 : rdP (prvP ev (nrm (S 305) (S 300 8)) (S 300 8)) (nrm (S 305) (S 300 8)) (S 300 8) 14 (bgS (asS S 415) 301) 0 = P := hp.symm
  rw [← hp] at hK hK1 hK2
  repeat' (first | omega | (exact hK1 _ _ z1 z2 z3 (prE zr2 zq)) | (exact hK2 _ _ _ z1 (by omega) (prE zr2 okS.2.2)) | simp only [w_aload, w_call, w_iconst, w_istore, x_g1012_300, w_ifc, cI, Int.reduceToNat, w_goto, x_g1001_300, x_iald, w_ialoads, w_ialoadw, w_fall, x_p1000_300, x_g1000_300, w_if, w_ireturn, w_dup2, w_iadd, x_iast, x_p1006_300, isA_301, isA_302, isA_303, isA_304, isA_305, isA_307, isA_308, isA_309, isA_310, isA_311, isA_312, isA_313, isA_314, isA_315, len_301, len_302, len_303, len_304, len_305, len_307, len_308, len_309, len_310, len_311, len_312, len_313, len_314, len_315, Int.cast_ofNat_Int, a239_0, a239_27, a239_42, a239_43, a239_59, R32, List.getElem?_cons_zero, List.getElem?_cons_succ, List.set_cons_zero, List.set_cons_succ, List.cons_append, List.nil_append, List.replicate_succ, List.replicate_zero, List.take_succ_cons, List.take_zero, List.drop_succ_cons, List.drop_zero, List.reverse_cons, List.reverse_nil, List.length_cons, List.length_nil, Option.toList, true_and, and_true, eq_self, ↓reduceIte, not_true_eq_false, not_false_eq_true, true_or, or_true, tS_11, tS_12, tS_8, tS_9, tS_10, tS_13, tS_15, tS_16, tS_17, tS_18, tS_19, tS_301, tS_303, tS_305, tS_306, tS_u11, tS_u12, tS_tS, tS_u1, sR_sR, sR_r, tS_q, tS_0, tS_u0, tS_u6, up00, up01] | with_reducible refine q_237 ?_ | with_reducible refine q_235 ?_ | with_reducible refine q_236 hX hP hD hE hA2 hS2 hG2 ?_ (fun r7 e7 b7 T7 k7 z1 zq z2 z3 zr => ?_) (fun r7 e7 T7 k7 z1 okS zr => ?_) | (rw [hp2] at z1) | (have zr2 := zr; clear zr; rw [← RT_id zr2]; have zm := RT_m zr2; have z0 := okS.1.2.1.2.2.2.1; have zm0 : T7 301 0 = r7 0 := (by rw [zm])) | (have zr2 := zr; clear zr; rw [← RT_id zr2]) | with_reducible refine q_238 ?_ | with_reducible refine And.intro ?_ ?_ | with_reducible intro _)
  all_goals (try (first | omega | contradiction | (have hk9 := hK r7 e7 _ z1 okS (by omega) (prO zr2 (x := r7 0 + 1) rfl); rw [← zm0] at hk9; exact hk9)))
end Ref40
