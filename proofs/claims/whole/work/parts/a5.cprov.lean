/-! ===== THE CLASS: a text of the province ===== -/
abbrev TK0 (S : Nat → Int → Int) (q : Nat) (t : Int → Int) (n b w : Int) : Prop := TKw S S q t n b w
def F2c (S T : Nat → Int → Int) : Prop := ∀ a, a ≠ 54 → a ≠ 55 → T a = S a
/-- only the words, the number taken and a World are other -/
def PFr (S T : Nat → Int → Int) (w : Nat) : Prop := ∀ a, a ≠ 54 → a ≠ 55 → (a < w ∨ w + 17 ≤ a) → T a = S a
section pv
variable {S T U : Nat → Int → Int} {w q : Nat} {t : Int → Int} {n b f k v x : Int} {r : Int → Int}
theorem TK0_T {Z : Nat → Int → Int} (h : TKw Z T q t n b x) : TK0 T q t n b x := ⟨h.1, FxE_r, h.2.2⟩
theorem TK0_f (e : T q = S q) (h : TK0 S q t n b x) : TK0 T q t n b x := by
  obtain ⟨h1, h2, h3⟩ := h
  refine ⟨h1, FxE_r, ?_⟩
  rw [e]
  exact h3
theorem F2c_r : F2c S S := fun _ _ _ => rfl
theorem F2c_t (h : F2c S T) (g : F2c T U) : F2c S U := fun a a1 a2 => (g a a1 a2).trans (h a a1 a2)
theorem F2c_x (h : FxE 55 S T) : F2c S T := fun a _ a2 => h a a2
theorem PFr_r : PFr S S w := fun _ _ _ _ => rfl
theorem PFr_t (h : PFr S T w) (g : PFr T U w) : PFr S U w := fun a a1 a2 a3 => (g a a1 a2 a3).trans (h a a1 a2 a3)
theorem PFr_2 (h : F2c S T) : PFr S T w := fun a a1 a2 _ => h a a1 a2
theorem PFr_w (h : EW S T w) : PFr S T w := fun a _ _ a3 => h a a3
theorem PFr_u {i : Int} {c : Nat} (h : PFr S T w) (hc : c < 17) : PFr S (upS T (w + c) i x) w := fun a a1 a2 a3 => (if_neg (by omega)).trans (h a a1 a2 a3)
theorem PFr_0 {i : Int} (h : PFr S T w) : PFr S (upS T w i x) w := fun a a1 a2 a3 => (if_neg (by omega)).trans (h a a1 a2 a3)
theorem isW_c (hw : isW w) {c : Nat} (hc : c < 17) : w + c ≠ 54 ∧ w + c ≠ 55 ∧ w + c ≠ 1 := by
  unfold isW at hw
  omega
theorem F2c_c (hw : isW w) (h : F2c S T) {c : Nat} (hc : c < 17) : T (w + c) = S (w + c) := h _ (isW_c hw hc).1 (isW_c hw hc).2.1
theorem F2c_W (hw : isW w) (h : F2c S T) (hR : RW S w r) : RW T w r := RW_k hR (fun c hc => F2c_c hw h hc)
theorem TPE_2 (h : F2c S T) (hP : TPE S t n) : TPE T t n := TPE_f hP (h 1 (by decide) (by decide))
theorem TPE_P (hw : isW w) (h : PFr S T w) (hP : TPE S t n) : TPE T t n := TPE_f hP (h 1 (by decide) (by decide) (by unfold isW at hw; omega))
theorem up_55 (hw : isW w) {c : Nat} (hc : c < 17) {i : Int} : upS T (w + c) i x 55 = T 55 := if_neg (fun e => (isW_c hw hc).2.1 e.symm)
theorem up_550 (hw : isW w) {i : Int} : upS T w i x 55 = T 55 := if_neg (fun e => (isW_c hw (c := 0) (by decide)).2.1 e.symm)
theorem up_1c (hw : isW w) {c : Nat} (hc : c < 17) {i : Int} : upS T (w + c) i x 1 = T 1 := if_neg (fun e => (isW_c hw hc).2.2 e.symm)
theorem up_54 (hw : isW w) {c : Nat} (hc : c < 17) {i : Int} : upS T (w + c) i x 54 = T 54 := if_neg (fun e => (isW_c hw hc).1 e.symm)
/-- written behind what counts -/
theorem RW_b {c : Nat} (hR : RW S w r) (hc : c = 1 ∨ c = 2 ∨ c = 3) : RW (upS S (w + c) (r 3) x) w r := by
  obtain ⟨c0, cf, cp, cd, cl, cs⟩ := hR
  have o : ∀ k : Nat, k ≠ c → upS S (w + c) (r 3) x (w + k) = S (w + k) := fun k hk => if_neg (by omega)
  have o0 : upS S (w + c) (r 3) x w = S w := if_neg (by omega)
  have g : ∀ (k : Nat) (f : Int), f < r 3 → upS S (w + c) (r 3) x (w + k) f = S (w + k) f := fun k f hf => by rw [upS_at, if_neg (by omega)]
  refine ⟨by rw [o0]; exact c0, fun f f0 f1 => ?_, fun p p0 p1 => ?_, ?_, ?_, fun j j0 j1 => ?_⟩
  · rw [g 1 f f1, g 2 f f1, g 3 f f1]; exact cf f f0 f1
  · rw [o 4 (by omega), o 5 (by omega), o 6 (by omega), o 7 (by omega), o 8 (by omega)]; exact cp p p0 p1
  · unfold RWd; rw [o 9 (by omega), o 10 (by omega), o 11 (by omega), o 12 (by omega)]; exact cd
  · unfold RWl; rw [o 13 (by omega), o 14 (by omega)]; exact cl
  · rw [o 15 (by omega)]; exact cs j j0 j1
theorem RW_fd {s sn rm : Int} (hA : AB r) (h3 : r 3 < 6) (hR : RW S w r) (e1 : S (w + 1) (r 3) = s) (e2 : S (w + 2) (r 3) = sn) (e3 : S (w + 3) (r 3) = rm) : RW (upS S w 0 (r 3 + 1)) w (fldR r s sn rm) := by
  obtain ⟨⟨c0, c1, c2, c3⟩, cf, cp, cd, cl, cs⟩ := hR
  have b3 := hA.2.1.1
  have b4 := hA.2.1.2.1
  have b5 := hA.2.1.2.2.1
  have b11 := hA.2.1.2.2.2.2.2.2.1
  have e : ∀ j, fldR r s sn rm j = if j = 3 then r 3 + 1 else if j = 13 + 3 * r 3 then s else if j = 14 + 3 * r 3 then sn else if j = 15 + 3 * r 3 then rm else r j := fun j => fldR_e b3.1
  have eo : ∀ j, j ≠ 3 → j < 13 ∨ 31 ≤ j → fldR r s sn rm j = r j := fun j h h2 => by rw [e, if_neg h, if_neg (by omega), if_neg (by omega), if_neg (by omega)]
  have o : ∀ k : Nat, 0 < k → upS S w 0 (r 3 + 1) (w + k) = S (w + k) := fun k hk => if_neg (by omega)
  have w0 : ∀ j, upS S w 0 (r 3 + 1) w j = if j = 0 then r 3 + 1 else S w j := fun j => by
    rw [upS_at]
    by_cases y : j = 0
    · rw [if_pos ⟨rfl, y⟩, if_pos y]
    · rw [if_neg (fun z => y z.2), if_neg y]
  refine ⟨?_, fun f f0 f1 => ?_, fun p p0 p1 => ?_, ⟨?_, fun k k0 k1 => ?_⟩, ⟨?_, fun k c k0 k1 c0 c1 => ?_⟩, fun j j0 j1 => ?_⟩
  · rw [w0, w0, w0, w0, e 3, if_pos rfl, if_pos rfl, if_neg (by decide), if_neg (by decide), if_neg (by decide), eo 4 (by decide) (by omega), eo 12 (by decide) (by omega), eo 0 (by decide) (by omega)]
    exact ⟨rfl, c1, c2, c3⟩
  · rw [e 3, if_pos rfl] at f1
    rw [o 1 (by decide), o 2 (by decide), o 3 (by decide)]
    have g0 : fr (fldR r s sn rm) f 0 = if f = r 3 then s else fr r f 0 := by
      show fldR r s sn rm (13 + 3 * f + 0) = _
      rw [e, if_neg (by omega)]
      by_cases y : f = r 3
      · rw [if_pos (by omega), if_pos y]
      · rw [if_neg (by omega), if_neg (by omega), if_neg (by omega), if_neg y]; rfl
    have g1 : fr (fldR r s sn rm) f 1 = if f = r 3 then sn else fr r f 1 := by
      show fldR r s sn rm (13 + 3 * f + 1) = _
      rw [e, if_neg (by omega)]
      by_cases y : f = r 3
      · rw [if_neg (by omega), if_pos (by omega), if_pos y]
      · rw [if_neg (by omega), if_neg (by omega), if_neg (by omega), if_neg y]; rfl
    have g2 : fr (fldR r s sn rm) f 2 = if f = r 3 then rm else fr r f 2 := by
      show fldR r s sn rm (13 + 3 * f + 2) = _
      rw [e, if_neg (by omega)]
      by_cases y : f = r 3
      · rw [if_neg (by omega), if_neg (by omega), if_pos (by omega), if_pos y]
      · rw [if_neg (by omega), if_neg (by omega), if_neg (by omega), if_neg y]; rfl
    rw [g0, g1, g2]
    by_cases y : f = r 3
    · rw [if_pos y, if_pos y, if_pos y, y]
      exact ⟨e1, e2, e3⟩
    · rw [if_neg y, if_neg y, if_neg y]
      exact cf f f0 (by omega)
  · rw [eo 4 (by decide) (by omega)] at p1
    have z := AB_pp hA p0 p1
    have g : ∀ a, 0 ≤ a → pr (fldR r s sn rm) p a = pr r p a := fun a a0 => eo _ (by omega) (by omega)
    obtain ⟨d1, d2, d3, d4⟩ := cp p p0 p1
    rw [o 4 (by decide), o 5 (by decide), o 6 (by decide), o 7 (by decide), o 8 (by decide), g 0 (by decide), g 1 (by decide)]
    refine ⟨d1, d2, fun k k0 k1 => ?_, fun hq k k0 k1 => ?_⟩
    · rw [g _ (by omega)]; exact d3 k k0 k1
    · rw [g _ (by omega), g _ (by omega)]; exact d4 hq k k0 k1
  · rw [o 9 (by decide), eo 5 (by decide) (by omega)]; exact cd.1
  · rw [eo 5 (by decide) (by omega)] at k1
    have g : ∀ a, 0 ≤ a → dr (fldR r s sn rm) k a = dr r k a := fun a a0 => eo _ (by omega) (by omega)
    rw [o 10 (by decide), o 11 (by decide), o 12 (by decide), g 0 (by decide), g 1 (by decide), g 2 (by decide)]
    exact cd.2 k k0 k1
  · rw [o 13 (by decide), eo 11 (by decide) (by omega)]; exact cl.1
  · rw [eo 11 (by decide) (by omega)] at k1 ⊢
    have g : gr (fldR r s sn rm) k c = gr r k c := eo _ (by omega) (by omega)
    rw [o 14 (by decide), g]
    exact cl.2 k c k0 k1 c0 c1
  · rw [o 15 (by decide), eo _ (by omega) (by omega)]; exact cs j j0 j1
end pv
theorem num_of {t : Int → Int} {n b f k v lo hi : Int} (h : TKc t n b f k v) (hlo : 0 ≤ lo) (h1 : lo ≤ v) (h2 : v ≤ hi) : okF t n lo hi b := by
  refine (num_is h hlo).mpr ⟨?_, by omega, h1, h2⟩
  rcases h with ⟨h1, h2, h3, h4⟩ | ⟨h1, h2, h3, h4, h5⟩ | ⟨h1, h2, h3, h4, h5⟩ | ⟨h1, h2, h3, h4, h5, h6, h7⟩ <;> omega
theorem addS_x {S : Nat → Int → Int} {w x : Nat} {a b c : Int} (h : x ≠ w + 9) (h1 : x ≠ w + 10) (h2 : x ≠ w + 11) (h3 : x ≠ w + 12) : addS S w a b c x = S x := by
  unfold addS upS
  repeat rw [if_neg (by omega)]
theorem aft_n {t : Int → Int} {n lo hi a : Int} {w : List Int} (h : wdP t n (skp t n a) w) (g : ¬ okF t n lo hi (skp t n (skp t n a + w.length))) : aftP t n w lo hi a = .inl (skp t n (skp t n a + w.length)) := by rw [aftP_1 h, numP_0 g]
theorem aft_y {t : Int → Int} {n lo hi a : Int} {w : List Int} (h : wdP t n (skp t n a) w) (g : okF t n lo hi (skp t n (skp t n a + w.length))) : aftP t n w lo hi a = .inr (vlZ t (skp t n (skp t n a + w.length)) (fgE t n (skp t n (skp t n a + w.length)) - skp t n (skp t n a + w.length)), fgE t n (skp t n (skp t n a + w.length))) := by rw [aftP_1 h, numP_1 g]
/-- a name being written -/
def namS (S : Nat → Int → Int) (w : Nat) (p : Int) (t : Int → Int) (b k i : Int) : Nat → Int → Int := fun a => if a = w + 4 then (fun j => if j = p then k else S (w + 4) j) else if a = w + 6 then (fun j => if j = p then -1 else S (w + 6) j) else if a = w + 5 then (fun j => if 6 * p ≤ j ∧ j < 6 * p + i then t (b + (j - 6 * p)) - 97 else S (w + 5) j) else S a
section nam
variable {S T U : Nat → Int → Int} {w : Nat} {t : Int → Int} {p b k i j v : Int} {r : Int → Int}
theorem namS_4 : namS S w p t b k i (w + 4) j = if j = p then k else S (w + 4) j := by unfold namS; rw [if_pos rfl]
theorem namS_6 : namS S w p t b k i (w + 6) j = if j = p then -1 else S (w + 6) j := by unfold namS; rw [if_neg (by omega), if_pos rfl]
theorem namS_5 : namS S w p t b k i (w + 5) j = if 6 * p ≤ j ∧ j < 6 * p + i then t (b + (j - 6 * p)) - 97 else S (w + 5) j := by unfold namS; rw [if_neg (by omega), if_neg (by omega), if_pos rfl]
theorem namS_o {a : Nat} (h4 : a ≠ w + 4) (h6 : a ≠ w + 6) (h5 : a ≠ w + 5) : namS S w p t b k i a = S a := by unfold namS; rw [if_neg h4, if_neg h6, if_neg h5]
theorem namS_0 : upS (upS S (w + 4) p k) (w + 6) p (-1) = namS S w p t b k 0 := by
  funext a x
  rw [upS_at, upS_at]
  by_cases h4 : a = w + 4
  · subst h4; rw [namS_4, if_neg (by omega)]
    by_cases z : x = p
    · rw [if_pos ⟨rfl, z⟩, if_pos z]
    · rw [if_neg (by omega), if_neg z]
  · by_cases h6 : a = w + 6
    · subst h6; rw [namS_6]
      by_cases z : x = p
      · rw [if_pos ⟨rfl, z⟩, if_pos z]
      · rw [if_neg (by omega), if_neg (by omega), if_neg z]
    · rw [if_neg (by omega), if_neg (by omega)]
      by_cases h5 : a = w + 5
      · subst h5; rw [namS_5, if_neg (by omega)]
      · rw [namS_o h4 h6 h5]
theorem namS_s (hi : 0 ≤ i) (hT : T = namS S w p t b k i) (hv : v = t (b + i) - 97) : upS T (w + 5) (6 * p + i) v = namS S w p t b k (i + 1) := by
  subst hT
  funext a x
  rw [upS_at]
  by_cases h5 : a = w + 5
  · subst h5
    rw [namS_5, namS_5]
    by_cases z : x = 6 * p + i
    · rw [if_pos ⟨rfl, z⟩, if_pos (by omega), hv, z, show 6 * p + i - 6 * p = i by omega]
    · rw [if_neg (by omega)]
      by_cases y : 6 * p ≤ x ∧ x < 6 * p + i
      · rw [if_pos y, if_pos (by omega)]
      · rw [if_neg y, if_neg (by omega)]
  · rw [if_neg (by omega)]
    by_cases h4 : a = w + 4
    · subst h4; rw [namS_4, namS_4]
    · by_cases h6 : a = w + 6
      · subst h6; rw [namS_6, namS_6]
      · rw [namS_o h4 h6 h5, namS_o h4 h6 h5]
theorem RW_nm (hA : AB r) (h4 : r 4 < 6) (hk : 1 ≤ k ∧ k ≤ 6) (hR : RW S w r) : RW (upS (namS S w (r 4) t b k k) w 4 (r 4 + 1)) w (namR r t b k) := by
  obtain ⟨⟨c0, c1, c2, c3⟩, cf, cp, cd, cl, cs⟩ := hR
  have b3 := hA.2.1.1
  have b4 := hA.2.1.2.1
  have b5 := hA.2.1.2.2.1
  have b11 := hA.2.1.2.2.2.2.2.2.1
  have hb : 0 ≤ r 4 ∧ r 4 < 6 := ⟨b4.1, h4⟩
  have eo : ∀ j, j < 31 ∨ 151 ≤ j → j ≠ 4 → namR r t b k j = r j := fun j h h2 => namR_o hb h h2
  have o : ∀ c : Nat, 0 < c → c ≠ 4 → c ≠ 5 → c ≠ 6 → upS (namS S w (r 4) t b k k) w 4 (r 4 + 1) (w + c) = S (w + c) := fun c h0 h1 h2 h3 => by
    funext x
    rw [upS_at, if_neg (by omega), namS_o (by omega) (by omega) (by omega)]
  have o4 : ∀ x, upS (namS S w (r 4) t b k k) w 4 (r 4 + 1) (w + 4) x = if x = r 4 then k else S (w + 4) x := fun x => by rw [upS_at, if_neg (by omega), namS_4]
  have o5 : ∀ x, upS (namS S w (r 4) t b k k) w 4 (r 4 + 1) (w + 5) x = if 6 * r 4 ≤ x ∧ x < 6 * r 4 + k then t (b + (x - 6 * r 4)) - 97 else S (w + 5) x := fun x => by rw [upS_at, if_neg (by omega), namS_5]
  have o6 : ∀ x, upS (namS S w (r 4) t b k k) w 4 (r 4 + 1) (w + 6) x = if x = r 4 then -1 else S (w + 6) x := fun x => by rw [upS_at, if_neg (by omega), namS_6]
  have w0 : ∀ j, upS (namS S w (r 4) t b k k) w 4 (r 4 + 1) w j = if j = 4 then r 4 + 1 else S w j := fun j => by
    rw [upS_at, namS_o (by omega) (by omega) (by omega)]
    by_cases y : j = 4
    · rw [if_pos ⟨rfl, y⟩, if_pos y]
    · rw [if_neg (fun z => y z.2), if_neg y]
  refine ⟨?_, fun f f0 f1 => ?_, fun p p0 p1 => ?_, ⟨?_, fun x x0 x1 => ?_⟩, ⟨?_, fun x c x0 x1 c0 c1 => ?_⟩, fun j j0 j1 => ?_⟩
  · rw [w0, w0, w0, w0, if_neg (by decide), if_pos rfl, if_neg (by decide), if_neg (by decide), eo 3 (by omega) (by decide), namR_4, eo 12 (by omega) (by decide), eo 0 (by omega) (by decide)]
    exact ⟨c0, rfl, c2, c3⟩
  · rw [eo 3 (by omega) (by decide)] at f1
    rw [o 1 (by decide) (by decide) (by decide) (by decide), o 2 (by decide) (by decide) (by decide) (by decide), o 3 (by decide) (by decide) (by decide) (by decide)]
    have g : ∀ c, 0 ≤ c → c < 3 → fr (namR r t b k) f c = fr r f c := fun c c0 c1 => eo _ (by omega) (by omega)
    rw [g 0 (by decide) (by decide), g 1 (by decide) (by decide), g 2 (by decide) (by decide)]
    exact cf f f0 f1
  · rw [namR_4] at p1
    have g : ∀ c, 0 ≤ c → c < 20 → pr (namR r t b k) p c = if p = r 4 then (if c = 0 then k else if c = 1 then -1 else if c < 8 then (if c - 2 < k then t (b + (c - 2)) - 97 else -1) else if c < 14 then -1 else 0) else pr r p c := fun c c0 c1 => namR_p p0 c0 c1 b4.1
    rw [o 7 (by decide) (by decide) (by decide) (by decide), o 8 (by decide) (by decide) (by decide) (by decide), o4, o6, g 0 (by decide) (by decide), g 1 (by decide) (by decide)]
    by_cases y : p = r 4
    · rw [if_pos y, if_pos y, if_pos y, if_pos y, if_pos rfl, if_neg (by decide), if_pos rfl]
      refine ⟨rfl, rfl, fun x x0 x1 => ?_, fun z => absurd rfl z⟩
      rw [o5, if_pos (by omega), g _ (by omega) (by omega), if_pos y, if_neg (by omega), if_neg (by omega), if_pos (by omega), if_pos (by omega), y, show 6 * r 4 + x - 6 * r 4 = x by omega, show 2 + x - 2 = x by omega]
    · rw [if_neg y, if_neg y, if_neg y, if_neg y]
      obtain ⟨d1, d2, d3, d4⟩ := cp p p0 (by omega)
      have z := AB_pp hA p0 (by omega)
      refine ⟨d1, d2, fun x x0 x1 => ?_, fun hq x x0 x1 => ?_⟩
      · rw [o5, if_neg (by omega), g _ (by omega) (by omega), if_neg y]; exact d3 x x0 x1
      · rw [g _ (by omega) (by omega), g _ (by omega) (by omega), if_neg y, if_neg y]; exact d4 hq x x0 x1
  · rw [o 9 (by decide) (by decide) (by decide) (by decide), eo 5 (by omega) (by decide)]; exact cd.1
  · rw [eo 5 (by omega) (by decide)] at x1
    have g : ∀ c, 0 ≤ c → dr (namR r t b k) x c = dr r x c := fun c c0 => eo _ (by omega) (by omega)
    rw [o 10 (by decide) (by decide) (by decide) (by decide), o 11 (by decide) (by decide) (by decide) (by decide), o 12 (by decide) (by decide) (by decide) (by decide), g 0 (by decide), g 1 (by decide), g 2 (by decide)]
    exact cd.2 x x0 x1
  · rw [o 13 (by decide) (by decide) (by decide) (by decide), eo 11 (by omega) (by decide)]; exact cl.1
  · rw [eo 11 (by omega) (by decide)] at x1 ⊢
    have g : gr (namR r t b k) x c = gr r x c := eo _ (by omega) (by omega)
    rw [o 14 (by decide) (by decide) (by decide) (by decide), g]
    exact cl.2 x c x0 x1 c0 c1
  · rw [o 15 (by decide) (by decide) (by decide) (by decide), eo _ (by omega) (by omega)]; exact cs j j0 j1
end nam
section Prov1
variable {tb : Tab} {d : Nat} {m : AM} {K : Out → AM → Prop} {S : Nat → Int → Int} {w : Nat} {r : Int → Int}
theorem k89_0 : pg.1 89 0 = [.aload 0, .getfield 600, .iload 1, .iload 2, .invokeinterface 99 3, .ifCond .ne 20, .aload 0, .getfield 600, .invokeinterface 104 1, .freturn] := rfl
theorem a89_0 {tb : Tab} {d : Nat} {K : Out → AM → Prop} {ls st : List AV} {m : AM} : At tb d 89 K 0 ls st m = wpB tb (pg.2.1 89) (Runs tb pg d) K (At tb d 89 K) [.aload 0, .getfield 600, .iload 1, .iload 2, .invokeinterface 99 3, .ifCond .ne 20, .aload 0, .getfield 600, .invokeinterface 104 1, .freturn] ls st m := At.eq k89_0
theorem k89_20 : pg.1 89 20 = [.aload 0, .aload 0, .getfield 600, .getfield 705, .putfield 601, .aload 0, .getfield 600, .invokeinterface 95 1, .bipush 1, .freturn] := rfl
theorem a89_20 {tb : Tab} {d : Nat} {K : Out → AM → Prop} {ls st : List AV} {m : AM} : At tb d 89 K 20 ls st m = wpB tb (pg.2.1 89) (Runs tb pg d) K (At tb d 89 K) [.aload 0, .aload 0, .getfield 600, .getfield 705, .putfield 601, .aload 0, .getfield 600, .invokeinterface 95 1, .bipush 1, .freturn] ls st m := At.eq k89_20
theorem w_89 {n b wv lo hi : Int} {t : Int → Int} (hP : TPE S t n) (hT : TK0 S 55 t n b wv) (hlo : 0 ≤ lo ∧ lo ≤ 1000) (hhi : -1 ≤ hi ∧ hi ≤ 1000) (hK0 : ¬ okF t n lo hi b → ∀ T, FxE 55 S T → TK0 T 55 t n b b → K (.inl (some (vi 0))) (X T m)) (hK : okF t n lo hi b → ∀ T, F2c S T → TK0 T 55 t n (skp t n (fgE t n b)) wv → T 54 1 = vlZ t b (fgE t n b - b) → K (.inl (some (vi 1))) (X T m)) : Runs tb pg (d + 2) 89 [vr 54, vi lo, vi hi] (X S m) K := by
  refine Runs.of (al := [vr 54, vi lo, vi hi]) (n := 0) ⟨54, _, _, rfl, xo_54⟩ rfl rfl trivial ?_
  have hS1 : TKw (upS S 54 1 (S 55 5)) (upS S 54 1 (S 55 5)) 55 t n b wv := TK0_f (q := 55) (by rfl) hT
  have hP1 : TPE (upS S 54 1 (S 55 5)) t n := hP
  repeat' (first | omega | (exact hK0 y1 _ x2.2.1 (TK0_T x2)) | (exact hK y1 _ (fun a a1 a2 => (x3.2.1 a a2).trans (up_lit a1)) (TK0_T x3) (by rw [x3.2.1 54 (by decide), upS_at, if_pos ⟨rfl, rfl⟩]; exact (nm_f hT hlo.1 y1).1)) | simp only [w_aload, x_g600_54, w_iload, w_call, w_if, cI, Int.reduceToNat, w_zreturn, x_g705_55, x_g705_58, x_p601_54, w_iconst, a89_0, a89_20, R32, List.getElem?_cons_zero, List.getElem?_cons_succ, List.set_cons_zero, List.set_cons_succ, List.cons_append, List.nil_append, List.replicate_succ, List.replicate_zero, List.take_succ_cons, List.take_zero, List.drop_succ_cons, List.drop_zero, List.reverse_cons, List.reverse_nil, List.length_cons, List.length_nil, Option.toList, true_and, and_true, eq_self, ↓reduceIte, not_true_eq_false, not_false_eq_true, true_or, or_true, upS_at, Int.reduceEq, Nat.reduceEqDiff, and_self, and_true, true_and, and_false, false_and, if_true, if_false, reduceIte, Int.reduceToNat] | ((with_reducible refine w_99_55 hP hT hlo hhi (fun v1 x1 => ?_)); have gy := yn_b x1) | (have y1 : ¬ okF t n lo hi b := (by rcases x1 with ⟨xa, xb⟩ | ⟨xa, xb⟩; exfalso; omega; exact xb); (with_reducible refine w_104_55 hP hT (fun T2 x2 => ?_))) | (have y1 : okF t n lo hi b := (by rcases x1 with ⟨xa, xb⟩ | ⟨xa, xb⟩; exact xb; exfalso; omega); have h3 : upS S 54 1 (S 55 5) 55 3 = fgE t n b := (nm_f hT hlo.1 y1).2; (with_reducible refine w_95_55w hP1 hS1 h3 (fun T3 x3 => ?_))) | with_reducible refine And.intro ?_ ?_ | with_reducible intro _)
  all_goals (try (first | omega | (exfalso; assumption) | skip))
theorem k85_0 : pg.1 85 0 = [.aload 0, .getfield 600, .invokeinterface 95 1, .aload 0, .iload 3, .iload 4, .invokeinterface 89 3, .ifCond .ne 19, .bipush 0, .freturn] := rfl
theorem a85_0 {tb : Tab} {d : Nat} {K : Out → AM → Prop} {ls st : List AV} {m : AM} : At tb d 85 K 0 ls st m = wpB tb (pg.2.1 85) (Runs tb pg d) K (At tb d 85 K) [.aload 0, .getfield 600, .invokeinterface 95 1, .aload 0, .iload 3, .iload 4, .invokeinterface 89 3, .ifCond .ne 19, .bipush 0, .freturn] ls st m := At.eq k85_0
theorem k85_19 : pg.1 85 19 = [.aload 1, .getfield 812, .iload 2, .aload 0, .getfield 601, .iastore, .bipush 1, .freturn] := rfl
theorem a85_19 {tb : Tab} {d : Nat} {K : Out → AM → Prop} {ls st : List AV} {m : AM} : At tb d 85 K 19 ls st m = wpB tb (pg.2.1 85) (Runs tb pg d) K (At tb d 85 K) [.aload 1, .getfield 812, .iload 2, .aload 0, .getfield 601, .iastore, .bipush 1, .freturn] ls st m := At.eq k85_19
theorem w_85 {n b wv f j lo hi : Int} (hw : isW w) (hR : RW S w r) (hA : AB r) {t : Int → Int} (hP : TPE S t n) (hT : TK0 S 55 t n b wv) (hf : S 55 3 = f) (hj : 0 ≤ j ∧ j < 5) (hlo : 0 ≤ lo ∧ lo ≤ 1000) (hhi : -1 ≤ hi ∧ hi ≤ 1000) (hK0 : ∀ e T m1, setP t n r (6 + j) lo hi f = .inl e → TK0 T 55 t n e e → PFr S T w → MS m m1 → K (.inl (some (vi 0))) (X T m1)) (hK : ∀ q e T m1, setP t n r (6 + j) lo hi f = .inr (q, e) → RW T w q → TK0 T 55 t n (skp t n e) wv → PFr S T w → T w 15 = S w 15 → MS m m1 → K (.inl (some (vi 1))) (X T m1)) : Runs tb pg (d + 3) 85 [vr 54, vr w, vi j, vi lo, vi hi] (X S m) K := by
  refine Runs.of (al := [vr 54, vr w, vi j, vi lo, vi hi]) (n := 0) ⟨54, _, _, rfl, xo_54⟩ rfl rfl trivial ?_
  have e0 : ¬ okF t n lo hi (skp t n f) → setP t n r (6 + j) lo hi f = .inl (skp t n f) := fun y => by
    unfold setP
    rw [numP_0 y]; rfl
  have e1 : okF t n lo hi (skp t n f) → setP t n r (6 + j) lo hi f = .inr (putR r (6 + j) (vlZ t (skp t n f) (fgE t n (skp t n f) - skp t n f)), fgE t n (skp t n f)) := fun y => by
    unfold setP
    rw [numP_1 y]; rfl
  repeat' (first | omega | (exact hK0 _ _ _ (e0 y2) x2 (PFr_2 (F2c_t (F2c_x x1.2.1) (F2c_x F2))) MS_r) | (refine hK _ _ _ _ (e1 y3) (RW_set hR3 hj) (TK0_f (up_55 hw (by decide)) x3) (PFr_u (PFr_2 hF3) (by decide)) ?_ MS_r) | simp only [w_aload, x_g600_54, w_call, w_iload, w_if, cI, Int.reduceToNat, w_iconst, w_zreturn, x_g812_w0, x_g601_54, x_iast, isA_w1, isA_w2, isA_w3, isA_w4, isA_w5, isA_w6, isA_w7, isA_w8, isA_w10, isA_w11, isA_w12, isA_w14, isA_w15, isA_w16, len_w1, len_w2, len_w3, len_w4, len_w5, len_w6, len_w7, len_w8, len_w10, len_w11, len_w12, len_w14, len_w15, len_w16, Int.cast_ofNat_Int, a85_0, a85_19, R32, List.getElem?_cons_zero, List.getElem?_cons_succ, List.set_cons_zero, List.set_cons_succ, List.cons_append, List.nil_append, List.replicate_succ, List.replicate_zero, List.take_succ_cons, List.take_zero, List.drop_succ_cons, List.drop_zero, List.reverse_cons, List.reverse_nil, List.length_cons, List.length_nil, Option.toList, true_and, and_true, eq_self, ↓reduceIte, not_true_eq_false, not_false_eq_true, true_or, or_true, upS_at, Int.reduceEq, Nat.reduceEqDiff, and_self, and_true, true_and, and_false, false_and, if_true, if_false, reduceIte, Int.reduceToNat, hw] | ((with_reducible refine w_95_55w hP hT hf (fun T1 x1 => ?_)); have hP1 := TPE_2 (F2c_x x1.2.1) hP; have hT1 := TK0_T x1) | with_reducible refine w_89 hP1 hT1 hlo hhi (fun y2 T2 F2 x2 => ?_) (fun y3 T3 F3 x3 v3 => ?_) | (have hF3 := F2c_t (F2c_x x1.2.1) F3; have hR3 := F2c_W hw hF3 hR; rw [v3]) | with_reducible refine And.intro ?_ ?_ | with_reducible intro _)
  all_goals (try (first | omega | (exfalso; assumption) | (rw [if_neg (by omega)]; exact congrFun (F2c_c hw hF3 (c := 0) (by decide)) 15) | (rw [show upS T3 (w + 15) j _ w = T3 w from if_neg (by omega)]; exact congrFun (F2c_c hw hF3 (c := 0) (by decide)) 15)))
theorem k88_0 : pg.1 88 0 = [.aload 1, .getfield 810, .getfield 0, .bipush 8, .if_icmp .lt 20, .aload 0, .getfield 600, .invokeinterface 104 1, .freturn] := rfl
theorem a88_0 {tb : Tab} {d : Nat} {K : Out → AM → Prop} {ls st : List AV} {m : AM} : At tb d 88 K 0 ls st m = wpB tb (pg.2.1 88) (Runs tb pg d) K (At tb d 88 K) [.aload 1, .getfield 810, .getfield 0, .bipush 8, .if_icmp .lt 20, .aload 0, .getfield 600, .invokeinterface 104 1, .freturn] ls st m := At.eq k88_0
theorem k88_20 : pg.1 88 20 = [.aload 0, .getfield 600, .invokeinterface 95 1, .aload 0, .bipush 0, .aload 1, .getfield 804, .bipush 1, .isub, .invokeinterface 89 3, .ifCond .ne 43, .bipush 0, .freturn] := rfl
theorem a88_20 {tb : Tab} {d : Nat} {K : Out → AM → Prop} {ls st : List AV} {m : AM} : At tb d 88 K 20 ls st m = wpB tb (pg.2.1 88) (Runs tb pg d) K (At tb d 88 K) [.aload 0, .getfield 600, .invokeinterface 95 1, .aload 0, .bipush 0, .aload 1, .getfield 804, .bipush 1, .isub, .invokeinterface 89 3, .ifCond .ne 43, .bipush 0, .freturn] ls st m := At.eq k88_20
theorem k88_43 : pg.1 88 43 = [.aload 0, .getfield 601, .istore 2, .aload 0, .getfield 600, .getfield 705, .iload 2, .if_icmp .ne 67, .aload 0, .getfield 600, .invokeinterface 104 1, .freturn] := rfl
theorem a88_43 {tb : Tab} {d : Nat} {K : Out → AM → Prop} {ls st : List AV} {m : AM} : At tb d 88 K 43 ls st m = wpB tb (pg.2.1 88) (Runs tb pg d) K (At tb d 88 K) [.aload 0, .getfield 601, .istore 2, .aload 0, .getfield 600, .getfield 705, .iload 2, .if_icmp .ne 67, .aload 0, .getfield 600, .invokeinterface 104 1, .freturn] ls st m := At.eq k88_43
theorem k88_67 : pg.1 88 67 = [.aload 0, .bipush 0, .aload 1, .getfield 804, .bipush 1, .isub, .invokeinterface 89 3, .ifCond .ne 83, .bipush 0, .freturn] := rfl
theorem a88_67 {tb : Tab} {d : Nat} {K : Out → AM → Prop} {ls st : List AV} {m : AM} : At tb d 88 K 67 ls st m = wpB tb (pg.2.1 88) (Runs tb pg d) K (At tb d 88 K) [.aload 0, .bipush 0, .aload 1, .getfield 804, .bipush 1, .isub, .invokeinterface 89 3, .ifCond .ne 83, .bipush 0, .freturn] ls st m := At.eq k88_67
theorem k88_83 : pg.1 88 83 = [.aload 0, .getfield 601, .istore 3, .aload 0, .bipush 1, .bipush 99, .invokeinterface 89 3, .ifCond .ne 100, .bipush 0, .freturn] := rfl
theorem a88_83 {tb : Tab} {d : Nat} {K : Out → AM → Prop} {ls st : List AV} {m : AM} : At tb d 88 K 83 ls st m = wpB tb (pg.2.1 88) (Runs tb pg d) K (At tb d 88 K) [.aload 0, .getfield 601, .istore 3, .aload 0, .bipush 1, .bipush 99, .invokeinterface 89 3, .ifCond .ne 100, .bipush 0, .freturn] ls st m := At.eq k88_83
theorem k88_100 : pg.1 88 100 = [.aload 1, .getfield 810, .iload 2, .iload 3, .aload 0, .getfield 601, .invokeinterface 14 4, .bipush 1, .freturn] := rfl
theorem a88_100 {tb : Tab} {d : Nat} {K : Out → AM → Prop} {ls st : List AV} {m : AM} : At tb d 88 K 100 ls st m = wpB tb (pg.2.1 88) (Runs tb pg d) K (At tb d 88 K) [.aload 1, .getfield 810, .iload 2, .iload 3, .aload 0, .getfield 601, .invokeinterface 14 4, .bipush 1, .freturn] ls st m := At.eq k88_100
theorem w_88 {n b wv f : Int} (hw : isW w) (hR : RW S w r) (hA : AB r) {t : Int → Int} (hP : TPE S t n) (hT : TK0 S 55 t n b wv) (hf : S 55 3 = f)  (hK0 : ∀ e T m1, dbtP t n r b f = .inl e → TK0 T 55 t n e e → PFr S T w → MS m m1 → K (.inl (some (vi 0))) (X T m1)) (hK : ∀ q e T m1, dbtP t n r b f = .inr (q, e) → RW T w q → TK0 T 55 t n (skp t n e) wv → PFr S T w → T w 15 = S w 15 → MS m m1 → K (.inl (some (vi 1))) (X T m1)) : Runs tb pg (d + 3) 88 [vr 54, vr w] (X S m) K := by
  refine Runs.of (al := [vr 54, vr w]) (n := 2) ⟨54, _, _, rfl, xo_54⟩ rfl rfl trivial ?_
  have b3 := hA.2.1.1
  have b4 := hA.2.1.2.1
  have b5 := hA.2.1.2.2.1
  have e0 := hR.1.1
  have e4 := hR.1.2.1
  have d0 := hR.2.2.2.1.1
  have s0 : ∀ (T : Nat → Int → Int), F2c S T → T (w + 9) 0 = r 5 ∧ T w 4 = r 4 := fun T h => ⟨by rw [F2c_c hw h (by decide)]; exact d0, by rw [show T w = S w from F2c_c hw h (c := 0) (by decide)]; exact e4⟩
  have hE8 : r 5 = 8 → dbtP t n r b f = .inl b := fun y => if_pos y
  have hA1 : r 5 ≠ 8 → ¬ okF t n 0 (r 4 - 1) (skp t n f) → dbtP t n r b f = .inl (skp t n f) := fun y y1 => by
    unfold dbtP; rw [if_neg y, numP_0 y1]; rfl
  have hA2 : r 5 ≠ 8 → okF t n 0 (r 4 - 1) (skp t n f) → ∀ a1, a1 = fgE t n (skp t n f) → ¬ okF t n 0 (r 4 - 1) (skp t n a1) → dbtP t n r b f = .inl (skp t n a1) := fun y y1 a1 e y2 => by
    subst e; unfold dbtP; rw [if_neg y, numP_1 y1]
    show bnd (numP t n 0 (r 4 - 1) _) _ = _
    rw [numP_0 y2]; rfl
  have hA3 : r 5 ≠ 8 → okF t n 0 (r 4 - 1) (skp t n f) → ∀ a1, a1 = fgE t n (skp t n f) → okF t n 0 (r 4 - 1) (skp t n a1) → ∀ p o, p = vlZ t (skp t n f) (fgE t n (skp t n f) - skp t n f) → o = vlZ t (skp t n a1) (fgE t n (skp t n a1) - skp t n a1) → (p = o → dbtP t n r b f = .inl (skp t n a1)) ∧ (p ≠ o → ∀ a2, a2 = fgE t n (skp t n a1) → (¬ okF t n 1 99 (skp t n a2) → dbtP t n r b f = .inl (skp t n a2)) ∧ (okF t n 1 99 (skp t n a2) → dbtP t n r b f = .inr (lendR r p o (vlZ t (skp t n a2) (fgE t n (skp t n a2) - skp t n a2)), fgE t n (skp t n a2)))) := fun y y1 a1 e y2 p o ep eo => by
    subst e ep eo
    have g : dbtP t n r b f = if vlZ t (skp t n f) (fgE t n (skp t n f) - skp t n f) = vlZ t (skp t n (fgE t n (skp t n f))) (fgE t n (skp t n (fgE t n (skp t n f))) - skp t n (fgE t n (skp t n f))) then .inl (skp t n (fgE t n (skp t n f))) else bnd (numP t n 1 99 (fgE t n (skp t n (fgE t n (skp t n f))))) fun k a3 => .inr (lendR r (vlZ t (skp t n f) (fgE t n (skp t n f) - skp t n f)) (vlZ t (skp t n (fgE t n (skp t n f))) (fgE t n (skp t n (fgE t n (skp t n f))) - skp t n (fgE t n (skp t n f)))) k, a3) := by
      unfold dbtP
      rw [if_neg y, numP_1 y1]
      show bnd (numP t n 0 (r 4 - 1) _) _ = _
      rw [numP_1 y2]
      rfl
    refine ⟨fun z => by rw [g, if_pos z], fun z a2 e2 => ?_⟩
    subst e2
    refine ⟨fun y3 => by rw [g, if_neg z, numP_0 y3]; rfl, fun y3 => by rw [g, if_neg z, numP_1 y3]; rfl⟩
  repeat' (first | omega | (exact hK0 _ _ _ q9 x9 f9 MS_r) | simp only [w_aload, x_g810_w0, x_g0_w9, w_iconst, w_ifc, cI, Int.reduceToNat, x_g600_54, w_call, w_zreturn, x_g804_w0, w_isub, w_if, x_g601_54, w_istore, x_g705_55, x_g705_58, w_iload, a88_0, a88_20, a88_43, a88_67, a88_83, a88_100, R32, List.getElem?_cons_zero, List.getElem?_cons_succ, List.set_cons_zero, List.set_cons_succ, List.cons_append, List.nil_append, List.replicate_succ, List.replicate_zero, List.take_succ_cons, List.take_zero, List.drop_succ_cons, List.drop_zero, List.reverse_cons, List.reverse_nil, List.length_cons, List.length_nil, Option.toList, true_and, and_true, eq_self, ↓reduceIte, not_true_eq_false, not_false_eq_true, true_or, or_true, upS_at, Int.reduceEq, Nat.reduceEqDiff, and_self, and_true, true_and, and_false, false_and, if_true, if_false, reduceIte, Int.reduceToNat, hw] | (have y0 : r 5 = 8 := (by omega); (with_reducible refine w_104_55 hP hT (fun T0 x0 => ?_)); have q9 := hE8 y0; have x9 := TK0_T x0; have f9 : PFr S T0 w := PFr_2 (F2c_x x0.2.1)) | (have y0 : r 5 ≠ 8 := (by omega); (with_reducible refine w_95_55w hP hT hf (fun T1 x1 => ?_)); have F1 := F2c_x x1.2.1; have hP1 := TPE_2 F1 hP; have hT1 := TK0_T x1; have c1 := s0 _ F1) | ((with_reducible refine w_89 hP1 hT1 ⟨?_, ?_⟩ ⟨?_, ?_⟩ (fun y2 T2 G2 x2 => ?_) (fun y3 T3 G3 x3 v3 => ?_)); rotate_right; rw [c1.2] at y3; have tv := tk_v x3.2.2.2.2.2.2; have F3 := F2c_t F1 G3; have c3 := s0 _ F3; have hP3 := TPE_2 F3 hP; have pr3 := y3.2; rw [← v3] at pr3) | (rw [c1.2] at y2; have q9 := hA1 y0 y2; have x9 := x2; have f9 : PFr S T2 w := PFr_2 (F2c_t F1 (F2c_x G2))) | (have ye : T3 55 5 = T3 54 1 := (by omega); have y4 : okF t n 0 (r 4 - 1) (skp t n (fgE t n (skp t n f))) := num_of x3.2.2.2.2.2.2 (by omega) (by omega) (by omega); have o4 := (nm_f x3 (by decide) y4).1; (with_reducible refine w_104_55 hP3 x3 (fun T4 x4 => ?_)); have q9 := (hA3 y0 y3 _ rfl y4 _ _ rfl rfl).1 (by rw [← v3, ← o4]; exact ye.symm); have x9 := TK0_T x4; have f9 : PFr S T4 w := PFr_2 (F2c_t F3 (F2c_x x4.2.1))) | ((with_reducible refine w_89 hP3 x3 ⟨?_, ?_⟩ ⟨?_, ?_⟩ (fun y5 T5 G5 x5 => ?_) (fun y6 T6 G6 x6 v6 => ?_)); rotate_right; rw [c3.2] at y6; have o6 := (nm_f x3 (by decide) y6).1; have F6 := F2c_t F3 G6; have c6 := s0 _ F6; have hP6 := TPE_2 F6 hP; have ne6 : T3 54 1 ≠ T6 54 1 := (by omega)) | (rw [c3.2] at y5; have q9 := hA2 y0 y3 _ rfl y5; have x9 := x5; have f9 : PFr S T5 w := PFr_2 (F2c_t F3 (F2c_x G5))) | ((with_reducible refine w_89 hP6 x6 ⟨?_, ?_⟩ ⟨?_, ?_⟩ (fun y7 T7 G7 x7 => ?_) (fun y8 T8 G8 x8 v8 => ?_)); rotate_right; have F8 := F2c_t F6 G8; have c8 := s0 _ F8; have hR8 := F2c_W hw F8 hR; have e8 := ((hA3 y0 y3 _ rfl y6 _ _ rfl rfl).2 (by rw [← v3, ← v6]; exact ne6) _ rfl).2 y8; rw [← v3, ← v6, ← v8] at e8) | (have q9 := ((hA3 y0 y3 _ rfl y6 _ _ rfl rfl).2 (by rw [← v3, ← v6]; exact ne6) _ rfl).1 y7; have x9 := x7; have f9 : PFr S T7 w := PFr_2 (F2c_t F6 (F2c_x G7)); clear y7) | with_reducible refine w_14 hw ⟨?_, ?_⟩ ?_ | (refine hK _ _ _ _ e8 (RW_ln hA hR8 (by omega)) (TK0_f (q := 55) (addS_x ?_ ?_ ?_ ?_) x8) (fun a a1 a2 a3 => (addS_x (by omega) (by omega) (by omega) (by omega)).trans (F8 a a1 a2)) ?_ MS_r) | with_reducible refine And.intro ?_ ?_ | with_reducible intro _)
  all_goals (try (first | omega | (exfalso; assumption) | (unfold isW at hw; omega) | (rw [addS_x (by omega) (by omega) (by omega) (by omega)]; exact congrFun (F2c_c hw F8 (c := 0) (by decide)) 15)))
theorem k86_0 : pg.1 86 0 = [.aload 1, .getfield 800, .bipush 6, .if_icmp .lt 17, .aload 0, .getfield 600, .invokeinterface 104 1, .freturn] := rfl
theorem a86_0 {tb : Tab} {d : Nat} {K : Out → AM → Prop} {ls st : List AV} {m : AM} : At tb d 86 K 0 ls st m = wpB tb (pg.2.1 86) (Runs tb pg d) K (At tb d 86 K) [.aload 1, .getfield 800, .bipush 6, .if_icmp .lt 17, .aload 0, .getfield 600, .invokeinterface 104 1, .freturn] ls st m := At.eq k86_0
theorem k86_17 : pg.1 86 17 = [.aload 0, .getfield 600, .invokeinterface 95 1, .aload 1, .getfield 800, .istore 2, .aload 0, .getfield 600, .ldc 1, .invokeinterface 102 2, .ifCond .eq 51, .aload 0, .bipush 0, .bipush 9, .invokeinterface 89 3, .ifCond .ne 53, .jsr 51] := rfl
theorem a86_17 {tb : Tab} {d : Nat} {K : Out → AM → Prop} {ls st : List AV} {m : AM} : At tb d 86 K 17 ls st m = wpB tb (pg.2.1 86) (Runs tb pg d) K (At tb d 86 K) [.aload 0, .getfield 600, .invokeinterface 95 1, .aload 1, .getfield 800, .istore 2, .aload 0, .getfield 600, .ldc 1, .invokeinterface 102 2, .ifCond .eq 51, .aload 0, .bipush 0, .bipush 9, .invokeinterface 89 3, .ifCond .ne 53, .jsr 51] ls st m := At.eq k86_17
theorem k86_51 : pg.1 86 51 = [.bipush 0, .freturn] := rfl
theorem a86_51 {tb : Tab} {d : Nat} {K : Out → AM → Prop} {ls st : List AV} {m : AM} : At tb d 86 K 51 ls st m = wpB tb (pg.2.1 86) (Runs tb pg d) K (At tb d 86 K) [.bipush 0, .freturn] ls st m := At.eq k86_51
theorem k86_53 : pg.1 86 53 = [.aload 1, .getfield 801, .iload 2, .aload 0, .getfield 601, .iastore, .aload 0, .getfield 600, .ldc 2, .invokeinterface 102 2, .ifCond .eq 85, .aload 0, .bipush 1, .bipush 20, .invokeinterface 89 3, .ifCond .ne 87, .jsr 85] := rfl
theorem a86_53 {tb : Tab} {d : Nat} {K : Out → AM → Prop} {ls st : List AV} {m : AM} : At tb d 86 K 53 ls st m = wpB tb (pg.2.1 86) (Runs tb pg d) K (At tb d 86 K) [.aload 1, .getfield 801, .iload 2, .aload 0, .getfield 601, .iastore, .aload 0, .getfield 600, .ldc 2, .invokeinterface 102 2, .ifCond .eq 85, .aload 0, .bipush 1, .bipush 20, .invokeinterface 89 3, .ifCond .ne 87, .jsr 85] ls st m := At.eq k86_53
theorem k86_85 : pg.1 86 85 = [.bipush 0, .freturn] := rfl
theorem a86_85 {tb : Tab} {d : Nat} {K : Out → AM → Prop} {ls st : List AV} {m : AM} : At tb d 86 K 85 ls st m = wpB tb (pg.2.1 86) (Runs tb pg d) K (At tb d 86 K) [.bipush 0, .freturn] ls st m := At.eq k86_85
theorem k86_87 : pg.1 86 87 = [.aload 1, .getfield 803, .iload 2, .aload 0, .getfield 601, .iastore, .aload 1, .getfield 802, .iload 2, .bipush 0, .iastore, .aload 0, .getfield 600, .ldc 3, .invokeinterface 97 2, .ifCond .eq 145, .aload 0, .getfield 600, .invokeinterface 95 1, .aload 0, .bipush 0, .bipush 99, .invokeinterface 89 3, .ifCond .ne 135, .bipush 0, .freturn] := rfl
theorem a86_87 {tb : Tab} {d : Nat} {K : Out → AM → Prop} {ls st : List AV} {m : AM} : At tb d 86 K 87 ls st m = wpB tb (pg.2.1 86) (Runs tb pg d) K (At tb d 86 K) [.aload 1, .getfield 803, .iload 2, .aload 0, .getfield 601, .iastore, .aload 1, .getfield 802, .iload 2, .bipush 0, .iastore, .aload 0, .getfield 600, .ldc 3, .invokeinterface 97 2, .ifCond .eq 145, .aload 0, .getfield 600, .invokeinterface 95 1, .aload 0, .bipush 0, .bipush 99, .invokeinterface 89 3, .ifCond .ne 135, .bipush 0, .freturn] ls st m := At.eq k86_87
theorem k86_135 : pg.1 86 135 = [.aload 1, .getfield 802, .iload 2, .aload 0, .getfield 601, .iastore, .jsr 145] := rfl
theorem a86_135 {tb : Tab} {d : Nat} {K : Out → AM → Prop} {ls st : List AV} {m : AM} : At tb d 86 K 135 ls st m = wpB tb (pg.2.1 86) (Runs tb pg d) K (At tb d 86 K) [.aload 1, .getfield 802, .iload 2, .aload 0, .getfield 601, .iastore, .jsr 145] ls st m := At.eq k86_135
theorem k86_145 : pg.1 86 145 = [.aload 1, .dup, .getfield 800, .bipush 1, .iadd, .putfield 800, .bipush 1, .freturn] := rfl
theorem a86_145 {tb : Tab} {d : Nat} {K : Out → AM → Prop} {ls st : List AV} {m : AM} : At tb d 86 K 145 ls st m = wpB tb (pg.2.1 86) (Runs tb pg d) K (At tb d 86 K) [.aload 1, .dup, .getfield 800, .bipush 1, .iadd, .putfield 800, .bipush 1, .freturn] ls st m := At.eq k86_145
theorem w_86 {n b wv f : Int} (hw : isW w) (hR : RW S w r) (hA : AB r) {t : Int → Int} (hP : TPE S t n) (hT : TK0 S 55 t n b wv) (hf : S 55 3 = f) (hX : tb.2.1 = strB) (hK0 : ∀ e T m1, fldP t n r b f = .inl e → TK0 T 55 t n e e → PFr S T w → MS m m1 → K (.inl (some (vi 0))) (X T m1)) (hK : ∀ q e T m1, fldP t n r b f = .inr (q, e) → RW T w q → TK0 T 55 t n (skp t n e) wv → PFr S T w → T w 15 = S w 15 → MS m m1 → K (.inl (some (vi 1))) (X T m1)) : Runs tb pg (d + 7) 86 [vr 54, vr w] (X S m) K := by
  refine Runs.of (al := [vr 54, vr w]) (n := 1) ⟨54, _, _, rfl, xo_54⟩ rfl rfl trivial ?_
  have b3 := hA.2.1.1
  have b4 := hA.2.1.2.1
  have b5 := hA.2.1.2.2.1
  have e0 := hR.1.1
  have e4 := hR.1.2.1
  have s0 : ∀ (T : Nat → Int → Int), T w = S w → T w 0 = r 3 := fun T h => by rw [h]; exact e0
  have qA : r 3 = 6 → fldP t n r b f = .inl b := fun y => if_pos y
  have qB : r 3 ≠ 6 → ¬ wdP t n (skp t n f) (strB 1) → fldP t n r b f = .inl (skp t n f) := fun y y1 => by
    unfold fldP; rw [if_neg y, aftP_0 y1]; rfl
  have qC : r 3 ≠ 6 → wdP t n (skp t n f) (strB 1) → ¬ okF t n 0 9 (skp t n (skp t n f + (strB 1).length)) → fldP t n r b f = .inl (skp t n (skp t n f + (strB 1).length)) := fun y y1 y2 => by
    unfold fldP; rw [if_neg y, aft_n y1 y2]; rfl
  have qD : r 3 ≠ 6 → ∀ s a1, aftP t n (strB 1) 0 9 f = .inr (s, a1) → fldP t n r b f = bnd (aftP t n (strB 2) 1 20 a1) fun rm a2 => bnd (snwQ t n a2) fun sn a3 => .inr (fldR r s sn rm, a3) := fun y s a1 e => by
    unfold fldP; rw [if_neg y, e]; rfl
  have qE : r 3 ≠ 6 → ∀ s a1 rm a2, aftP t n (strB 1) 0 9 f = .inr (s, a1) → aftP t n (strB 2) 1 20 a1 = .inr (rm, a2) → fldP t n r b f = bnd (snwQ t n a2) fun sn a3 => .inr (fldR r s sn rm, a3) := fun y s a1 rm a2 e e2 => by
    rw [qD y s a1 e, e2]; rfl
  have sQ0 : ∀ a2, ¬ wdP t n (skp t n a2) (strB 3) → snwQ t n a2 = .inr (0, skp t n a2) := fun a2 y => if_neg y
  have sQ1 : ∀ a2, wdP t n (skp t n a2) (strB 3) → snwQ t n a2 = numP t n 0 99 (skp t n a2 + (strB 3).length) := fun a2 y => if_pos y
  repeat' (first | omega | (exact hK0 _ _ _ q9 x9 f9 MS_r) | (refine hK _ _ _ _ q8 (RW_fd hA (by omega) hR8 g1 g2 g3) (TK0_f (up_550 hw) x8) (PFr_0 f8) ?_ MS_r) | simp only [w_aload, x_g800_w0, w_iconst, w_ifc, cI, Int.reduceToNat, x_g600_54, w_call, w_zreturn, w_istore, w_ldc, w_if, w_fall, x_g801_w0, w_iload, x_g601_54, x_iast, x_g803_w0, x_g802_w0, w_dupi, w_dupr, w_iadd, x_p800_w0, isA_w1, isA_w2, isA_w3, isA_w4, isA_w5, isA_w6, isA_w7, isA_w8, isA_w10, isA_w11, isA_w12, isA_w14, isA_w15, isA_w16, len_w1, len_w2, len_w3, len_w4, len_w5, len_w6, len_w7, len_w8, len_w10, len_w11, len_w12, len_w14, len_w15, len_w16, Int.cast_ofNat_Int, a86_0, a86_17, a86_51, a86_53, a86_85, a86_87, a86_135, a86_145, R32, List.getElem?_cons_zero, List.getElem?_cons_succ, List.set_cons_zero, List.set_cons_succ, List.cons_append, List.nil_append, List.replicate_succ, List.replicate_zero, List.take_succ_cons, List.take_zero, List.drop_succ_cons, List.drop_zero, List.reverse_cons, List.reverse_nil, List.length_cons, List.length_nil, Option.toList, true_and, and_true, eq_self, ↓reduceIte, not_true_eq_false, not_false_eq_true, true_or, or_true, hw] | (have y0 : r 3 = 6 := (by omega); (with_reducible refine w_104_55 hP hT (fun T0 x0 => ?_)); have q9 := qA y0; have x9 := TK0_T x0; have f9 : PFr S T0 w := PFr_2 (F2c_x x0.2.1)) | (have y0 : r 3 ≠ 6 := (by omega); (with_reducible refine w_95_55w hP hT hf (fun T1 x1 => ?_)); have F1 := F2c_x x1.2.1; have hP1 := TPE_2 F1 hP; have hT1 := TK0_T x1; have c1 := s0 T1 (F2c_c hw F1 (c := 0) (by decide))) | (rw [c1]) | ((with_reducible refine w_102_55 (i := 1) hP1 hT1 hX (by decide) (strB_l 1 (by decide)) (fun y2 T2 x2 => ?_) (fun y3 T3 x3 => ?_))) | (have q9 := qB y0 y2; have x9 := TK0_T x2; have f9 : PFr S T2 w := PFr_2 (F2c_t F1 (F2c_x x2.2.1)); clear y2) | (have F3 := F2c_t F1 (F2c_x x3.2.1); have hP3 := TPE_2 F3 hP; have hT3 := TK0_T x3; (with_reducible refine w_89 hP3 hT3 ⟨?_, ?_⟩ ⟨?_, ?_⟩ (fun y4 T4 G4 x4 => ?_) (fun y5 T5 G5 x5 v5 => ?_)); rotate_right; have F5 := F2c_t F3 G5; have c5 := F2c_c hw F5 (c := 0) (by decide); have hR5 := F2c_W hw F5 hR; have e1 := aft_y y3 y5; rw [← v5] at e1; have hP6 : TPE (upS T5 (w + 1) (r 3) (T5 54 1)) t n := TPE_f (TPE_2 F5 hP) (up_1c hw (by decide)); have hT6 : TK0 (upS T5 (w + 1) (r 3) (T5 54 1)) 55 t n (skp t n (fgE t n (skp t n (skp t n f + (strB 1).length)))) wv := TK0_f (up_55 hw (by decide)) x5) | (have q9 := qC y0 y3 y4; have x9 := x4; have f9 : PFr S T4 w := PFr_2 (F2c_t F3 (F2c_x G4)); clear y4) | ((with_reducible refine w_102_55 (i := 2) hP6 hT6 hX (by decide) (strB_l 2 (by decide)) (fun y6 T6 x6 => ?_) (fun y7 T7 x7 => ?_))) | (have q9 := (by rw [qD y0 _ _ e1, aftP_0 y6]; rfl : fldP t n r b f = .inl (skp t n (fgE t n (skp t n (skp t n f + (strB 1).length))))); have x9 := TK0_T x6; have f9 : PFr S T6 w := PFr_t (PFr_u (PFr_2 F5) (by decide)) (PFr_2 (F2c_x x6.2.1)); clear y6) | (have F7 := F2c_x x7.2.1; have hP7 := TPE_2 F7 hP6; have hT7 := TK0_T x7; (with_reducible refine w_89 hP7 hT7 ⟨?_, ?_⟩ ⟨?_, ?_⟩ (fun y10 T10 G10 x10 => ?_) (fun y11 T11 G11 x11 v11 => ?_)); rotate_right; have F11 := F2c_t F7 G11; have e2 := aft_y y7 y11; rw [← v11] at e2; have g11 := congrFun (F2c_c hw F11 (c := 1) (by decide)) (r 3); rw [upS_at, if_pos ⟨rfl, rfl⟩] at g11; have hR11 := F2c_W hw F11 (RW_b (x := T5 54 1) hR5 (Or.inl rfl)); have P11 : PFr S T11 w := PFr_t (PFr_u (PFr_2 F5) (by decide)) (PFr_2 F11); have w11 := congrFun (F2c_c hw F11 (c := 0) (by decide)) 15; have hR12 := RW_b (c := 2) (x := 0) (RW_b (c := 3) (x := T11 54 1) hR11 (Or.inr (Or.inr rfl))) (Or.inr (Or.inl rfl)); have hP12 : TPE (upS (upS T11 (w + 3) (r 3) (T11 54 1)) (w + 2) (r 3) 0) t n := TPE_f (TPE_P hw P11 hP) ((up_1c hw (by decide)).trans (up_1c hw (by decide))); have hT12 : TK0 (upS (upS T11 (w + 3) (r 3) (T11 54 1)) (w + 2) (r 3) 0) 55 t n _ wv := TK0_f ((up_55 hw (by decide)).trans (up_55 hw (by decide))) x11; have P12 : PFr S (upS (upS T11 (w + 3) (r 3) (T11 54 1)) (w + 2) (r 3) 0) w := PFr_u (PFr_u P11 (by decide)) (by decide)) | (have q9 := (by rw [qD y0 _ _ e1, aft_n y7 y10]; rfl : fldP t n r b f = .inl _); have x9 := x10; have f9 : PFr S T10 w := PFr_t (PFr_t (PFr_u (PFr_2 F5) (by decide)) (PFr_2 F7)) (PFr_2 (F2c_x G10)); clear y10) | (obtain ⟨Z12, hZ⟩ : ∃ Z, Z = upS (upS T11 (w + 3) (r 3) (T11 54 1)) (w + 2) (r 3) 0 := ⟨_, rfl⟩; have j1 : Z12 (w + 1) (r 3) = T5 54 1 := (by rw [hZ, upS_at, if_neg (by omega), upS_at, if_neg (by omega)]; exact g11); have j2 : Z12 (w + 2) (r 3) = 0 := (by rw [hZ, upS_at, if_pos ⟨rfl, rfl⟩]); have j3 : Z12 (w + 3) (r 3) = T11 54 1 := (by rw [hZ, upS_at, if_neg (by omega), upS_at, if_pos ⟨rfl, rfl⟩]); have j0 : Z12 w = S w := (by rw [hZ]; funext i; rw [upS_at, if_neg (by omega), upS_at, if_neg (by omega)]; exact (congrFun (F2c_c hw F11 (c := 0) (by decide)) i).trans ((show upS T5 (w + 1) (r 3) (T5 54 1) w i = T5 w i from (by rw [upS_at, if_neg (by omega)])).trans (congrFun c5 i))); rw [← hZ] at hR12 hP12 hT12 P12 ⊢; (with_reducible refine w_97_55 (i := 3) hP12 hT12 hX (by decide) (strB_l 3 (by decide)) (fun v13 x13 => ?_)); have gy13 := yn_b x13; clear hZ g11) | (have n13 : ¬ wdP t n (skp t n (fgE t n (skp t n (skp t n (fgE t n (skp t n (skp t n f + (strB 1).length))) + (strB 2).length)))) (strB 3) := (by rcases x13 with ⟨xa, xb⟩ | ⟨xa, xb⟩; exfalso; omega; exact xb); have q8 := (by rw [qE y0 _ _ _ _ e1 e2, sQ0 _ n13]; rfl : fldP t n r b f = .inr (fldR r (T5 54 1) 0 (T11 54 1), skp t n (fgE t n (skp t n (skp t n (fgE t n (skp t n (skp t n f + (strB 1).length))) + (strB 2).length))))); have x8 : TK0 Z12 55 t n (skp t n (skp t n (fgE t n (skp t n (skp t n (fgE t n (skp t n (skp t n f + (strB 1).length))) + (strB 2).length))))) wv := (by rw [skp_skp]; exact hT12); have hR8 := hR12; have g1 := j1; have g2 := j2; have g3 := j3; have f8 := P12; have j8 := congrFun j0 15; rw [s0 Z12 j0]; clear x13) | (have y13 : wdP t n (skp t n (fgE t n (skp t n (skp t n (fgE t n (skp t n (skp t n f + (strB 1).length))) + (strB 2).length)))) (strB 3) := (by rcases x13 with ⟨xa, xb⟩ | ⟨xa, xb⟩; exact xb; exfalso; omega); (with_reducible refine w_95_55w hP12 hT12 (wd_f hT12 (strB_l 3 (by decide)) y13) (fun T14 x14 => ?_)); have F14 := F2c_x x14.2.1; have hP14 := TPE_2 F14 hP12; have hT14 := TK0_T x14; clear x13) | ((with_reducible refine w_89 hP14 hT14 ⟨?_, ?_⟩ ⟨?_, ?_⟩ (fun y15 T15 G15 x15 => ?_) (fun y16 T16 G16 x16 v16 => ?_)); rotate_right; have F16 := F2c_t F14 G16; have hR16 := F2c_W hw F16 hR12; have k1 := congrFun (F2c_c hw F16 (c := 1) (by decide)) (r 3); have k3 := congrFun (F2c_c hw F16 (c := 3) (by decide)) (r 3); rw [j1] at k1; rw [j3] at k3; have k0 : T16 w = S w := (F2c_c hw F16 (c := 0) (by decide)).trans j0; have P16 : PFr S T16 w := PFr_t P12 (PFr_2 F16)) | (have q9 := (by rw [qE y0 _ _ _ _ e1 e2, sQ1 _ y13, numP_0 y15]; rfl : fldP t n r b f = .inl _); have x9 := x15; have f9 : PFr S T15 w := PFr_t (PFr_t P12 (PFr_2 F14)) (PFr_2 (F2c_x G15)); clear y15) | (have q8 := (by rw [qE y0 _ _ _ _ e1 e2, sQ1 _ y13, numP_1 y16, ← v16]; rfl : fldP t n r b f = .inr (fldR r (T5 54 1) (T16 54 1) (T11 54 1), _)); have hR8 := RW_b (c := 2) (x := T16 54 1) hR16 (Or.inr (Or.inl rfl)); have x8 : TK0 (upS T16 (w + 2) (r 3) (T16 54 1)) 55 t n _ wv := TK0_f (up_55 hw (by decide)) x16; have g1 : upS T16 (w + 2) (r 3) (T16 54 1) (w + 1) (r 3) = T5 54 1 := (by rw [upS_at, if_neg (by omega)]; exact k1); have g2 : upS T16 (w + 2) (r 3) (T16 54 1) (w + 2) (r 3) = T16 54 1 := (by rw [upS_at, if_pos ⟨rfl, rfl⟩]); have g3 : upS T16 (w + 2) (r 3) (T16 54 1) (w + 3) (r 3) = T11 54 1 := (by rw [upS_at, if_neg (by omega)]; exact k3); have f8 := PFr_u (i := r 3) (x := T16 54 1) (c := 2) P16 (by decide); have j7 : upS T16 (w + 2) (r 3) (T16 54 1) w = S w := (by funext i; rw [upS_at, if_neg (by omega)]; exact congrFun k0 i); have j8 := congrFun j7 15; rw [s0 _ j7]; clear v16) | with_reducible refine And.intro ?_ ?_ | with_reducible intro _)
  all_goals (try (first | omega | (exfalso; assumption) | (rw [upS_at, if_neg (by omega)]; exact j8)))
theorem k87_0 : pg.1 87 0 = [.aload 1, .getfield 804, .bipush 6, .if_icmp .lt 17, .aload 0, .getfield 600, .invokeinterface 104 1, .freturn] := rfl
theorem a87_0 {tb : Tab} {d : Nat} {K : Out → AM → Prop} {ls st : List AV} {m : AM} : At tb d 87 K 0 ls st m = wpB tb (pg.2.1 87) (Runs tb pg d) K (At tb d 87 K) [.aload 1, .getfield 804, .bipush 6, .if_icmp .lt 17, .aload 0, .getfield 600, .invokeinterface 104 1, .freturn] ls st m := At.eq k87_0
theorem k87_17 : pg.1 87 17 = [.aload 0, .getfield 600, .invokeinterface 95 1, .aload 1, .getfield 804, .istore 2, .aload 0, .getfield 600, .invokeinterface 100 1, .istore 3, .iload 3, .bipush (-1), .if_icmp .ne 50, .aload 0, .getfield 600, .invokeinterface 104 1, .freturn] := rfl
theorem a87_17 {tb : Tab} {d : Nat} {K : Out → AM → Prop} {ls st : List AV} {m : AM} : At tb d 87 K 17 ls st m = wpB tb (pg.2.1 87) (Runs tb pg d) K (At tb d 87 K) [.aload 0, .getfield 600, .invokeinterface 95 1, .aload 1, .getfield 804, .istore 2, .aload 0, .getfield 600, .invokeinterface 100 1, .istore 3, .iload 3, .bipush (-1), .if_icmp .ne 50, .aload 0, .getfield 600, .invokeinterface 104 1, .freturn] ls st m := At.eq k87_17
theorem k87_50 : pg.1 87 50 = [.aload 1, .getfield 805, .iload 2, .iload 3, .iastore, .aload 1, .getfield 807, .iload 2, .bipush (-1), .iastore, .bipush 0, .istore 4, .jsr 67] := rfl
theorem a87_50 {tb : Tab} {d : Nat} {K : Out → AM → Prop} {ls st : List AV} {m : AM} : At tb d 87 K 50 ls st m = wpB tb (pg.2.1 87) (Runs tb pg d) K (At tb d 87 K) [.aload 1, .getfield 805, .iload 2, .iload 3, .iastore, .aload 1, .getfield 807, .iload 2, .bipush (-1), .iastore, .bipush 0, .istore 4, .jsr 67] ls st m := At.eq k87_50
theorem k87_67 : pg.1 87 67 = [.iload 4, .iload 3, .if_icmp .ge 100, .aload 1, .getfield 806, .bipush 6, .iload 2, .imul, .iload 4, .iadd, .aload 0, .getfield 600, .iload 4, .invokeinterface 101 2, .iastore, .iinc 4 1, .goto 67] := rfl
theorem a87_67 {tb : Tab} {d : Nat} {K : Out → AM → Prop} {ls st : List AV} {m : AM} : At tb d 87 K 67 ls st m = wpB tb (pg.2.1 87) (Runs tb pg d) K (At tb d 87 K) [.iload 4, .iload 3, .if_icmp .ge 100, .aload 1, .getfield 806, .bipush 6, .iload 2, .imul, .iload 4, .iadd, .aload 0, .getfield 600, .iload 4, .invokeinterface 101 2, .iastore, .iinc 4 1, .goto 67] ls st m := At.eq k87_67
theorem k87_100 : pg.1 87 100 = [.aload 1, .dup, .getfield 804, .bipush 1, .iadd, .putfield 804, .aload 0, .getfield 600, .invokeinterface 95 1, .aload 0, .getfield 600, .ldc 5, .invokeinterface 97 2, .ifCond .ne 131, .bipush 1, .freturn] := rfl
theorem a87_100 {tb : Tab} {d : Nat} {K : Out → AM → Prop} {ls st : List AV} {m : AM} : At tb d 87 K 100 ls st m = wpB tb (pg.2.1 87) (Runs tb pg d) K (At tb d 87 K) [.aload 1, .dup, .getfield 804, .bipush 1, .iadd, .putfield 804, .aload 0, .getfield 600, .invokeinterface 95 1, .aload 0, .getfield 600, .ldc 5, .invokeinterface 97 2, .ifCond .ne 131, .bipush 1, .freturn] ls st m := At.eq k87_100
theorem k87_131 : pg.1 87 131 = [.aload 0, .getfield 600, .invokeinterface 95 1, .aload 0, .getfield 600, .bipush 0, .aload 1, .getfield 800, .bipush 1, .isub, .invokeinterface 99 3, .ifCond .ne 163, .aload 0, .getfield 600, .invokeinterface 104 1, .freturn] := rfl
theorem a87_131 {tb : Tab} {d : Nat} {K : Out → AM → Prop} {ls st : List AV} {m : AM} : At tb d 87 K 131 ls st m = wpB tb (pg.2.1 87) (Runs tb pg d) K (At tb d 87 K) [.aload 0, .getfield 600, .invokeinterface 95 1, .aload 0, .getfield 600, .bipush 0, .aload 1, .getfield 800, .bipush 1, .isub, .invokeinterface 99 3, .ifCond .ne 163, .aload 0, .getfield 600, .invokeinterface 104 1, .freturn] ls st m := At.eq k87_131
theorem k87_163 : pg.1 87 163 = [.aload 0, .getfield 600, .getfield 705, .istore 4, .aload 1, .getfield 802, .iload 4, .iaload, .ifCond .le 192, .aload 1, .iload 4, .invokeinterface 110 2, .iload 3, .if_icmp .ge 200, .jsr 192] := rfl
theorem a87_163 {tb : Tab} {d : Nat} {K : Out → AM → Prop} {ls st : List AV} {m : AM} : At tb d 87 K 163 ls st m = wpB tb (pg.2.1 87) (Runs tb pg d) K (At tb d 87 K) [.aload 0, .getfield 600, .getfield 705, .istore 4, .aload 1, .getfield 802, .iload 4, .iaload, .ifCond .le 192, .aload 1, .iload 4, .invokeinterface 110 2, .iload 3, .if_icmp .ge 200, .jsr 192] ls st m := At.eq k87_163
theorem k87_192 : pg.1 87 192 = [.aload 0, .getfield 600, .invokeinterface 104 1, .freturn] := rfl
theorem a87_192 {tb : Tab} {d : Nat} {K : Out → AM → Prop} {ls st : List AV} {m : AM} : At tb d 87 K 192 ls st m = wpB tb (pg.2.1 87) (Runs tb pg d) K (At tb d 87 K) [.aload 0, .getfield 600, .invokeinterface 104 1, .freturn] ls st m := At.eq k87_192
theorem k87_200 : pg.1 87 200 = [.aload 0, .getfield 600, .invokeinterface 95 1, .aload 1, .iload 2, .iload 4, .aload 1, .iload 2, .iload 4, .invokeinterface 125 3, .invokeinterface 122 4, .bipush 1, .freturn] := rfl
theorem a87_200 {tb : Tab} {d : Nat} {K : Out → AM → Prop} {ls st : List AV} {m : AM} : At tb d 87 K 200 ls st m = wpB tb (pg.2.1 87) (Runs tb pg d) K (At tb d 87 K) [.aload 0, .getfield 600, .invokeinterface 95 1, .aload 1, .iload 2, .iload 4, .aload 1, .iload 2, .iload 4, .invokeinterface 125 3, .invokeinterface 122 4, .bipush 1, .freturn] ls st m := At.eq k87_200
theorem w_87_100 {q : Int → Int} {U : Nat → Int → Int} {n b wv f p k z : Int} (hw : isW w) (hA : AB q) (hR : RW (upS U w 4 (p + 1)) w q) (u4 : U w 4 = p) (hp : 0 ≤ p ∧ p < 6) (q4 : q 4 = p + 1) (qs : pr q p 0 = k) (hk : 1 ≤ k ∧ k ≤ 6) (qo : pr q p 1 = -1) {t : Int → Int} (hP : TPE U t n) (hT : TK0 U 55 t n b wv) (hf : U 55 3 = f) (hF : PFr S U w) (u15 : U w 15 = S w 15) (hl : LWo m (S w 15) (lawD q)) (hX : tb.2.1 = strB)
    (hK0 : ∀ e T m1, onP evL t n q p f = .inl e → TK0 T 55 t n e e → PFr S T w → MS m m1 → K (.inl (some (vi 0))) (X T m1))
    (hK : ∀ q2 e T m1, onP evL t n q p f = .inr (q2, e) → RW T w q2 → TK0 T 55 t n (skp t n e) wv → PFr S T w → T w 15 = S w 15 → MS m m1 → K (.inl (some (vi 1))) (X T m1)) : At tb (d + 5) 87 K 100 [vr 54, vr w, vi p, vi k, vi z] [] (X U m) := by
  have b3 := hA.2.1.1
  obtain ⟨Z, hZ⟩ : ∃ Z, Z = upS U w 4 (p + 1) := ⟨_, rfl⟩
  have hPZ : TPE Z t n := TPE_f hP (by rw [hZ]; exact (if_neg (isW_c hw (c := 0) (by decide)).2.2.symm : upS U (w + 0) 4 (p + 1) 1 = U 1))
  have z55 : Z 55 = U 55 := by rw [hZ]; exact up_550 hw
  have hTZ : TK0 Z 55 t n b wv := TK0_f z55 hT
  have hfZ : Z 55 3 = f := by rw [z55]; exact hf
  have FZ : PFr S Z w := by rw [hZ]; exact PFr_0 hF
  have z15 : Z w 15 = S w 15 := by rw [hZ, upS_at, if_neg (by omega)]; exact u15
  rw [← hZ] at hR
  have s0 : ∀ (T : Nat → Int → Int), F2c Z T → T w 0 = q 3 ∧ T w 15 = S w 15 ∧ (∀ g, 0 ≤ g → g < q 3 → T (w + 2) g = fr q g 1) := fun T h => by
    have c0 : T w = Z w := F2c_c hw h (c := 0) (by decide)
    refine ⟨by rw [c0]; exact hR.1.1, by rw [c0]; exact z15, fun g g0 g1 => ?_⟩
    rw [F2c_c hw h (c := 2) (by decide)]
    exact (hR.2.1 g g0 g1).2.1
  rw [a87_100]
  repeat' (first | omega | (exact hK0 _ _ _ q9 x9 f9 MS_r) | (exact hK _ _ _ _ q8 hR1 x8 f8 (s0 _ F1).2.1 MS_r) | (refine hK _ _ _ _ q8 (RW_pt hA hR8 hp.1 (by omega)) (TK0_f ((ptS_o (by unfold isW at hw; omega) (by unfold isW at hw; omega) (by unfold isW at hw; omega)).trans (F8 55 (by unfold isW at hw; omega))) hT7) (PFr_t (PFr_t FZ (PFr_2 F7)) (PFr_w (EW_t (FT_EW F8) ptS_EW))) ?_ M8) | simp only [w_aload, x_g804_w0, w_iconst, w_ifc, cI, Int.reduceToNat, x_g600_54, w_call, w_zreturn, w_istore, w_iload, x_g805_w0, x_iast, x_g807_w0, w_fall, x_g806_w0, w_imul, w_iadd, w_iinc, lgB, Nat.reduceSub, w_goto, w_dupi, w_dupr, x_p804_w0, w_ldc, w_if, x_g800_w0, w_isub, x_g705_55, x_g705_58, x_g802_w0, x_iald, w_ialoads, w_ialoadw, isA_w1, isA_w2, isA_w3, isA_w4, isA_w5, isA_w6, isA_w7, isA_w8, isA_w10, isA_w11, isA_w12, isA_w14, isA_w15, isA_w16, len_w1, len_w2, len_w3, len_w4, len_w5, len_w6, len_w7, len_w8, len_w10, len_w11, len_w12, len_w14, len_w15, len_w16, Int.cast_ofNat_Int, a87_0, a87_17, a87_50, a87_100, a87_131, a87_163, a87_192, a87_200, R32, List.getElem?_cons_zero, List.getElem?_cons_succ, List.set_cons_zero, List.set_cons_succ, List.cons_append, List.nil_append, List.replicate_succ, List.replicate_zero, List.take_succ_cons, List.take_zero, List.drop_succ_cons, List.drop_zero, List.reverse_cons, List.reverse_nil, List.length_cons, List.length_nil, Option.toList, true_and, and_true, eq_self, ↓reduceIte, not_true_eq_false, not_false_eq_true, true_or, or_true, upS_at, Int.reduceEq, Nat.reduceEqDiff, and_self, and_true, true_and, and_false, false_and, if_true, if_false, reduceIte, Int.reduceToNat, hw] | (rw [u4, ← hZ]; (with_reducible refine w_95_55w hPZ hTZ hfZ (fun T1 x1 => ?_)); have F1 := F2c_x x1.2.1; have hP1 := TPE_2 F1 hPZ; have hT1 := TK0_T x1; have hR1 := F2c_W hw F1 hR; clear hZ) | ((with_reducible refine w_97_55 (i := 5) hP1 hT1 hX (by decide) (strB_l 5 (by decide)) (fun v2 x2 => ?_)); have gy2 := yn_b x2) | (have n2 : ¬ wdP t n (skp t n f) (strB 5) := (by rcases x2 with ⟨xa, xb⟩ | ⟨xa, xb⟩; exfalso; omega; exact xb); have q8 := onP_0 (ev := evL) (r := q) (p := p) n2; have x8 : TK0 T1 55 t n (skp t n (skp t n f)) wv := (by rw [skp_skp]; exact hT1); have f8 : PFr S T1 w := PFr_t FZ (PFr_2 F1); clear x2) | (have y2 : wdP t n (skp t n f) (strB 5) := (by rcases x2 with ⟨xa, xb⟩ | ⟨xa, xb⟩; exact xb; exfalso; omega); (with_reducible refine w_95_55w hP1 hT1 (wd_f hT1 (strB_l 5 (by decide)) y2) (fun T3 x3 => ?_)); have F3 := F2c_t F1 (F2c_x x3.2.1); have hP3 := TPE_2 F3 hPZ; have hT3 := TK0_T x3; have hR3 := F2c_W hw F3 hR; have c3 := s0 _ F3; have f3 : PFr S T3 w := PFr_t FZ (PFr_2 F3); have c30 := c3.1; clear x2) | (rw [c30]; (with_reducible refine w_99_55 hP3 hT3 ⟨?_, ?_⟩ ⟨?_, ?_⟩ (fun v4 x4 => ?_)); rotate_right; have gy4 := yn_b x4) | (have n4 : ¬ okF t n 0 (q 3 - 1) (skp t n (skp t n f + (strB 5).length)) := (by rcases x4 with ⟨xa, xb⟩ | ⟨xa, xb⟩; exfalso; omega; exact xb); have q9 := onP_1 (ev := evL) (r := q) (p := p) y2 (numP_0 n4); (with_reducible refine w_104_55 hP3 hT3 (fun T5 x5 => ?_)); have x9 := TK0_T x5; have f9 : PFr S T5 w := PFr_t f3 (PFr_2 (F2c_x x5.2.1)); clear x4) | (have y4 : okF t n 0 (q 3 - 1) (skp t n (skp t n f + (strB 5).length)) := (by rcases x4 with ⟨xa, xb⟩ | ⟨xa, xb⟩; exact xb; exfalso; omega); have nmf := nm_f hT3 (by decide) y4; have pr4 := y4.2; rw [← nmf.1] at pr4; obtain ⟨g4, hg4⟩ : ∃ x, x = T3 55 5 := ⟨_, rfl⟩; rw [← hg4] at pr4 nmf ⊢; have s2 := c3.2.2 g4 (by omega) (by omega); have ff := AB_ff hA (f := g4) (by omega) (by omega); have us := usedM_rg hA (n := q 4) (f := g4) (by omega) (Int.le_refl _); have rm : rooM q p g4 ↔ (0 < fr q g4 1 ∧ k ≤ fr q g4 2 - usedM (pr q) (q 4) g4) := (by unfold rooM; rw [qo, qs, if_neg (by omega), Int.add_zero]); rw [← s2] at rm; have nq := numP_1 y4; rw [← nmf.1] at nq; clear x4) | (have n6 : ¬ rooM q p g4 := (by rw [rm]; omega); have q9 := onP_2 (ev := evL) y2 nq n6; (with_reducible refine w_104_55 hP3 hT3 (fun T6 x6 => ?_)); have x9 := TK0_T x6; have f9 : PFr S T6 w := PFr_t f3 (PFr_2 (F2c_x x6.2.1)); clear rm) | (with_reducible refine w_110 hw hR3 hA ⟨?_, ?_⟩ (fun v6 x6 => ?_); rotate_right; rw [← x6] at rm) | (have y6 : rooM q p g4 := (by rw [rm]; omega); (with_reducible refine w_95_55w hP3 hT3 nmf.2 (fun T7 x7 => ?_)); have F7 := F2c_t F3 (F2c_x x7.2.1); have hT7 := TK0_T x7; have hR7 := F2c_W hw F7 hR; have l7 : LWo m (T7 w 15) (lawD q) := (by rw [(s0 _ F7).2.1]; exact hl); have q8 := onP_3 (ev := evL) y2 nq y6; clear rm) | ((with_reducible refine w_125 hw hR7 hA ⟨?_, ?_⟩ ⟨?_, ?_⟩ l7 (fun T8 m8 v8 e8 F8 M8 => ?_)); rotate_right; have hR8 := RW_F hR7 F8) | ((with_reducible refine w_122 hw hR8 hA ⟨?_, ?_⟩ (fun T9 e9 => ?_)); rotate_right; subst e9; subst e8) | with_reducible refine And.intro ?_ ?_ | with_reducible intro _)
  all_goals (try (first | omega | (exfalso; assumption) | (rw [ptS_o (by omega) (by omega) (by omega), F8 w (by omega)]; exact (s0 _ F7).2.1)))
end Prov1
