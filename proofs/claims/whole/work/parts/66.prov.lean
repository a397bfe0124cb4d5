/-! ===== THE REFERENCE: the lines of the province ===== -/
/-- a text on the tape, of the province -/
def TP (t : Int → Int) (n : Int) (S : Nat → Int → Int) : Prop := S 300 10 = n ∧ (0 ≤ n ∧ n ≤ 400) ∧ (∀ k, 0 ≤ k → k < n → -1 ≤ t k ∧ t k ≤ 10000) ∧ (S 300 9 = -1 ∧ ∀ k, 0 ≤ k → k < n → t k = S 305 k)
theorem TP_X {t : Int → Int} {n : Int} {S : Nat → Int → Int} (h : TP t n S) : TX t n S := ⟨h.1, h.2.1, h.2.2.1, Or.inl h.2.2.2⟩
theorem TP_t {t : Int → Int} {n a f : Int} {S : Nat → Int → Int} (h : TP t n S) : TP t n (tS S a f) := h
theorem TP_q {t : Int → Int} {n : Int} {S : Nat → Int → Int} {r : Int → Int} (h : TP t n S) : TP t n (sR S r) := h
theorem tS_q {S : Nat → Int → Int} {a f : Int} {r : Int → Int} : sR (tS S a f) r = tS (sR S r) a f := by
  funext b
  unfold sR tS
  by_cases h : b = 301
  · subst h; rfl
  · by_cases h2 : b = 300
    · subst h2; rfl
    · show (if b = 301 then r else if b = 300 then _ else S b) = if b = 300 then _ else if b = 301 then r else S b
      rw [if_neg h, if_neg h2, if_neg h2, if_neg h]
theorem tS_u1 {S : Nat → Int → Int} {a f i v : Int} : upS (tS S a f) 301 i v = tS (sR S (putR (S 301) i v)) a f := by rw [upS_301, tS_q]; rfl
/-- while a text is read: the row is r, one stands at a, f is wrong -/
def RT (S : Nat → Int → Int) (r : Int → Int) (a f : Int) (T : Nat → Int → Int) : Prop := SR (tS (sR S r) a f) T ∧ T 300 9 = S 300 9 ∧ T 300 10 = S 300 10 ∧ T 300 11 = a
theorem RT_0 {S : Nat → Int → Int} {r : Int → Int} {a f : Int} : RT S r a f (tS (sR S r) a f) := ⟨SR_refl, rfl, rfl, rfl⟩
theorem RT_1 {S : Nat → Int → Int} {a f : Int} : RT S (S 301) a f (tS S a f) := by
  have h := RT_0 (S := S) (r := S 301) (a := a) (f := f)
  rw [sR_id] at h
  exact h
theorem RT_m {S T : Nat → Int → Int} {r : Int → Int} {a f : Int} (h : RT S r a f T) : T 301 = r := by rw [SR_m h.1]; rfl
theorem RT_12 {S T : Nat → Int → Int} {r : Int → Int} {a f : Int} (h : RT S r a f T) : T 300 12 = f := h.1.2 12 (by omega)
theorem RT_id {S T : Nat → Int → Int} {r : Int → Int} {a f : Int} (h : RT S r a f T) : tS T a f = T := by
  have e := tS_id (S := T)
  rw [h.2.2.2, RT_12 h] at e
  exact e
theorem RT_t {S T U : Nat → Int → Int} {r q : Int → Int} {a f b g : Int} (h : RT S r a f T) (k : RT T q b g U) : RT S q b g U := by
  refine ⟨⟨fun c h1 h2 => ?_, fun j hj => ?_⟩, k.2.1.trans h.2.1, k.2.2.1.trans h.2.2.1, k.2.2.2⟩
  · rw [k.1.1 c h1 h2]
    show (if c = 300 then _ else if c = 301 then q else T c) = if c = 300 then _ else if c = 301 then q else S c
    rw [if_neg h1, if_neg h1]
    by_cases z : c = 301
    · rw [if_pos z, if_pos z]
    · rw [if_neg z, if_neg z, h.1.1 c h1 h2]
      show (if c = 300 then _ else if c = 301 then r else S c) = S c
      rw [if_neg h1, if_neg z]
  · rw [k.1.2 j hj]
    show (if j = 11 then b else if j = 12 then g else T 300 j) = if j = 11 then b else if j = 12 then g else S 300 j
    by_cases z : j = 12
    · subst z; rfl
    · rw [if_neg (by omega), if_neg z, if_neg (by omega), if_neg z, h.1.2 j hj]
      show (if j = 11 then a else if j = 12 then f else S 300 j) = S 300 j
      rw [if_neg (by omega), if_neg z]
theorem RT_a {S T : Nat → Int → Int} {r : Int → Int} {a f b g : Int} (h : RT S r a f T) : RT S r b g (tS T b g) := by
  have e := RT_1 (S := T) (a := b) (f := g)
  rw [RT_m h] at e
  exact RT_t h e
theorem TP_R {t : Int → Int} {n a f : Int} {S T : Nat → Int → Int} {r : Int → Int} (h : TP t n S) (g : RT S r a f T) : TP t n T := by
  refine ⟨g.2.2.1.trans h.1, h.2.1, h.2.2.1, g.2.1.trans h.2.2.2.1, ?_⟩
  rw [g.1.1 305 (by decide) (by decide)]
  exact h.2.2.2.2
theorem numP_skp {t : Int → Int} {n lo hi a : Int} : numP t n lo hi (skp t n a) = numP t n lo hi a := by unfold numP; rw [skp_skp]
/-- the lines of the province -/
noncomputable def snwQ (t : Int → Int) (n a : Int) : PR Int := @ite _ (wdP t n (skp t n a) (strB 3)) (Classical.propDecidable _) (numP t n 0 99 (skp t n a + (strB 3).length)) (.inr (0, skp t n a))
def fldR (r : Int → Int) (s sn rm : Int) : Int → Int := putR (putR (putR (putR r (13 + 3 * r 3) s) (13 + 3 * r 3 + 1) sn) (13 + 3 * r 3 + 2) rm) 3 (r 3 + 1)
noncomputable def fldP (t : Int → Int) (n : Int) (r : Int → Int) (bg a : Int) : PR (Int → Int) := if r 3 = 6 then .inl bg else bnd (aftP t n (strB 1) 0 9 a) fun s a1 => bnd (aftP t n (strB 2) 1 20 a1) fun rm a2 => bnd (snwQ t n a2) fun sn a3 => .inr (fldR r s sn rm, a3)
noncomputable def dbtP (t : Int → Int) (n : Int) (r : Int → Int) (bg a : Int) : PR (Int → Int) := if r 5 = 8 then .inl bg else bnd (numP t n 0 (r 4 - 1) a) fun p a1 => bnd (numP t n 0 (r 4 - 1) a1) fun o a2 => if p = o then .inl (skp t n a1) else bnd (numP t n 1 99 a2) fun k a3 => .inr (lendR r p o k, a3)
noncomputable def setP (t : Int → Int) (n : Int) (r : Int → Int) (w lo hi a : Int) : PR (Int → Int) := bnd (numP t n lo hi a) fun v a1 => .inr (putR r w v, a1)
def gdW (t : Int → Int) (b i : Int) : Prop := ∀ j, 0 ≤ j → j < i → t (b + j) ≤ 104
theorem gdW_0 {t : Int → Int} {b : Int} : gdW t b 0 := fun j h0 h1 => by omega
theorem gdW_y {t : Int → Int} {b i : Int} (h : gdW t b i) (g : t (b + i) ≤ 104) : gdW t b (i + 1) := fun j h0 h1 => by
  by_cases z : j = i
  · subst z; exact g
  · exact h j h0 (by omega)
theorem gdW_n {t : Int → Int} {b i : Int} (h0 : 0 ≤ i) (g : 104 < t (b + i)) : ¬ gdW t b (i + 1) := fun z => by have := z i h0 (by omega); omega
theorem gdW_m {t : Int → Int} {b i : Int} (h : ¬ gdW t b i) : ¬ gdW t b (i + 1) := fun z => h fun j h0 h1 => z j h0 (by omega)
/-- a new person, the first i letters told -/
def namP (r : Int → Int) (t : Int → Int) (b k i : Int) : Int → Int := fun j => if j = 31 + 20 * r 4 then k else if j = 32 + 20 * r 4 then -1 else if 33 + 20 * r 4 ≤ j ∧ j < 33 + 20 * r 4 + i then (if j - (33 + 20 * r 4) < k then t (b + (j - (33 + 20 * r 4))) - 97 else -1) else if 39 + 20 * r 4 ≤ j ∧ j < 39 + 20 * r 4 + i then -1 else if 45 + 20 * r 4 ≤ j ∧ j < 45 + 20 * r 4 + i then 0 else r j
def namR (r : Int → Int) (t : Int → Int) (b k : Int) : Int → Int := putR (namP r t b k 6) 4 (r 4 + 1)
def rooM (r : Int → Int) (p f : Int) : Prop := 0 < fr r f 1 ∧ pr r p 0 ≤ fr r f 2 - usedM (pr r) (r 4) f + (if pr r p 1 = f then pr r p 0 else 0)
noncomputable def onP (ev : LawD → Int → (Int → Int) → Int) (t : Int → Int) (n : Int) (r : Int → Int) (p a : Int) : PR (Int → Int) := @ite _ (wdP t n (skp t n a) (strB 5)) (Classical.propDecidable _) (bnd (numP t n 0 (r 3 - 1) (skp t n a + (strB 5).length)) fun f a2 => @ite _ (rooM r p f) (Classical.propDecidable _) (.inr (wrtR ev r p f, a2)) (.inl (skp t n (skp t n a + (strB 5).length)))) (.inr (r, skp t n a))
noncomputable def nmP (ev : LawD → Int → (Int → Int) → Int) (t : Int → Int) (n : Int) (r : Int → Int) (bg a : Int) : PR (Int → Int) := if r 4 = 6 then .inl bg else @ite _ (gdW t (skp t n a) (ltE t n (skp t n a) - skp t n a) ∧ 1 ≤ ltE t n (skp t n a) - skp t n a ∧ ltE t n (skp t n a) - skp t n a ≤ 6) (Classical.propDecidable _) (onP ev t n (namR r t (skp t n a) (ltE t n (skp t n a) - skp t n a)) (r 4) (ltE t n (skp t n a))) (.inl (skp t n a))
noncomputable def wdI {α : Type} (t : Int → Int) (n b : Int) (k : Nat) (x y : α) : α := @ite _ (wdP t n b (strB k)) (Classical.propDecidable _) x y
theorem wdI_y {α : Type} {t : Int → Int} {n b : Int} {k : Nat} {x y : α} (h : wdP t n b (strB k)) : wdI t n b k x y = x := if_pos h
theorem wdI_n {α : Type} {t : Int → Int} {n b : Int} {k : Nat} {x y : α} (h : ¬ wdP t n b (strB k)) : wdI t n b k x y = y := if_neg h
noncomputable def prvP (ev : LawD → Int → (Int → Int) → Int) (t : Int → Int) (n : Int) (r : Int → Int) (b : Int) : PR (Int → Int) :=
  wdI t n b 0 (fldP t n r b (b + (strB 0).length)) <| wdI t n b 4 (nmP ev t n r b (b + (strB 4).length)) <| wdI t n b 6 (dbtP t n r b (b + (strB 6).length)) <| wdI t n b 7 (setP t n r 6 1 9 (b + (strB 7).length)) <| wdI t n b 8 (setP t n r 7 0 100 (b + (strB 8).length)) <| wdI t n b 9 (setP t n r 8 0 100 (b + (strB 9).length)) <| wdI t n b 10 (setP t n r 9 0 100 (b + (strB 10).length)) <| wdI t n b 11 (setP t n r 10 0 999 (b + (strB 11).length)) <| .inl b
/-- lines, k at the most -/
noncomputable def rdN {α : Type} (line : α → Int → PR α) (t : Int → Int) (n : Int) : Nat → α → Int → PR α
  | 0, _, a => .inl (skp t n a)
  | k + 1, r, a => bnd (line r (skp t n a)) fun q e => if skp t n e = n then .inr (q, skp t n e) else if t (skp t n e) = 59 then rdN line t n k q (skp t n e + 1) else .inl (skp t n e)
noncomputable def rdP {α : Type} (line : α → Int → PR α) (t : Int → Int) (n : Int) (k : Nat) (r : α) (a : Int) : PR α := if skp t n a < n then rdN line t n k r (skp t n a) else .inr (r, skp t n a)
theorem aftP_rg {t : Int → Int} {n lo hi a v e : Int} {w : List Int} (h : aftP t n w lo hi a = .inr (v, e)) : (lo ≤ v ∧ v ≤ hi) ∧ a < e ∧ e ≤ n := by
  by_cases z : wdP t n (skp t n a) w
  · rw [aftP_1 z] at h
    have q := numP_rg h
    have g := skp_ge (t := t) (n := n) (a := a)
    omega
  · rw [aftP_0 z] at h; cases h
section lines
variable {t : Int → Int} {n a bg s a1 rm a2 sn a3 b p o k : Int} {r : Int → Int} {ev : LawD → Int → (Int → Int) → Int}
theorem snwQ_1 (z : wdP t n (skp t n a) (strB 3)) : snwQ t n a = numP t n 0 99 (skp t n a + (strB 3).length) := if_pos z
theorem snwQ_0 (z : ¬ wdP t n (skp t n a) (strB 3)) : snwQ t n a = .inr (0, skp t n a) := if_neg z
theorem fldP_0 (h : r 3 = 6) : fldP t n r bg a = .inl bg := if_pos h
theorem fldP_1 (h : r 3 ≠ 6) (y1 : aftP t n (strB 1) 0 9 a = .inl b) : fldP t n r bg a = .inl b := by unfold fldP; rw [if_neg h, y1]; rfl
theorem fldP_2 (h : r 3 ≠ 6) (y1 : aftP t n (strB 1) 0 9 a = .inr (s, a1)) (y2 : aftP t n (strB 2) 1 20 a1 = .inl b) : fldP t n r bg a = .inl b := by
  unfold fldP; rw [if_neg h, y1]; show bnd (aftP t n (strB 2) 1 20 a1) _ = _; rw [y2]; rfl
theorem fldP_3 (h : r 3 ≠ 6) (y1 : aftP t n (strB 1) 0 9 a = .inr (s, a1)) (y2 : aftP t n (strB 2) 1 20 a1 = .inr (rm, a2)) (y3 : snwQ t n a2 = .inl b) : fldP t n r bg a = .inl b := by
  unfold fldP; rw [if_neg h, y1]; show bnd (aftP t n (strB 2) 1 20 a1) _ = _; rw [y2]; show bnd (snwQ t n a2) _ = _; rw [y3]; rfl
theorem fldP_4 (h : r 3 ≠ 6) (y1 : aftP t n (strB 1) 0 9 a = .inr (s, a1)) (y2 : aftP t n (strB 2) 1 20 a1 = .inr (rm, a2)) (y3 : snwQ t n a2 = .inr (sn, a3)) : fldP t n r bg a = .inr (fldR r s sn rm, a3) := by
  unfold fldP; rw [if_neg h, y1]; show bnd (aftP t n (strB 2) 1 20 a1) _ = _; rw [y2]; show bnd (snwQ t n a2) _ = _; rw [y3]; rfl
theorem dbtP_0 (h : r 5 = 8) : dbtP t n r bg a = .inl bg := if_pos h
theorem dbtP_1 (h : r 5 ≠ 8) (y1 : numP t n 0 (r 4 - 1) a = .inl b) : dbtP t n r bg a = .inl b := by unfold dbtP; rw [if_neg h, y1]; rfl
theorem dbtP_2 (h : r 5 ≠ 8) (y1 : numP t n 0 (r 4 - 1) a = .inr (p, a1)) (y2 : numP t n 0 (r 4 - 1) a1 = .inl b) : dbtP t n r bg a = .inl b := by
  unfold dbtP; rw [if_neg h, y1]; show bnd (numP t n 0 (r 4 - 1) a1) _ = _; rw [y2]; rfl
theorem dbtP_3 (h : r 5 ≠ 8) (y1 : numP t n 0 (r 4 - 1) a = .inr (p, a1)) (y2 : numP t n 0 (r 4 - 1) a1 = .inr (o, a2)) (z : p = o) : dbtP t n r bg a = .inl (skp t n a1) := by
  unfold dbtP; rw [if_neg h, y1]; show bnd (numP t n 0 (r 4 - 1) a1) _ = _; rw [y2]; exact if_pos z
theorem dbtP_4 (h : r 5 ≠ 8) (y1 : numP t n 0 (r 4 - 1) a = .inr (p, a1)) (y2 : numP t n 0 (r 4 - 1) a1 = .inr (o, a2)) (z : p ≠ o) (y3 : numP t n 1 99 a2 = .inl b) : dbtP t n r bg a = .inl b := by
  unfold dbtP; rw [if_neg h, y1]; show bnd (numP t n 0 (r 4 - 1) a1) _ = _; rw [y2]; show (if p = o then _ else bnd (numP t n 1 99 a2) _) = _; rw [if_neg z, y3]; rfl
theorem dbtP_5 (h : r 5 ≠ 8) (y1 : numP t n 0 (r 4 - 1) a = .inr (p, a1)) (y2 : numP t n 0 (r 4 - 1) a1 = .inr (o, a2)) (z : p ≠ o) (y3 : numP t n 1 99 a2 = .inr (k, a3)) : dbtP t n r bg a = .inr (lendR r p o k, a3) := by
  unfold dbtP; rw [if_neg h, y1]; show bnd (numP t n 0 (r 4 - 1) a1) _ = _; rw [y2]; show (if p = o then _ else bnd (numP t n 1 99 a2) _) = _; rw [if_neg z, y3]; rfl
theorem nmP_0 (h : r 4 = 6) : nmP ev t n r bg a = .inl bg := if_pos h
theorem nmP_1 (h : r 4 ≠ 6) (z : ¬ (gdW t (skp t n a) (ltE t n (skp t n a) - skp t n a) ∧ 1 ≤ ltE t n (skp t n a) - skp t n a ∧ ltE t n (skp t n a) - skp t n a ≤ 6)) : nmP ev t n r bg a = .inl (skp t n a) := by unfold nmP; rw [if_neg h, if_neg z]
theorem nmP_2 (h : r 4 ≠ 6) (z : gdW t (skp t n a) (ltE t n (skp t n a) - skp t n a) ∧ 1 ≤ ltE t n (skp t n a) - skp t n a ∧ ltE t n (skp t n a) - skp t n a ≤ 6) : nmP ev t n r bg a = onP ev t n (namR r t (skp t n a) (ltE t n (skp t n a) - skp t n a)) (r 4) (ltE t n (skp t n a)) := by unfold nmP; rw [if_neg h, if_pos z]
theorem onP_0 (z : ¬ wdP t n (skp t n a) (strB 5)) : onP ev t n r p a = .inr (r, skp t n a) := if_neg z
theorem onP_1 (z : wdP t n (skp t n a) (strB 5)) (y : numP t n 0 (r 3 - 1) (skp t n a + (strB 5).length) = .inl b) : onP ev t n r p a = .inl b := by unfold onP; rw [if_pos z, y]; rfl
theorem onP_2 (z : wdP t n (skp t n a) (strB 5)) (y : numP t n 0 (r 3 - 1) (skp t n a + (strB 5).length) = .inr (o, a2)) (g : ¬ rooM r p o) : onP ev t n r p a = .inl (skp t n (skp t n a + (strB 5).length)) := by
  unfold onP; rw [if_pos z, y]; exact if_neg g
theorem onP_3 (z : wdP t n (skp t n a) (strB 5)) (y : numP t n 0 (r 3 - 1) (skp t n a + (strB 5).length) = .inr (o, a2)) (g : rooM r p o) : onP ev t n r p a = .inr (wrtR ev r p o, a2) := by
  unfold onP; rw [if_pos z, y]; exact if_pos g
end lines
theorem namR_p {r t : Int → Int} {b k q w : Int} (q0 : 0 ≤ q) (w0 : 0 ≤ w) (w1 : w < 20) (h4 : 0 ≤ r 4) : pr (namR r t b k) q w = if q = r 4 then (if w = 0 then k else if w = 1 then -1 else if w < 8 then (if w - 2 < k then t (b + (w - 2)) - 97 else -1) else if w < 14 then -1 else 0) else pr r q w := by
  have e : pr (namR r t b k) q w = namP r t b k 6 (31 + 20 * q + w) := by
    unfold pr namR putR
    rw [if_neg (by omega)]
  rw [e]
  unfold namP
  by_cases z : q = r 4
  · subst z
    rw [if_pos rfl]
    by_cases a0 : w = 0
    · rw [if_pos (by omega), if_pos a0]
    by_cases a1 : w = 1
    · rw [if_neg (by omega), if_pos (by omega), if_neg a0, if_pos a1]
    by_cases a2 : w < 8
    · rw [if_neg (by omega), if_neg (by omega), if_pos (by omega), if_neg a0, if_neg a1, if_pos a2, show 31 + 20 * r 4 + w - (33 + 20 * r 4) = w - 2 by omega]
    by_cases a3 : w < 14
    · rw [if_neg (by omega), if_neg (by omega), if_neg (by omega), if_pos (by omega), if_neg a0, if_neg a1, if_neg a2, if_pos a3]
    · rw [if_neg (by omega), if_neg (by omega), if_neg (by omega), if_neg (by omega), if_pos (by omega), if_neg a0, if_neg a1, if_neg a2, if_neg a3]
  · rw [if_neg z, if_neg (by omega), if_neg (by omega), if_neg (by omega), if_neg (by omega), if_neg (by omega)]
    rfl
theorem namR_o {r t : Int → Int} {b k j : Int} (h4 : 0 ≤ r 4 ∧ r 4 < 6) (hj : j < 31 ∨ 151 ≤ j) (hj4 : j ≠ 4) : namR r t b k j = r j := by
  unfold namR putR namP
  rw [if_neg hj4, if_neg (by omega), if_neg (by omega), if_neg (by omega), if_neg (by omega), if_neg (by omega)]
theorem namR_4 {r t : Int → Int} {b k : Int} : namR r t b k 4 = r 4 + 1 := rfl
theorem namR_LQ {r t : Int → Int} {b k : Int} (h4 : 0 ≤ r 4 ∧ r 4 < 6) : LQ r (namR r t b k) := fun j hj => namR_o h4 (by omega) (by omega)
theorem namR_AB {r t : Int → Int} {b k : Int} (h : AB r) (h4 : 0 ≤ r 4 ∧ r 4 < 6) (hk : 1 ≤ k ∧ k ≤ 6) (ht : ∀ j, 0 ≤ j → j < k → 97 ≤ t (b + j) ∧ t (b + j) ≤ 104) : AB (namR r t b k) := by
  have hp : ∀ q w, 0 ≤ q → q < 6 → 0 ≤ w → w < 20 → pr (namR r t b k) q w = if q = r 4 then (if w = 0 then k else if w = 1 then -1 else if w < 8 then (if w - 2 < k then t (b + (w - 2)) - 97 else -1) else if w < 14 then -1 else 0) else pr r q w := fun q w q0 _ w0 w1 => namR_p q0 w0 w1 h4.1
  obtain ⟨b0, b1, b2, b3, b4, b5⟩ := h
  have b3' := b1.2.1
  have b3'' := b1.1
  refine ⟨fun j hj => ?_, ?_, fun q q0 q1 => ?_, fun q q0 q1 => ?_, fun i k0 k1 => ?_, fun q q0 q1 => ?_⟩
  · by_cases z : 31 ≤ j ∧ j < 151
    · have e := hp ((j - 31) / 20) ((j - 31) % 20) (by omega) (by omega) (by omega) (by omega)
      have e2 : pr (namR r t b k) ((j - 31) / 20) ((j - 31) % 20) = namR r t b k j := by unfold pr; rw [show 31 + 20 * ((j - 31) / 20) + (j - 31) % 20 = j by omega]
      have e3 : pr r ((j - 31) / 20) ((j - 31) % 20) = r j := by unfold pr; rw [show 31 + 20 * ((j - 31) / 20) + (j - 31) % 20 = j by omega]
      rw [← e2, e]
      have := b0 j hj
      have g := ht ((j - 31) % 20 - 2)
      split
      · split
        · omega
        · split
          · omega
          · split
            · split
              · have := g (by omega) (by omega); omega
              · omega
            · split <;> omega
      · omega
    · by_cases z4 : j = 4
      · subst z4; rw [namR_4]; omega
      · rw [namR_o h4 (by omega) z4]; exact b0 j hj
  · unfold B1 at b1 ⊢
    rw [namR_4, namR_o h4 (by omega) (by decide), namR_o h4 (by omega) (by decide), namR_o h4 (by omega) (by decide), namR_o h4 (by omega) (by decide), namR_o h4 (by omega) (by decide), namR_o h4 (by omega) (by decide), namR_o h4 (by omega) (by decide), namR_o h4 (by omega) (by decide)]
    exact ⟨b1.1, by omega, b1.2.2⟩
  · have := b2 q q0 q1
    refine ⟨?_, ?_, fun i i0 i1 => ⟨?_, ?_⟩⟩
    · rw [hp q 0 q0 q1 (by decide) (by decide)]; split
      · rw [if_pos rfl]; omega
      · exact this.1
    · rw [hp q 1 q0 q1 (by decide) (by decide)]; split
      · rw [if_neg (by decide), if_pos rfl]; omega
      · exact this.2.1
    · rw [hp q _ q0 q1 (by omega) (by omega)]; split
      · rw [if_neg (by omega), if_neg (by omega), if_neg (by omega), if_neg (by omega)]; omega
      · exact (this.2.2 i i0 i1).1
    · rw [hp q _ q0 q1 (by omega) (by omega)]; split
      · rw [if_neg (by omega), if_neg (by omega), if_pos (by omega)]
        split
        · have := ht (2 + i - 2) (by omega) (by omega); omega
        · omega
      · exact (this.2.2 i i0 i1).2
  · have w : ∀ v, 0 ≤ v → v < 3 → fr (namR r t b k) q v = fr r q v := fun v v0 v1 => namR_o h4 (by omega) (by omega)
    rw [w 0 (by decide) (by decide), w 1 (by decide) (by decide), w 2 (by decide) (by decide)]
    exact b3 q q0 q1
  · rw [namR_o h4 (by omega) (by decide)] at k1
    have w : ∀ v, 0 ≤ v → dr (namR r t b k) i v = dr r i v := fun v v0 => namR_o h4 (by omega) (by omega)
    rw [w 0 (by decide), w 1 (by decide)]
    exact b4 i k0 k1
  · rw [namR_4] at q1
    rw [hp q 0 q0 (by omega) (by decide) (by decide), hp q 1 q0 (by omega) (by decide) (by decide), namR_o h4 (by omega) (by decide)]
    by_cases z : q = r 4
    · rw [if_pos z, if_pos z, if_pos rfl, if_neg (by decide), if_pos rfl]; omega
    · rw [if_neg z, if_neg z]; exact b5 q q0 (by omega)
theorem RT_s {S T : Nat → Int → Int} {r q : Int → Int} {a f : Int} (h : RT (sR S r) q a f T) : RT S q a f T := ⟨by have := h.1; rw [sR_sR] at this; exact this, h.2.1, h.2.2.1, h.2.2.2⟩
section Ref39
variable {tb : Tab} {d : Nat} {m : AM} {K : Out → AM → Prop} {S : Nat → Int → Int} {a f : Int} {t : Int → Int} {n : Int} {ev : LawD → Int → (Int → Int) → Int} {good : LawD → Prop}
theorem q_224n {w : Int} (hK : K (.inl none) (X (tS S a w) m)) : Runs tb pg (d + 1) 224 [vr 300, vi w] (X (tS S a (-1)) m) K := q_224 (by unfold R32; omega) (fun b e => by rw [e, if_pos rfl]; exact hK)
theorem q_224g {w : Int} (hf : 0 ≤ f ∧ f ≤ 1000) (hK : K (.inl none) (X (tS S a f) m)) : Runs tb pg (d + 1) 224 [vr 300, vi w] (X (tS S a f) m) K := q_224 (by unfold R32; omega) (fun b e => by rw [e, if_neg (by omega)]; exact hK)
theorem q_226g {lo hi : Int} (hf : 0 ≤ f ∧ f ≤ 1000) (hK : K (.inl (some (vi 0))) (X (tS S a f) m)) : Runs tb pg (d + 4) 226 [vr 300, vi lo, vi hi] (X (tS S a f) m) K := q_226f (by unfold R32; omega) (by omega) hK
theorem q_227g {lo hi : Int} {k : Nat} (hf : 0 ≤ f ∧ f ≤ 1000) (hK : K (.inl (some (vi 0))) (X (tS S a f) m)) : Runs tb pg (d + 6) 227 [vr 300, vx (2 * k + 2), vi lo, vi hi] (X (tS S a f) m) K := q_227f (by unfold R32; omega) (by omega) hK
theorem k233_0 : pg.1 233 0 = [.aload 0, .iload 2, .iload 3, .invokeinterface 226 3, .istore 4, .aload 0, .getfield 1012, .bipush (-1), .if_icmp .ne 24, .aload 0, .getfield 1001, .iload 1, .iload 4, .iastore, .jsr 24] := rfl
theorem a233_0 {tb : Tab} {d : Nat} {K : Out → AM → Prop} {ls st : List AV} {m : AM} : At tb d 233 K 0 ls st m = wpB tb (pg.2.1 233) (Runs tb pg d) K (At tb d 233 K) [.aload 0, .iload 2, .iload 3, .invokeinterface 226 3, .istore 4, .aload 0, .getfield 1012, .bipush (-1), .if_icmp .ne 24, .aload 0, .getfield 1001, .iload 1, .iload 4, .iastore, .jsr 24] ls st m := At.eq k233_0
theorem k233_24 : pg.1 233 24 = [.return_] := rfl
theorem a233_24 {tb : Tab} {d : Nat} {K : Out → AM → Prop} {ls st : List AV} {m : AM} : At tb d 233 K 24 ls st m = wpB tb (pg.2.1 233) (Runs tb pg d) K (At tb d 233 K) [.return_] ls st m := At.eq k233_24
theorem q_233 {w lo hi : Int} (hP : TP t n S) (ha : 0 ≤ a ∧ a ≤ 1000) (hl : R32 lo ∧ R32 hi) (hw : 0 ≤ w ∧ w < 415) (hN : ∀ e b, setP t n (S 301) w lo hi a = .inl b → 0 ≤ e → e ≤ 1000 → 0 ≤ b → b ≤ 1000 → K (.inl none) (X (tS S e b) m)) (hK : ∀ r e, setP t n (S 301) w lo hi a = .inr (r, e) → K (.inl none) (X (tS (sR S r) e (-1)) m)) : Runs tb pg (d + 5) 233 [vr 300, vi w, vi lo, vi hi] (X (tS S a (-1)) m) K := by
  refine Runs.of (al := [vr 300, vi w, vi lo, vi hi]) (n := 1) ⟨300, _, _, rfl, xo_300⟩ rfl rfl trivial ?_
  have k1 : 1 < 39 := by decide
  have k2 : 2 < 39 := by decide
  have k3 : 3 < 39 := by decide
  have k0 : 0 < 39 := by decide
  have hT := TP_X hP
  have hn := hT.1
  have hn2 := hT.2.1
  have hl2 := hl
  unfold R32 at hl2
  repeat' (first | omega | with_reducible refine hK _ _ ?_ | with_reducible refine hN _ _ ?_ ?_ ?_ ?_ ?_ | simp only [w_aload, w_iload, w_call, w_istore, x_g1012_300, w_iconst, w_ifc, cI, Int.reduceToNat, x_g1001_300, x_iast, w_fall, w_return, isA_301, isA_302, isA_303, isA_304, isA_305, isA_307, isA_308, isA_309, isA_310, isA_311, isA_312, isA_313, isA_314, isA_315, len_301, len_302, len_303, len_304, len_305, len_307, len_308, len_309, len_310, len_311, len_312, len_313, len_314, len_315, Int.cast_ofNat_Int, a233_0, a233_24, R32, List.getElem?_cons_zero, List.getElem?_cons_succ, List.set_cons_zero, List.set_cons_succ, List.cons_append, List.nil_append, List.replicate_succ, List.replicate_zero, List.take_succ_cons, List.take_zero, List.drop_succ_cons, List.drop_zero, List.reverse_cons, List.reverse_nil, List.length_cons, List.length_nil, Option.toList, true_and, and_true, eq_self, ↓reduceIte, not_true_eq_false, not_false_eq_true, true_or, or_true, tS_11, tS_12, tS_8, tS_9, tS_10, tS_13, tS_15, tS_16, tS_17, tS_18, tS_19, tS_301, tS_303, tS_305, tS_306, tS_u11, tS_u12, tS_tS, tS_u1, sR_sR, sR_r, tS_q] | with_reducible refine q_226 hT ?_ ?_ (fun v6 b6 f6 n6 e6 e5 e4 e3 => ?_) (fun v6 b6 y6 => ?_) | with_reducible refine And.intro ?_ ?_ | with_reducible intro _)
  all_goals (try (first | omega | contradiction | (show bnd (numP t n lo hi a) _ = _; rw [y6]; rfl) | (show bnd (numP t n lo hi a) _ = _; rw [n6]; rfl) | exact hl.1 | exact hl.2 | exact hl | exact ha | (unfold R32; omega) | omega))
theorem k228_0 : pg.1 228 0 = [.aload 0, .getfield 1001, .bipush 3, .iaload, .bipush 6, .if_icmp .ne 16, .aload 0, .iload 1, .invokeinterface 224 2, .jsr 16] := rfl
theorem a228_0 {tb : Tab} {d : Nat} {K : Out → AM → Prop} {ls st : List AV} {m : AM} : At tb d 228 K 0 ls st m = wpB tb (pg.2.1 228) (Runs tb pg d) K (At tb d 228 K) [.aload 0, .getfield 1001, .bipush 3, .iaload, .bipush 6, .if_icmp .ne 16, .aload 0, .iload 1, .invokeinterface 224 2, .jsr 16] ls st m := At.eq k228_0
theorem k228_16 : pg.1 228 16 = [.aload 0, .ldc 1, .bipush 0, .bipush 9, .invokeinterface 227 4, .istore 2, .aload 0, .ldc 2, .bipush 1, .bipush 20, .invokeinterface 227 4, .istore 3, .aload 0, .getfield 1012, .bipush (-1), .if_icmp .ne 63, .aload 0, .ldc 3, .invokeinterface 223 2, .ifCond .eq 63, .aload 0, .bipush 0, .bipush 99, .invokeinterface 226 3, .goto 64] := rfl
theorem a228_16 {tb : Tab} {d : Nat} {K : Out → AM → Prop} {ls st : List AV} {m : AM} : At tb d 228 K 16 ls st m = wpB tb (pg.2.1 228) (Runs tb pg d) K (At tb d 228 K) [.aload 0, .ldc 1, .bipush 0, .bipush 9, .invokeinterface 227 4, .istore 2, .aload 0, .ldc 2, .bipush 1, .bipush 20, .invokeinterface 227 4, .istore 3, .aload 0, .getfield 1012, .bipush (-1), .if_icmp .ne 63, .aload 0, .ldc 3, .invokeinterface 223 2, .ifCond .eq 63, .aload 0, .bipush 0, .bipush 99, .invokeinterface 226 3, .goto 64] ls st m := At.eq k228_16
theorem k228_63 : pg.1 228 63 = [.bipush 0, .jsr 64] := rfl
theorem a228_63 {tb : Tab} {d : Nat} {K : Out → AM → Prop} {ls st : List AV} {m : AM} : At tb d 228 K 63 ls st m = wpB tb (pg.2.1 228) (Runs tb pg d) K (At tb d 228 K) [.bipush 0, .jsr 64] ls st m := At.eq k228_63
theorem k228_64 : pg.1 228 64 = [.istore 4, .aload 0, .getfield 1012, .bipush (-1), .if_icmp .eq 75, .return_] := rfl
theorem a228_64 {tb : Tab} {d : Nat} {K : Out → AM → Prop} {ls st : List AV} {m : AM} : At tb d 228 K 64 ls st m = wpB tb (pg.2.1 228) (Runs tb pg d) K (At tb d 228 K) [.istore 4, .aload 0, .getfield 1012, .bipush (-1), .if_icmp .eq 75, .return_] ls st m := At.eq k228_64
theorem k228_75 : pg.1 228 75 = [.bipush 13, .bipush 3, .aload 0, .getfield 1001, .bipush 3, .iaload, .imul, .iadd, .istore 5, .aload 0, .getfield 1001, .iload 5, .bipush 0, .iadd, .iload 2, .iastore, .aload 0, .getfield 1001, .iload 5, .bipush 1, .iadd, .iload 4, .iastore, .aload 0, .getfield 1001, .iload 5, .bipush 2, .iadd, .iload 3, .iastore, .aload 0, .getfield 1001, .bipush 3, .dup2, .iaload, .bipush 1, .iadd, .iastore, .return_] := rfl
theorem a228_75 {tb : Tab} {d : Nat} {K : Out → AM → Prop} {ls st : List AV} {m : AM} : At tb d 228 K 75 ls st m = wpB tb (pg.2.1 228) (Runs tb pg d) K (At tb d 228 K) [.bipush 13, .bipush 3, .aload 0, .getfield 1001, .bipush 3, .iaload, .imul, .iadd, .istore 5, .aload 0, .getfield 1001, .iload 5, .bipush 0, .iadd, .iload 2, .iastore, .aload 0, .getfield 1001, .iload 5, .bipush 1, .iadd, .iload 4, .iastore, .aload 0, .getfield 1001, .iload 5, .bipush 2, .iadd, .iload 3, .iastore, .aload 0, .getfield 1001, .bipush 3, .dup2, .iaload, .bipush 1, .iadd, .iastore, .return_] ls st m := At.eq k228_75
theorem q_228 {bg : Int} (hX : tb.2.1 = strB) (hP : TP t n S) (hA : AB (S 301)) (ha : 0 ≤ a ∧ a ≤ 1000) (hbg : 0 ≤ bg ∧ bg ≤ 1000) (hN : ∀ e b, fldP t n (S 301) bg a = .inl b → 0 ≤ e → e ≤ 1000 → 0 ≤ b → b ≤ 1000 → K (.inl none) (X (tS S e b) m)) (hK : ∀ r e, fldP t n (S 301) bg a = .inr (r, e) → K (.inl none) (X (tS (sR S r) e (-1)) m)) : Runs tb pg (d + 7) 228 [vr 300, vi bg] (X (tS S a (-1)) m) K := by
  refine Runs.of (al := [vr 300, vi bg]) (n := 4) ⟨300, _, _, rfl, xo_300⟩ rfl rfl trivial ?_
  have k1 : 1 < 39 := by decide
  have k2 : 2 < 39 := by decide
  have k3 : 3 < 39 := by decide
  have k0 : 0 < 39 := by decide
  have hT := TP_X hP
  have hn := hT.1
  have hn2 := hT.2.1
  have b3 := hA.2.1.1
  have g5 : ∀ a, a ≤ n → a ≤ skp t n a ∧ skp t n a ≤ n := fun a z => ⟨skp_ge, skp_le z⟩
  have g6 : ∀ a w, a ≤ n → wdP t n (skp t n a) w → skp t n a + w.length ≤ n := fun a w z y => by
    have z1 := y.1
    have z2 := ltE_rg (t := t) (n := n) (a := skp t n a)
    have := skp_le (t := t) z
    omega
  repeat' (first | omega | with_reducible refine hK _ _ ?_ | with_reducible refine hN _ _ ?_ ?_ ?_ ?_ ?_ | simp only [w_aload, x_g1001_300, w_iconst, x_iald, w_ialoads, w_ialoadw, w_ifc, cI, Int.reduceToNat, w_iload, w_call, w_fall, w_ldc, w_istore, x_g1012_300, w_if, w_goto, w_return, w_imul, w_iadd, x_iast, w_dup2, isA_301, isA_302, isA_303, isA_304, isA_305, isA_307, isA_308, isA_309, isA_310, isA_311, isA_312, isA_313, isA_314, isA_315, len_301, len_302, len_303, len_304, len_305, len_307, len_308, len_309, len_310, len_311, len_312, len_313, len_314, len_315, Int.cast_ofNat_Int, a228_0, a228_16, a228_63, a228_64, a228_75, R32, List.getElem?_cons_zero, List.getElem?_cons_succ, List.set_cons_zero, List.set_cons_succ, List.cons_append, List.nil_append, List.replicate_succ, List.replicate_zero, List.take_succ_cons, List.take_zero, List.drop_succ_cons, List.drop_zero, List.reverse_cons, List.reverse_nil, List.length_cons, List.length_nil, Option.toList, true_and, and_true, eq_self, ↓reduceIte, not_true_eq_false, not_false_eq_true, true_or, or_true, tS_11, tS_12, tS_8, tS_9, tS_10, tS_13, tS_15, tS_16, tS_17, tS_18, tS_19, tS_301, tS_303, tS_305, tS_306, tS_u11, tS_u12, tS_tS, tS_u1, sR_sR, sR_r, tS_q] | with_reducible refine q_227 (k := 1) hX k1 hT ?_ ⟨by unfold R32; omega, by unfold R32; omega⟩ (fun v1 c1 b1 n1 x1 x2 x3 x4 => ?_) (fun s a1 y1 => ?_) | with_reducible refine q_227 (k := 2) hX k2 hT ?_ ⟨by unfold R32; omega, by unfold R32; omega⟩ (fun v2 c2 b2 n2 x1 x2 x3 x4 => ?_) (fun r2 a2 y2 => ?_) | with_reducible refine q_223 (k := 3) hX k3 hT ?_ (fun b9 e9 e8 => ?_) (fun b9 b8 e9 e8 e7 => ?_) | with_reducible refine q_226 hT ?_ ⟨by unfold R32; omega, by unfold R32; omega⟩ (fun v3 c3 b3 n3 x1 x2 x3 x4 => ?_) (fun s3 a3 y3 => ?_) | with_reducible refine q_227g ?_ ?_ | with_reducible refine q_226g ?_ ?_ | with_reducible refine q_224n ?_ | with_reducible refine And.intro ?_ ?_ | with_reducible intro _)
  all_goals (try (first | omega | contradiction | exact fldP_0 (by omega) | exact fldP_1 (by omega) n1 | exact fldP_2 (by omega) y1 n2 | (subst e9 e7; exact fldP_3 (by omega) y1 y2 ((snwQ_1 e8).trans n3)) | (have z1 := aftP_rg y1; have z2 := aftP_rg y2; have z3 := g5 a2 (by omega); first | omega | (subst e9 e7; have z4 := g6 a2 _ (by omega) e8; first | omega | (have z5 := numP_rg y3; omega)) | (subst e9; omega)) | (have z1 := aftP_rg y1; omega) | (refine (fldP_4 (by omega) y1 y2 ((snwQ_1 (by rw [← e9]; exact e8)).trans (by rw [← e9, ← e7]; exact y3))).trans (congrArg (fun q => Sum.inr (q, _)) (funext fun j => ?_)); simp only [fldR, putR]; grind) | (subst e9; refine (fldP_4 (by omega) y1 y2 (snwQ_0 e8)).trans (congrArg (fun q => Sum.inr (q, _)) (funext fun j => ?_)); simp only [fldR, putR]; grind)))
theorem k231_0 : pg.1 231 0 = [.aload 0, .getfield 1001, .bipush 5, .iaload, .bipush 8, .if_icmp .ne 16, .aload 0, .iload 1, .invokeinterface 224 2, .jsr 16] := rfl
theorem a231_0 {tb : Tab} {d : Nat} {K : Out → AM → Prop} {ls st : List AV} {m : AM} : At tb d 231 K 0 ls st m = wpB tb (pg.2.1 231) (Runs tb pg d) K (At tb d 231 K) [.aload 0, .getfield 1001, .bipush 5, .iaload, .bipush 8, .if_icmp .ne 16, .aload 0, .iload 1, .invokeinterface 224 2, .jsr 16] ls st m := At.eq k231_0
theorem k231_16 : pg.1 231 16 = [.aload 0, .bipush 0, .aload 0, .getfield 1001, .bipush 4, .iaload, .bipush 1, .isub, .invokeinterface 226 3, .istore 2, .aload 0, .invokeinterface 225 1, .istore 3, .aload 0, .bipush 0, .aload 0, .getfield 1001, .bipush 4, .iaload, .bipush 1, .isub, .invokeinterface 226 3, .istore 4, .aload 0, .getfield 1012, .bipush (-1), .if_icmp .ne 69, .iload 2, .iload 4, .if_icmp .ne 69, .aload 0, .iload 3, .invokeinterface 224 2, .jsr 69] := rfl
theorem a231_16 {tb : Tab} {d : Nat} {K : Out → AM → Prop} {ls st : List AV} {m : AM} : At tb d 231 K 16 ls st m = wpB tb (pg.2.1 231) (Runs tb pg d) K (At tb d 231 K) [.aload 0, .bipush 0, .aload 0, .getfield 1001, .bipush 4, .iaload, .bipush 1, .isub, .invokeinterface 226 3, .istore 2, .aload 0, .invokeinterface 225 1, .istore 3, .aload 0, .bipush 0, .aload 0, .getfield 1001, .bipush 4, .iaload, .bipush 1, .isub, .invokeinterface 226 3, .istore 4, .aload 0, .getfield 1012, .bipush (-1), .if_icmp .ne 69, .iload 2, .iload 4, .if_icmp .ne 69, .aload 0, .iload 3, .invokeinterface 224 2, .jsr 69] ls st m := At.eq k231_16
theorem k231_69 : pg.1 231 69 = [.aload 0, .bipush 1, .bipush 99, .invokeinterface 226 3, .istore 5, .aload 0, .getfield 1012, .bipush (-1), .if_icmp .ne 95, .aload 0, .iload 2, .iload 4, .iload 5, .invokeinterface 232 4, .jsr 95] := rfl
theorem a231_69 {tb : Tab} {d : Nat} {K : Out → AM → Prop} {ls st : List AV} {m : AM} : At tb d 231 K 69 ls st m = wpB tb (pg.2.1 231) (Runs tb pg d) K (At tb d 231 K) [.aload 0, .bipush 1, .bipush 99, .invokeinterface 226 3, .istore 5, .aload 0, .getfield 1012, .bipush (-1), .if_icmp .ne 95, .aload 0, .iload 2, .iload 4, .iload 5, .invokeinterface 232 4, .jsr 95] ls st m := At.eq k231_69
theorem k231_95 : pg.1 231 95 = [.return_] := rfl
theorem a231_95 {tb : Tab} {d : Nat} {K : Out → AM → Prop} {ls st : List AV} {m : AM} : At tb d 231 K 95 ls st m = wpB tb (pg.2.1 231) (Runs tb pg d) K (At tb d 231 K) [.return_] ls st m := At.eq k231_95
theorem q_231 {bg : Int} (hP : TP t n S) (hA : AB (S 301)) (ha : 0 ≤ a ∧ a ≤ 1000) (hbg : 0 ≤ bg ∧ bg ≤ 1000) (hN : ∀ e b, dbtP t n (S 301) bg a = .inl b → 0 ≤ e → e ≤ 1000 → 0 ≤ b → b ≤ 1000 → K (.inl none) (X (tS S e b) m)) (hK : ∀ r e, dbtP t n (S 301) bg a = .inr (r, e) → K (.inl none) (X (tS (sR S r) e (-1)) m)) : Runs tb pg (d + 5) 231 [vr 300, vi bg] (X (tS S a (-1)) m) K := by
  refine Runs.of (al := [vr 300, vi bg]) (n := 4) ⟨300, _, _, rfl, xo_300⟩ rfl rfl trivial ?_
  have k1 : 1 < 39 := by decide
  have k2 : 2 < 39 := by decide
  have k3 : 3 < 39 := by decide
  have k0 : 0 < 39 := by decide
  have hT := TP_X hP
  have hn := hT.1
  have hn2 := hT.2.1
  have g5 : ∀ a, a ≤ n → a ≤ skp t n a ∧ skp t n a ≤ n := fun a z => ⟨skp_ge, skp_le z⟩
  have g7 : ∀ a, a ≤ 1000 → a ≤ skp t n a ∧ skp t n a ≤ 1000 := fun a z => ⟨skp_ge, skp_b z (by omega)⟩
  have b4 := hA.2.1.2.1
  have b5 := hA.2.1.2.2.1
  repeat' (first | omega | with_reducible refine hK _ _ ?_ | with_reducible refine hN _ _ ?_ ?_ ?_ ?_ ?_ | simp only [w_aload, x_g1001_300, w_iconst, x_iald, w_ialoads, w_ialoadw, w_ifc, cI, Int.reduceToNat, w_iload, w_call, w_fall, w_isub, w_istore, x_g1012_300, w_return, isA_301, isA_302, isA_303, isA_304, isA_305, isA_307, isA_308, isA_309, isA_310, isA_311, isA_312, isA_313, isA_314, isA_315, len_301, len_302, len_303, len_304, len_305, len_307, len_308, len_309, len_310, len_311, len_312, len_313, len_314, len_315, Int.cast_ofNat_Int, a231_0, a231_16, a231_69, a231_95, R32, List.getElem?_cons_zero, List.getElem?_cons_succ, List.set_cons_zero, List.set_cons_succ, List.cons_append, List.nil_append, List.replicate_succ, List.replicate_zero, List.take_succ_cons, List.take_zero, List.drop_succ_cons, List.drop_zero, List.reverse_cons, List.reverse_nil, List.length_cons, List.length_nil, Option.toList, true_and, and_true, eq_self, ↓reduceIte, not_true_eq_false, not_false_eq_true, true_or, or_true, tS_11, tS_12, tS_8, tS_9, tS_10, tS_13, tS_15, tS_16, tS_17, tS_18, tS_19, tS_301, tS_303, tS_305, tS_306, tS_u11, tS_u12, tS_tS, tS_u1, sR_sR, sR_r, tS_q] | (have q0 := y2; with_reducible refine q_226 hT ?_ ?_ (fun v3 c3 b3 n3 x1 x2 x3 x4 => ?_) (fun p3 a3 y3 => ?_)) | (have q0 := y1; with_reducible refine q_226 hT ?_ ?_ (fun v2 c2 b2 n2 x1 x2 x3 x4 => ?_) (fun p2 a2 y2 => ?_)) | with_reducible refine q_226 hT ?_ ?_ (fun v1 c1 b1 n1 x1 x2 x3 x4 => ?_) (fun p1 a1 y1 => ?_) | with_reducible refine q_226g ?_ ?_ | with_reducible refine q_225 hT ?_ (fun w1 w2 => ?_) | with_reducible refine q_224n ?_ | (have q0 := y3; refine q_232 (S := tS S a3 (-1)) hA ?_ ?_) | with_reducible refine And.intro ?_ ?_ | with_reducible intro _)
  all_goals (try (first | omega | contradiction | exact dbtP_0 (by omega) | exact dbtP_1 (by omega) n1 | (subst w2; rw [numP_skp] at n2; exact dbtP_2 (by omega) y1 n2) | (subst w2; rw [numP_skp] at y2; first | exact dbtP_3 (by omega) y1 y2 (by omega) | exact dbtP_4 (by omega) y1 y2 (by omega) n3 | exact dbtP_5 (by omega) y1 y2 (by omega) y3) | (unfold R32; omega) | (constructor <;> unfold R32 <;> omega) | (have z1 := numP_rg y1; have z2 := g5 a1 (by omega); first | omega | (have z3 := numP_rg y2; first | omega | (have z4 := numP_rg y3; omega))) | (have z2 := g7 c1 (by omega); omega) | (subst w2; have z1 := numP_rg y1; have z2 := g5 a1 (by omega); omega) | (subst w2; have z2 := g7 a (by omega); omega)))
theorem RT_w {S T : Nat → Int → Int} {q : Int → Int} {a g : Int} (h : SR (tS (sR S q) a g) T) : RT S q a g (upS (upS (upS (upS T 300 9 (S 300 9)) 300 10 (S 300 10)) 300 11 a) 300 12 g) := by
  refine ⟨⟨fun b h1 h2 => ?_, fun j hj => ?_⟩, ?_, ?_, ?_⟩
  · rw [← h.1 b h1 h2]
    funext j
    simp only [upS_at]
    rw [if_neg (by omega), if_neg (by omega), if_neg (by omega), if_neg (by omega)]
  · rw [← h.2 j hj]
    by_cases z : j = 12
    · subst z
      show g = T 300 12
      rw [h.2 12 (by omega)]
      rfl
    · simp only [upS_at]
      rw [if_neg (by omega), if_neg (by omega), if_neg (by omega), if_neg (by omega)]
  · rfl
  · rfl
  · rfl
theorem k230_0 : pg.1 230 0 = [.aload 0, .getfield 1009, .istore 3, .aload 0, .getfield 1010, .istore 4, .aload 0, .getfield 1011, .istore 5, .aload 0, .iload 1, .iload 2, .invokeinterface 254 3, .aload 0, .iload 3, .putfield 1009, .aload 0, .iload 4, .putfield 1010, .aload 0, .iload 5, .putfield 1011, .aload 0, .bipush (-1), .putfield 1012, .return_] := rfl
theorem a230_0 {tb : Tab} {d : Nat} {K : Out → AM → Prop} {ls st : List AV} {m : AM} : At tb d 230 K 0 ls st m = wpB tb (pg.2.1 230) (Runs tb pg d) K (At tb d 230 K) [.aload 0, .getfield 1009, .istore 3, .aload 0, .getfield 1010, .istore 4, .aload 0, .getfield 1011, .istore 5, .aload 0, .iload 1, .iload 2, .invokeinterface 254 3, .aload 0, .iload 3, .putfield 1009, .aload 0, .iload 4, .putfield 1010, .aload 0, .iload 5, .putfield 1011, .aload 0, .bipush (-1), .putfield 1012, .return_] ls st m := At.eq k230_0
theorem q_230 {p f : Int} (hD : AskD tb ev good) (hA : AB (S 301)) (hG : good (lawD (S 301))) (hp : 0 ≤ p ∧ p < 6) (hf : 0 ≤ f ∧ f < S 301 3) (hK : ∀ T, RT S (wrtR ev (S 301) p f) a (-1) T → K (.inl none) (X T m)) : Runs tb pg (d + 62) 230 [vr 300, vi p, vi f] (X (tS S a (-1)) m) K := by
  refine Runs.of (al := [vr 300, vi p, vi f]) (n := 3) ⟨300, _, _, rfl, xo_300⟩ rfl rfl trivial ?_
  repeat' (first | omega | with_reducible refine hK _ ?_ | simp only [w_aload, x_g1009_300, w_istore, x_g1010_300, x_g1011_300, w_iload, w_call, x_p1009_300, x_p1010_300, x_p1011_300, w_iconst, x_p1012_300, w_return, a230_0, R32, List.getElem?_cons_zero, List.getElem?_cons_succ, List.set_cons_zero, List.set_cons_succ, List.cons_append, List.nil_append, List.replicate_succ, List.replicate_zero, List.take_succ_cons, List.take_zero, List.drop_succ_cons, List.drop_zero, List.reverse_cons, List.reverse_nil, List.length_cons, List.length_nil, Option.toList, true_and, and_true, eq_self, ↓reduceIte, not_true_eq_false, not_false_eq_true, true_or, or_true, tS_11, tS_12, tS_8, tS_9, tS_10, tS_13, tS_15, tS_16, tS_17, tS_18, tS_19, tS_301, tS_303, tS_305, tS_306, tS_u11, tS_u12, tS_tS, tS_u1, sR_sR, sR_r, tS_q] | (refine q_254 (S := tS S a (-1)) hD hA hG hp hf (fun T e => ?_); rw [tS_q] at e) | with_reducible refine And.intro ?_ ?_ | with_reducible intro _)
  all_goals (try (first | omega | contradiction | exact RT_w e))
theorem k229_0 : pg.1 229 0 = [.aload 0, .getfield 1001, .bipush 4, .iaload, .bipush 6, .if_icmp .ne 16, .aload 0, .iload 1, .invokeinterface 224 2, .jsr 16] := rfl
theorem a229_0 {tb : Tab} {d : Nat} {K : Out → AM → Prop} {ls st : List AV} {m : AM} : At tb d 229 K 0 ls st m = wpB tb (pg.2.1 229) (Runs tb pg d) K (At tb d 229 K) [.aload 0, .getfield 1001, .bipush 4, .iaload, .bipush 6, .if_icmp .ne 16, .aload 0, .iload 1, .invokeinterface 224 2, .jsr 16] ls st m := At.eq k229_0
theorem k229_16 : pg.1 229 16 = [.aload 0, .getfield 1012, .bipush (-1), .if_icmp .eq 25, .return_] := rfl
theorem a229_16 {tb : Tab} {d : Nat} {K : Out → AM → Prop} {ls st : List AV} {m : AM} : At tb d 229 K 16 ls st m = wpB tb (pg.2.1 229) (Runs tb pg d) K (At tb d 229 K) [.aload 0, .getfield 1012, .bipush (-1), .if_icmp .eq 25, .return_] ls st m := At.eq k229_16
theorem k229_25 : pg.1 229 25 = [.aload 0, .invokeinterface 225 1, .istore 2, .bipush 0, .istore 3, .bipush 1, .istore 4, .jsr 35] := rfl
theorem a229_25 {tb : Tab} {d : Nat} {K : Out → AM → Prop} {ls st : List AV} {m : AM} : At tb d 229 K 25 ls st m = wpB tb (pg.2.1 229) (Runs tb pg d) K (At tb d 229 K) [.aload 0, .invokeinterface 225 1, .istore 2, .bipush 0, .istore 3, .bipush 1, .istore 4, .jsr 35] ls st m := At.eq k229_25
theorem k229_35 : pg.1 229 35 = [.iload 2, .iload 3, .iadd, .aload 0, .getfield 1010, .if_icmp .ge 92, .aload 0, .iload 2, .iload 3, .iadd, .invokeinterface 220 2, .bipush 97, .bipush 122, .invokeinterface 200 3, .ifCond .eq 92, .iload 4, .ifCond .eq 83, .aload 0, .iload 2, .iload 3, .iadd, .invokeinterface 220 2, .bipush 104, .if_icmp .gt 83, .bipush 1, .goto 84] := rfl
theorem a229_35 {tb : Tab} {d : Nat} {K : Out → AM → Prop} {ls st : List AV} {m : AM} : At tb d 229 K 35 ls st m = wpB tb (pg.2.1 229) (Runs tb pg d) K (At tb d 229 K) [.iload 2, .iload 3, .iadd, .aload 0, .getfield 1010, .if_icmp .ge 92, .aload 0, .iload 2, .iload 3, .iadd, .invokeinterface 220 2, .bipush 97, .bipush 122, .invokeinterface 200 3, .ifCond .eq 92, .iload 4, .ifCond .eq 83, .aload 0, .iload 2, .iload 3, .iadd, .invokeinterface 220 2, .bipush 104, .if_icmp .gt 83, .bipush 1, .goto 84] ls st m := At.eq k229_35
theorem k229_83 : pg.1 229 83 = [.bipush 0, .jsr 84] := rfl
theorem a229_83 {tb : Tab} {d : Nat} {K : Out → AM → Prop} {ls st : List AV} {m : AM} : At tb d 229 K 83 ls st m = wpB tb (pg.2.1 229) (Runs tb pg d) K (At tb d 229 K) [.bipush 0, .jsr 84] ls st m := At.eq k229_83
theorem k229_84 : pg.1 229 84 = [.istore 4, .iinc 3 1, .goto 35] := rfl
theorem a229_84 {tb : Tab} {d : Nat} {K : Out → AM → Prop} {ls st : List AV} {m : AM} : At tb d 229 K 84 ls st m = wpB tb (pg.2.1 229) (Runs tb pg d) K (At tb d 229 K) [.istore 4, .iinc 3 1, .goto 35] ls st m := At.eq k229_84
theorem k229_92 : pg.1 229 92 = [.iload 4, .ifCond .eq 107, .iload 3, .bipush 1, .bipush 6, .invokeinterface 200 3, .ifCond .ne 113, .jsr 107] := rfl
theorem a229_92 {tb : Tab} {d : Nat} {K : Out → AM → Prop} {ls st : List AV} {m : AM} : At tb d 229 K 92 ls st m = wpB tb (pg.2.1 229) (Runs tb pg d) K (At tb d 229 K) [.iload 4, .ifCond .eq 107, .iload 3, .bipush 1, .bipush 6, .invokeinterface 200 3, .ifCond .ne 113, .jsr 107] ls st m := At.eq k229_92
theorem k229_107 : pg.1 229 107 = [.aload 0, .iload 2, .invokeinterface 224 2, .return_] := rfl
theorem a229_107 {tb : Tab} {d : Nat} {K : Out → AM → Prop} {ls st : List AV} {m : AM} : At tb d 229 K 107 ls st m = wpB tb (pg.2.1 229) (Runs tb pg d) K (At tb d 229 K) [.aload 0, .iload 2, .invokeinterface 224 2, .return_] ls st m := At.eq k229_107
theorem k229_113 : pg.1 229 113 = [.aload 0, .iload 2, .iload 3, .iadd, .putfield 1011, .aload 0, .getfield 1001, .bipush 4, .iaload, .istore 5, .aload 0, .iload 5, .bipush 0, .iload 3, .invokeinterface 207 4, .aload 0, .iload 5, .bipush 1, .bipush (-1), .invokeinterface 207 4, .bipush 0, .istore 6, .jsr 147] := rfl
theorem a229_113 {tb : Tab} {d : Nat} {K : Out → AM → Prop} {ls st : List AV} {m : AM} : At tb d 229 K 113 ls st m = wpB tb (pg.2.1 229) (Runs tb pg d) K (At tb d 229 K) [.aload 0, .iload 2, .iload 3, .iadd, .putfield 1011, .aload 0, .getfield 1001, .bipush 4, .iaload, .istore 5, .aload 0, .iload 5, .bipush 0, .iload 3, .invokeinterface 207 4, .aload 0, .iload 5, .bipush 1, .bipush (-1), .invokeinterface 207 4, .bipush 0, .istore 6, .jsr 147] ls st m := At.eq k229_113
theorem k229_147 : pg.1 229 147 = [.iload 6, .bipush 6, .if_icmp .ge 215, .aload 0, .iload 5, .bipush 2, .iload 6, .iadd, .iload 6, .iload 3, .if_icmp .ge 181, .aload 0, .iload 2, .iload 6, .iadd, .invokeinterface 220 2, .bipush 97, .isub, .goto 182] := rfl
theorem a229_147 {tb : Tab} {d : Nat} {K : Out → AM → Prop} {ls st : List AV} {m : AM} : At tb d 229 K 147 ls st m = wpB tb (pg.2.1 229) (Runs tb pg d) K (At tb d 229 K) [.iload 6, .bipush 6, .if_icmp .ge 215, .aload 0, .iload 5, .bipush 2, .iload 6, .iadd, .iload 6, .iload 3, .if_icmp .ge 181, .aload 0, .iload 2, .iload 6, .iadd, .invokeinterface 220 2, .bipush 97, .isub, .goto 182] ls st m := At.eq k229_147
theorem k229_181 : pg.1 229 181 = [.bipush (-1), .jsr 182] := rfl
theorem a229_181 {tb : Tab} {d : Nat} {K : Out → AM → Prop} {ls st : List AV} {m : AM} : At tb d 229 K 181 ls st m = wpB tb (pg.2.1 229) (Runs tb pg d) K (At tb d 229 K) [.bipush (-1), .jsr 182] ls st m := At.eq k229_181
theorem k229_182 : pg.1 229 182 = [.invokeinterface 207 4, .aload 0, .iload 5, .bipush 8, .iload 6, .iadd, .bipush (-1), .invokeinterface 207 4, .aload 0, .iload 5, .bipush 14, .iload 6, .iadd, .bipush 0, .invokeinterface 207 4, .iinc 6 1, .goto 147] := rfl
theorem a229_182 {tb : Tab} {d : Nat} {K : Out → AM → Prop} {ls st : List AV} {m : AM} : At tb d 229 K 182 ls st m = wpB tb (pg.2.1 229) (Runs tb pg d) K (At tb d 229 K) [.invokeinterface 207 4, .aload 0, .iload 5, .bipush 8, .iload 6, .iadd, .bipush (-1), .invokeinterface 207 4, .aload 0, .iload 5, .bipush 14, .iload 6, .iadd, .bipush 0, .invokeinterface 207 4, .iinc 6 1, .goto 147] ls st m := At.eq k229_182
theorem k229_215 : pg.1 229 215 = [.aload 0, .getfield 1001, .bipush 4, .dup2, .iaload, .bipush 1, .iadd, .iastore, .aload 0, .ldc 5, .invokeinterface 223 2, .ifCond .ne 235, .return_] := rfl
theorem a229_215 {tb : Tab} {d : Nat} {K : Out → AM → Prop} {ls st : List AV} {m : AM} : At tb d 229 K 215 ls st m = wpB tb (pg.2.1 229) (Runs tb pg d) K (At tb d 229 K) [.aload 0, .getfield 1001, .bipush 4, .dup2, .iaload, .bipush 1, .iadd, .iastore, .aload 0, .ldc 5, .invokeinterface 223 2, .ifCond .ne 235, .return_] ls st m := At.eq k229_215
theorem k229_235 : pg.1 229 235 = [.aload 0, .invokeinterface 225 1, .istore 6, .aload 0, .bipush 0, .aload 0, .getfield 1001, .bipush 3, .iaload, .bipush 1, .isub, .invokeinterface 226 3, .istore 7, .aload 0, .getfield 1012, .bipush (-1), .if_icmp .ne 281, .aload 0, .iload 5, .iload 7, .invokeinterface 217 3, .ifCond .ne 281, .aload 0, .iload 6, .invokeinterface 224 2, .jsr 281] := rfl
theorem a229_235 {tb : Tab} {d : Nat} {K : Out → AM → Prop} {ls st : List AV} {m : AM} : At tb d 229 K 235 ls st m = wpB tb (pg.2.1 229) (Runs tb pg d) K (At tb d 229 K) [.aload 0, .invokeinterface 225 1, .istore 6, .aload 0, .bipush 0, .aload 0, .getfield 1001, .bipush 3, .iaload, .bipush 1, .isub, .invokeinterface 226 3, .istore 7, .aload 0, .getfield 1012, .bipush (-1), .if_icmp .ne 281, .aload 0, .iload 5, .iload 7, .invokeinterface 217 3, .ifCond .ne 281, .aload 0, .iload 6, .invokeinterface 224 2, .jsr 281] ls st m := At.eq k229_235
theorem k229_281 : pg.1 229 281 = [.aload 0, .getfield 1012, .bipush (-1), .if_icmp .ne 297, .aload 0, .iload 5, .iload 7, .invokeinterface 230 3, .jsr 297] := rfl
theorem a229_281 {tb : Tab} {d : Nat} {K : Out → AM → Prop} {ls st : List AV} {m : AM} : At tb d 229 K 281 ls st m = wpB tb (pg.2.1 229) (Runs tb pg d) K (At tb d 229 K) [.aload 0, .getfield 1012, .bipush (-1), .if_icmp .ne 297, .aload 0, .iload 5, .iload 7, .invokeinterface 230 3, .jsr 297] ls st m := At.eq k229_281
theorem k229_297 : pg.1 229 297 = [.return_] := rfl
theorem a229_297 {tb : Tab} {d : Nat} {K : Out → AM → Prop} {ls st : List AV} {m : AM} : At tb d 229 K 297 ls st m = wpB tb (pg.2.1 229) (Runs tb pg d) K (At tb d 229 K) [.return_] ls st m := At.eq k229_297
theorem q_229 {bg : Int} (hX : tb.2.1 = strB) (hP : TP t n S) (hD : AskD tb ev good) (hA : AB (S 301)) (hG : good (lawD (S 301))) (ha : 0 ≤ a ∧ a ≤ 1000) (hbg : 0 ≤ bg ∧ bg ≤ 1000) (hN : ∀ r e b T, nmP ev t n (S 301) bg a = .inl b → LQ (S 301) r → 0 ≤ e → e ≤ 1000 → 0 ≤ b → b ≤ 1000 → RT S r e b T → K (.inl none) (X T m)) (hK : ∀ r e T, nmP ev t n (S 301) bg a = .inr (r, e) → RT S r e (-1) T → K (.inl none) (X T m)) : Runs tb pg (d + 63) 229 [vr 300, vi bg] (X (tS S a (-1)) m) K := by
  have k1 : 1 < 39 := by decide
  have k2 : 2 < 39 := by decide
  have k3 : 3 < 39 := by decide
  have k0 : 0 < 39 := by decide
  have hT := TP_X hP
  have hn := hT.1
  have hn2 := hT.2.1
  have g5 : ∀ a, a ≤ n → a ≤ skp t n a ∧ skp t n a ≤ n := fun a z => ⟨skp_ge, skp_le z⟩
  have g7 : ∀ a, a ≤ 1000 → a ≤ skp t n a ∧ skp t n a ≤ 1000 := fun a z => ⟨skp_ge, skp_b z (by omega)⟩
  have b3 := hA.2.1.1
  have b4 := hA.2.1.2.1
  have k5 : 5 < 39 := by decide
  have hr := hT.2.2.1
  have g0 := skp_ge (t := t) (n := n) (a := a)
  have g8 := g7 a ha.2
  obtain ⟨b, hb⟩ : ∃ b, b = skp t n a := ⟨_, rfl⟩
  obtain ⟨c, hc⟩ : ∃ c, c = ltE t n b := ⟨_, rfl⟩
  obtain ⟨L, hL⟩ : ∃ L, L = c - b := ⟨_, rfl⟩
  have l1 := ltE_rg (t := t) (n := n) (a := b)
  have l2 := (scn_rg (c := fun j => 97 ≤ t j ∧ t j ≤ 122) (n := n) (i := b)).2.2
  rw [show scn (fun j => 97 ≤ t j ∧ t j ≤ 122) n b = c from hc.symm] at l2
  rw [← hc] at l1
  rw [← hb] at g8 g0
  have l3 : ∀ i, 0 ≤ i → i < L → b + i < n ∧ 97 ≤ t (b + i) ∧ t (b + i) ≤ 122 := fun i i0 i1 => by have := l2.1 (b + i) (by omega) (by omega); exact ⟨this.1, this.2.1, this.2.2⟩
  have l4 : b + L < n → ¬ (97 ≤ t (b + L) ∧ t (b + L) ≤ 122) := by rw [show b + L = c by omega]; exact l2.2
  have hnm0 : S 301 4 ≠ 6 → ¬ (gdW t b L ∧ 1 ≤ L ∧ L ≤ 6) → nmP ev t n (S 301) bg a = .inl b := fun z y => by
    rw [hb]; refine nmP_1 z ?_; rw [← hb, ← hc, ← hL]; exact y
  have hnm1 : S 301 4 ≠ 6 → (gdW t b L ∧ 1 ≤ L ∧ L ≤ 6) → nmP ev t n (S 301) bg a = onP ev t n (namR (S 301) t b L) (S 301 4) c := fun z y => by
    rw [nmP_2 z (by rw [← hb, ← hc, ← hL]; exact y), ← hb, ← hc, ← hL]
  have h215 : S 301 4 ≠ 6 → (gdW t b L ∧ 1 ≤ L ∧ L ≤ 6) → ∀ (T : Nat → Int → Int) (z5 z6 z7 : AV), T = sR S (namP (S 301) t b L 6) → At tb (d + 62) 229 K 215 [vr 300, vi bg, vi b, vi L, z5, vi (S 301 4), z6, z7] [] (X (tS T c (-1)) m) := by
    intro h4 hgd T z5 z6 z7 hT9
    have e1 := hnm1 h4 hgd
    have aR := namR_AB (t := t) (b := b) (k := L) hA (by omega) hgd.2 (fun j j0 j1 => by have z1 := l3 j j0 j1; have z2 := hgd.1 j j0 j1; omega)
    have qR := namR_LQ (t := t) (b := b) (k := L) (r := S 301) (by omega)
    obtain ⟨r1, hr1⟩ : ∃ r1, r1 = namR (S 301) t b L := ⟨_, rfl⟩
    have hr3 : r1 3 = S 301 3 := by rw [hr1]; exact namR_o (by omega) (by omega) (by omega)
    rw [← hr1] at e1 aR qR
    have hT1 : ∀ v, v = S 301 4 + 1 → sR T (putR (T 301) 4 v) = sR S r1 := fun v hv => by rw [hT9, hr1, hv, sR_sR, sR_r]; rfl
    have hT4 : T 301 4 = S 301 4 := by rw [hT9]; exact (show namP (S 301) t b L 6 4 = S 301 4 by unfold namP; rw [if_neg (by omega), if_neg (by omega), if_neg (by omega), if_neg (by omega), if_neg (by omega)])
    have hT2 : TX t n (sR S r1) := TP_X (TP_q hP)
    have hB1 : BR (sR S r1) := ABs aR
    have hG1 : good (lawD (sR S r1 301)) := by rw [sR_r, lawD_LQ qR]; exact hG
    have c1 : c ≤ n := by omega
    have g9 := g5 c c1
    have e2 := (strB 5).length
    have w5 : (strB 5).length = 2 := by decide
    have g10 : wdP t n (skp t n c) (strB 5) → skp t n c + (strB 5).length ≤ n := fun y => by
      have z1 := y.1
      have z2 := ltE_rg (t := t) (n := n) (a := skp t n c)
      omega
    rw [a229_215]
    repeat' (first | omega | (refine hK r1 _ _ ?_ RT_0) | (refine hN r1 _ _ _ ?_ qR ?_ ?_ ?_ ?_ RT_0) | simp only [w_aload, x_g1001_300, w_iconst, x_iald, w_ialoads, w_ialoadw, w_ifc, cI, Int.reduceToNat, w_iload, w_call, w_fall, x_g1012_300, w_return, w_istore, w_iadd, x_g1010_300, w_if, w_goto, w_iinc, lgB, Nat.reduceSub, x_p1011_300, w_isub, w_dup2, x_iast, w_ldc, isA_301, isA_302, isA_303, isA_304, isA_305, isA_307, isA_308, isA_309, isA_310, isA_311, isA_312, isA_313, isA_314, isA_315, len_301, len_302, len_303, len_304, len_305, len_307, len_308, len_309, len_310, len_311, len_312, len_313, len_314, len_315, Int.cast_ofNat_Int, a229_0, a229_16, a229_25, a229_83, a229_84, a229_92, a229_107, a229_113, a229_181, a229_182, a229_235, a229_281, a229_297, R32, List.getElem?_cons_zero, List.getElem?_cons_succ, List.set_cons_zero, List.set_cons_succ, List.cons_append, List.nil_append, List.replicate_succ, List.replicate_zero, List.take_succ_cons, List.take_zero, List.drop_succ_cons, List.drop_zero, List.reverse_cons, List.reverse_nil, List.length_cons, List.length_nil, Option.toList, true_and, and_true, eq_self, ↓reduceIte, not_true_eq_false, not_false_eq_true, true_or, or_true, tS_11, tS_12, tS_8, tS_9, tS_10, tS_13, tS_15, tS_16, tS_17, tS_18, tS_19, tS_301, tS_303, tS_305, tS_306, tS_u11, tS_u12, tS_tS, tS_u1, sR_sR, sR_r, tS_q] | (rw [hT1 _ (by omega)]) | with_reducible refine q_223 (k := 5) hX k5 hT2 ?_ (fun b9 e9 e8 => ?_) (fun b9 b8 e9 e8 e7 => ?_) | with_reducible refine q_225 hT2 ?_ (fun w1 w2 => ?_) | with_reducible refine q_226 hT2 ?_ ?_ (fun v3 c3 b3 n3 x1 x2 x3 x4 => ?_) (fun p3 a3 y3 => ?_) | (have q0 := y3; refine q_217 (S := tS (sR S r1) a3 (-1)) hB1 ?_ ?_ (fun r7 (d7 : yn r7 (rooM r1 (S 301 4) p3)) => ?_)) | (have q0 := d7; refine q_224n ?_) | (have q0 := y3; refine q_230 (S := sR S r1) hD aR hG1 ?_ ?_ (fun T9 e6 => ?_)) | (have q0 := e6; refine hK _ _ T9 ?_ (RT_s e6)) | with_reducible refine And.intro ?_ ?_ | with_reducible intro _)
    all_goals (try (first | omega | contradiction | (rw [e1, e9]; exact onP_0 (by rw [← e9]; exact e8)) | (subst w2 e7 e9; rw [e1]; first | (rw [numP_skp] at n3; exact onP_1 e8 n3) | (rw [numP_skp] at y3; first | (rcases d7 with ⟨d1, d2⟩ | ⟨d1, d2⟩; all_goals first | omega | exact onP_2 e8 y3 d2 | exact onP_3 e8 y3 d2))) | (have z3 := g10 (by rw [← e9]; exact e8); rw [← e9] at z3; have z4 := g5 b8 (by omega); first | omega | (have z5 := numP_rg y3; first | omega | (unfold yn at d7; omega))) | (unfold R32; omega) | (constructor <;> unfold R32 <;> omega) | (rcases d7 with ⟨d1, d2⟩ | ⟨d1, d2⟩ <;> omega)))
  have h147 : S 301 4 ≠ 6 → (gdW t b L ∧ 1 ≤ L ∧ L ≤ 6) → ∀ (T : Nat → Int → Int) (z5 z7 : AV), T = sR S (namP (S 301) t b L 0) → At tb (d + 62) 229 K 147 [vr 300, vi bg, vi b, vi L, z5, vi (S 301 4), vi 0, z7] [] (X (tS T c (-1)) m) := by
    intro h4 hgd T0 z5 z7 hT0
    have hL147 : (fun i : Int => ∀ (z7 : AV) (T : Nat → Int → Int), (T = sR S (namP (S 301) t b L i)) → At tb (d + 62) 229 K 147 [vr 300, vi bg, vi b, vi L, z5, vi (S 301 4), vi i, z7] [] (X (tS T c (-1)) m)) 0 := by
      refine loopZ (fun i : Int => ∀ (z7 : AV) (T : Nat → Int → Int), (T = sR S (namP (S 301) t b L i)) → At tb (d + 62) 229 K 147 [vr 300, vi bg, vi b, vi L, z5, vi (S 301 4), vi i, z7] [] (X (tS T c (-1)) m)) (6) (by omega) ?_ ?_
      · intro i h0 h1 h9 z7 T hT
        have hTT : TX t n T := by rw [hT]; exact TP_X (TP_q hP)
        have l5 := l3 i h0
        have l6 := hgd.1 i h0
        rw [a229_147]
        repeat' (first | omega | with_reducible refine h9 _ _ ?_ | simp only [w_aload, x_g1001_300, w_iconst, x_iald, w_ialoads, w_ialoadw, w_ifc, cI, Int.reduceToNat, w_iload, w_call, w_fall, x_g1012_300, w_return, w_istore, w_iadd, x_g1010_300, w_if, w_goto, w_iinc, lgB, Nat.reduceSub, x_p1011_300, w_isub, w_dup2, x_iast, w_ldc, isA_301, isA_302, isA_303, isA_304, isA_305, isA_307, isA_308, isA_309, isA_310, isA_311, isA_312, isA_313, isA_314, isA_315, len_301, len_302, len_303, len_304, len_305, len_307, len_308, len_309, len_310, len_311, len_312, len_313, len_314, len_315, Int.cast_ofNat_Int, a229_0, a229_16, a229_25, a229_83, a229_84, a229_92, a229_107, a229_113, a229_181, a229_182, a229_235, a229_281, a229_297, R32, List.getElem?_cons_zero, List.getElem?_cons_succ, List.set_cons_zero, List.set_cons_succ, List.cons_append, List.nil_append, List.replicate_succ, List.replicate_zero, List.take_succ_cons, List.take_zero, List.drop_succ_cons, List.drop_zero, List.reverse_cons, List.reverse_nil, List.length_cons, List.length_nil, Option.toList, true_and, and_true, eq_self, ↓reduceIte, not_true_eq_false, not_false_eq_true, true_or, or_true, tS_11, tS_12, tS_8, tS_9, tS_10, tS_13, tS_15, tS_16, tS_17, tS_18, tS_19, tS_301, tS_303, tS_305, tS_306, tS_u11, tS_u12, tS_tS, tS_u1, sR_sR, sR_r, tS_q] | with_reducible refine q_220 hTT ?_ ?_ | with_reducible refine q_207 ?_ ?_ ?_ | with_reducible refine And.intro ?_ ?_ | with_reducible intro _)
        all_goals (try (first | omega | contradiction | (rw [hT]; simp only [sR_sR, sR_r]; refine congrArg (sR _) (funext fun j => ?_); simp only [putR, namP]; grind)))
      · intro z7 T hT
        rw [a229_147]
        repeat' (first | omega | with_reducible refine h215 h4 hgd _ _ _ _ hT | simp only [w_aload, x_g1001_300, w_iconst, x_iald, w_ialoads, w_ialoadw, w_ifc, cI, Int.reduceToNat, w_iload, w_call, w_fall, x_g1012_300, w_return, w_istore, w_iadd, x_g1010_300, w_if, w_goto, w_iinc, lgB, Nat.reduceSub, x_p1011_300, w_isub, w_dup2, x_iast, w_ldc, isA_301, isA_302, isA_303, isA_304, isA_305, isA_307, isA_308, isA_309, isA_310, isA_311, isA_312, isA_313, isA_314, isA_315, len_301, len_302, len_303, len_304, len_305, len_307, len_308, len_309, len_310, len_311, len_312, len_313, len_314, len_315, Int.cast_ofNat_Int, a229_0, a229_16, a229_25, a229_83, a229_84, a229_92, a229_107, a229_113, a229_181, a229_182, a229_235, a229_281, a229_297, R32, List.getElem?_cons_zero, List.getElem?_cons_succ, List.set_cons_zero, List.set_cons_succ, List.cons_append, List.nil_append, List.replicate_succ, List.replicate_zero, List.take_succ_cons, List.take_zero, List.drop_succ_cons, List.drop_zero, List.reverse_cons, List.reverse_nil, List.length_cons, List.length_nil, Option.toList, true_and, and_true, eq_self, ↓reduceIte, not_true_eq_false, not_false_eq_true, true_or, or_true, tS_11, tS_12, tS_8, tS_9, tS_10, tS_13, tS_15, tS_16, tS_17, tS_18, tS_19, tS_301, tS_303, tS_305, tS_306, tS_u11, tS_u12, tS_tS, tS_u1, sR_sR, sR_r, tS_q] | with_reducible refine q_220 hTT ?_ ?_ | with_reducible refine q_207 ?_ ?_ ?_ | with_reducible refine And.intro ?_ ?_ | with_reducible intro _)
        all_goals (try (first | omega | contradiction | omega))
    exact hL147 _ _ hT0
  have h92 : ∀ (g : Int) (z5 z6 z7 : AV), S 301 4 ≠ 6 → yn g (gdW t b L) → At tb (d + 62) 229 K 92 [vr 300, vi bg, vi b, vi L, vi g, z5, z6, z7] [] (X (tS S b (-1)) m) := by
    intro g z5 z6 z7 h4 hg
    have hcL : b + L = c := by omega
    have hg1 : g ≠ 0 → gdW t b L := fun z => by rcases hg with y | y; exact y.2; omega
    have hg0 : g = 0 → ¬ gdW t b L := fun z => by rcases hg with y | y; omega; exact y.2
    have hg2 : g = 0 ∨ g = 1 := by rcases hg with y | y <;> omega
    rw [a229_92]
    repeat' (first | omega | with_reducible refine h147 h4 ?_ _ _ _ ?_ | (refine hN (S 301) _ _ _ ?_ LQ_r ?_ ?_ ?_ ?_ RT_1) | simp only [w_aload, x_g1001_300, w_iconst, x_iald, w_ialoads, w_ialoadw, w_ifc, cI, Int.reduceToNat, w_iload, w_call, w_fall, x_g1012_300, w_return, w_istore, w_iadd, x_g1010_300, w_if, w_goto, w_iinc, lgB, Nat.reduceSub, x_p1011_300, w_isub, w_dup2, x_iast, w_ldc, isA_301, isA_302, isA_303, isA_304, isA_305, isA_307, isA_308, isA_309, isA_310, isA_311, isA_312, isA_313, isA_314, isA_315, len_301, len_302, len_303, len_304, len_305, len_307, len_308, len_309, len_310, len_311, len_312, len_313, len_314, len_315, Int.cast_ofNat_Int, a229_0, a229_16, a229_25, a229_83, a229_84, a229_107, a229_113, a229_181, a229_182, a229_235, a229_281, a229_297, R32, List.getElem?_cons_zero, List.getElem?_cons_succ, List.set_cons_zero, List.set_cons_succ, List.cons_append, List.nil_append, List.replicate_succ, List.replicate_zero, List.take_succ_cons, List.take_zero, List.drop_succ_cons, List.drop_zero, List.reverse_cons, List.reverse_nil, List.length_cons, List.length_nil, Option.toList, true_and, and_true, eq_self, ↓reduceIte, not_true_eq_false, not_false_eq_true, true_or, or_true, tS_11, tS_12, tS_8, tS_9, tS_10, tS_13, tS_15, tS_16, tS_17, tS_18, tS_19, tS_301, tS_303, tS_305, tS_306, tS_u11, tS_u12, tS_tS, tS_u1, sR_sR, sR_r, tS_q] | (rw [hcL]) | with_reducible refine q_200s ?_ ?_ ?_ (fun _ => ?_) (fun _ => ?_) | with_reducible refine q_224n ?_ | with_reducible refine q_207 ?_ ?_ ?_ | with_reducible refine And.intro ?_ ?_ | with_reducible intro _)
    all_goals (try (first | omega | contradiction | (exact hg1 (by omega)) | (exact hnm0 h4 (fun z => hg0 (by assumption) z.1)) | (exact hnm0 h4 (fun z => by have := z.2; omega)) | (exact ⟨hg1 (by assumption), by omega, by omega⟩) | (refine congrArg (sR _) (funext fun j => ?_); simp only [putR, namP]; grind) | (unfold R32; omega)))
  have h35 : S 301 4 ≠ 6 → ∀ z5 z6 z7 : AV, At tb (d + 62) 229 K 35 [vr 300, vi bg, vi b, vi 0, vi 1, z5, z6, z7] [] (X (tS S b (-1)) m) := by
    intro h4 z5 z6 z7
    have hL35 : (fun i : Int => ∀ (z5 : AV) (z6 : AV) (z7 : AV) (g : Int), (yn g (gdW t b i)) → At tb (d + 62) 229 K 35 [vr 300, vi bg, vi b, vi i, vi g, z5, z6, z7] [] (X (tS S b (-1)) m)) 0 := by
      refine loopZ (fun i : Int => ∀ (z5 : AV) (z6 : AV) (z7 : AV) (g : Int), (yn g (gdW t b i)) → At tb (d + 62) 229 K 35 [vr 300, vi bg, vi b, vi i, vi g, z5, z6, z7] [] (X (tS S b (-1)) m)) (L) (by omega) ?_ ?_
      · intro i h0 h1 h9 z5 z6 z7 g hg
        have l5 := l3 i h0 h1
        have hg2 : g = 0 ∨ g = 1 := by rcases hg with y | y <;> omega
        have hg1 : g ≠ 0 → gdW t b i := fun z => by rcases hg with y | y; exact y.2; omega
        have hg0 : g = 0 → ¬ gdW t b i := fun z => by rcases hg with y | y; omega; exact y.2
        rw [a229_35]
        repeat' (first | omega | with_reducible refine h9 _ _ _ _ ?_ | simp only [w_aload, x_g1001_300, w_iconst, x_iald, w_ialoads, w_ialoadw, w_ifc, cI, Int.reduceToNat, w_iload, w_call, w_fall, x_g1012_300, w_return, w_istore, w_iadd, x_g1010_300, w_if, w_goto, w_iinc, lgB, Nat.reduceSub, x_p1011_300, w_isub, w_dup2, x_iast, w_ldc, isA_301, isA_302, isA_303, isA_304, isA_305, isA_307, isA_308, isA_309, isA_310, isA_311, isA_312, isA_313, isA_314, isA_315, len_301, len_302, len_303, len_304, len_305, len_307, len_308, len_309, len_310, len_311, len_312, len_313, len_314, len_315, Int.cast_ofNat_Int, a229_0, a229_16, a229_25, a229_83, a229_84, a229_107, a229_113, a229_181, a229_182, a229_215, a229_235, a229_281, a229_297, R32, List.getElem?_cons_zero, List.getElem?_cons_succ, List.set_cons_zero, List.set_cons_succ, List.cons_append, List.nil_append, List.replicate_succ, List.replicate_zero, List.take_succ_cons, List.take_zero, List.drop_succ_cons, List.drop_zero, List.reverse_cons, List.reverse_nil, List.length_cons, List.length_nil, Option.toList, true_and, and_true, eq_self, ↓reduceIte, not_true_eq_false, not_false_eq_true, true_or, or_true, tS_11, tS_12, tS_8, tS_9, tS_10, tS_13, tS_15, tS_16, tS_17, tS_18, tS_19, tS_301, tS_303, tS_305, tS_306, tS_u11, tS_u12, tS_tS, tS_u1, sR_sR, sR_r, tS_q] | with_reducible refine q_220 hT ?_ ?_ | with_reducible refine q_200s ?_ ?_ ?_ (fun _ => ?_) (fun _ => ?_) | with_reducible refine And.intro ?_ ?_ | with_reducible intro _)
        all_goals (try (first | omega | contradiction | (exact Or.inl ⟨rfl, gdW_y (hg1 (by omega)) (by omega)⟩) | (exact Or.inr ⟨rfl, gdW_n h0 (by omega)⟩) | (exact Or.inr ⟨rfl, gdW_m (hg0 (by omega))⟩) | (unfold R32; omega)))
      · intro z5 z6 z7 g hg
        have hr9 := hr (b + L)
        rw [a229_35]
        repeat' (first | omega | with_reducible refine h92 _ _ _ _ h4 hg | simp only [w_aload, x_g1001_300, w_iconst, x_iald, w_ialoads, w_ialoadw, w_ifc, cI, Int.reduceToNat, w_iload, w_call, w_fall, x_g1012_300, w_return, w_istore, w_iadd, x_g1010_300, w_if, w_goto, w_iinc, lgB, Nat.reduceSub, x_p1011_300, w_isub, w_dup2, x_iast, w_ldc, isA_301, isA_302, isA_303, isA_304, isA_305, isA_307, isA_308, isA_309, isA_310, isA_311, isA_312, isA_313, isA_314, isA_315, len_301, len_302, len_303, len_304, len_305, len_307, len_308, len_309, len_310, len_311, len_312, len_313, len_314, len_315, Int.cast_ofNat_Int, a229_0, a229_16, a229_25, a229_83, a229_84, a229_107, a229_113, a229_181, a229_182, a229_215, a229_235, a229_281, a229_297, R32, List.getElem?_cons_zero, List.getElem?_cons_succ, List.set_cons_zero, List.set_cons_succ, List.cons_append, List.nil_append, List.replicate_succ, List.replicate_zero, List.take_succ_cons, List.take_zero, List.drop_succ_cons, List.drop_zero, List.reverse_cons, List.reverse_nil, List.length_cons, List.length_nil, Option.toList, true_and, and_true, eq_self, ↓reduceIte, not_true_eq_false, not_false_eq_true, true_or, or_true, tS_11, tS_12, tS_8, tS_9, tS_10, tS_13, tS_15, tS_16, tS_17, tS_18, tS_19, tS_301, tS_303, tS_305, tS_306, tS_u11, tS_u12, tS_tS, tS_u1, sR_sR, sR_r, tS_q] | with_reducible refine q_220 hT ?_ ?_ | with_reducible refine q_200s ?_ ?_ ?_ (fun _ => ?_) (fun _ => ?_) | with_reducible refine And.intro ?_ ?_ | with_reducible intro _)
        all_goals (try (first | omega | contradiction | omega))
    exact hL35 _ _ _ _ (Or.inl ⟨rfl, gdW_0⟩)
  refine Runs.of (al := [vr 300, vi bg]) (n := 6) ⟨300, _, _, rfl, xo_300⟩ rfl rfl trivial ?_
  repeat' (first | omega | with_reducible refine h35 ?_ _ _ _ | (refine hN (S 301) _ _ _ ?_ LQ_r ?_ ?_ ?_ ?_ RT_1) | simp only [w_aload, x_g1001_300, w_iconst, x_iald, w_ialoads, w_ialoadw, w_ifc, cI, Int.reduceToNat, w_iload, w_call, w_fall, x_g1012_300, w_return, w_istore, w_iadd, x_g1010_300, w_if, w_goto, w_iinc, lgB, Nat.reduceSub, x_p1011_300, w_isub, w_dup2, x_iast, w_ldc, isA_301, isA_302, isA_303, isA_304, isA_305, isA_307, isA_308, isA_309, isA_310, isA_311, isA_312, isA_313, isA_314, isA_315, len_301, len_302, len_303, len_304, len_305, len_307, len_308, len_309, len_310, len_311, len_312, len_313, len_314, len_315, Int.cast_ofNat_Int, a229_0, a229_16, a229_25, a229_83, a229_84, a229_92, a229_107, a229_113, a229_181, a229_182, a229_215, a229_235, a229_281, a229_297, R32, List.getElem?_cons_zero, List.getElem?_cons_succ, List.set_cons_zero, List.set_cons_succ, List.cons_append, List.nil_append, List.replicate_succ, List.replicate_zero, List.take_succ_cons, List.take_zero, List.drop_succ_cons, List.drop_zero, List.reverse_cons, List.reverse_nil, List.length_cons, List.length_nil, Option.toList, true_and, and_true, eq_self, ↓reduceIte, not_true_eq_false, not_false_eq_true, true_or, or_true, tS_11, tS_12, tS_8, tS_9, tS_10, tS_13, tS_15, tS_16, tS_17, tS_18, tS_19, tS_301, tS_303, tS_305, tS_306, tS_u11, tS_u12, tS_tS, tS_u1, sR_sR, sR_r, tS_q] | with_reducible refine q_224n ?_ | (refine q_225 hT ha (fun b9 e9 => ?_); rw [← hb] at e9; have e8 := e9.symm; clear e9; subst e8) | with_reducible refine And.intro ?_ ?_ | with_reducible intro _)
  all_goals (try (first | omega | contradiction | exact nmP_0 (by omega)))
end Ref39
