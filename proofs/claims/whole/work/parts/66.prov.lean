/-! ===== THE REFERENCE: the lines of the province ===== -/
/-- a text on the tape, of the province -/
def TP (t : Int → Int) (n : Int) (S : Nat → Int → Int) : Prop := S 300 10 = n ∧ (0 ≤ n ∧ n ≤ 400) ∧ (∀ k, 0 ≤ k → k < n → -1 ≤ t k ∧ t k ≤ 10000) ∧ (S 300 9 = -1 ∧ ∀ k, 0 ≤ k → k < n → t k = S 305 k)
theorem TP_X {t : Int → Int} {n : Int} {S : Nat → Int → Int} (h : TP t n S) : TX t n S := ⟨h.1, h.2.1, h.2.2.1, Or.inl h.2.2.2⟩
theorem TP_t {t : Int → Int} {n a f : Int} {S : Nat → Int → Int} (h : TP t n S) : TP t n (tS S a f) := h
theorem TP_q {t : Int → Int} {n : Int} {S : Nat → Int → Int} {r : Int → Int} (h : TP t n S) : TP t n (sR S r) := h
theorem tS_q {S : Nat → Int → Int} {a f : Int} {r : Int → Int} : sR (tS S a f) r = tS (sR S r) a f := by
  funext b
  unfold sR tS
  by_cases h : b = 301
  · subst h; rfl
  · by_cases h2 : b = 300
    · subst h2; rfl
    · show (if b = 301 then r else if b = 300 then _ else S b) = if b = 300 then _ else if b = 301 then r else S b
      rw [if_neg h, if_neg h2, if_neg h2, if_neg h]
theorem tS_u1 {S : Nat → Int → Int} {a f i v : Int} : upS (tS S a f) 301 i v = tS (sR S (putR (S 301) i v)) a f := by rw [upS_301, tS_q]; rfl
/-- while a text is read: the row is r, one stands at a, f is wrong -/
def RT (S : Nat → Int → Int) (r : Int → Int) (a f : Int) (T : Nat → Int → Int) : Prop := SR (tS (sR S r) a f) T ∧ T 300 9 = S 300 9 ∧ T 300 10 = S 300 10 ∧ T 300 11 = a
theorem RT_0 {S : Nat → Int → Int} {r : Int → Int} {a f : Int} : RT S r a f (tS (sR S r) a f) := ⟨SR_refl, rfl, rfl, rfl⟩
theorem RT_1 {S : Nat → Int → Int} {a f : Int} : RT S (S 301) a f (tS S a f) := by
  have h := RT_0 (S := S) (r := S 301) (a := a) (f := f)
  rw [sR_id] at h
  exact h
theorem RT_m {S T : Nat → Int → Int} {r : Int → Int} {a f : Int} (h : RT S r a f T) : T 301 = r := by rw [SR_m h.1]; rfl
theorem RT_12 {S T : Nat → Int → Int} {r : Int → Int} {a f : Int} (h : RT S r a f T) : T 300 12 = f := h.1.2 12 (by omega)
theorem RT_id {S T : Nat → Int → Int} {r : Int → Int} {a f : Int} (h : RT S r a f T) : tS T a f = T := by
  have e := tS_id (S := T)
  rw [h.2.2.2, RT_12 h] at e
  exact e
theorem RT_t {S T U : Nat → Int → Int} {r q : Int → Int} {a f b g : Int} (h : RT S r a f T) (k : RT T q b g U) : RT S q b g U := by
  refine ⟨⟨fun c h1 h2 => ?_, fun j hj => ?_⟩, k.2.1.trans h.2.1, k.2.2.1.trans h.2.2.1, k.2.2.2⟩
  · rw [k.1.1 c h1 h2]
    show (if c = 300 then _ else if c = 301 then q else T c) = if c = 300 then _ else if c = 301 then q else S c
    rw [if_neg h1, if_neg h1]
    by_cases z : c = 301
    · rw [if_pos z, if_pos z]
    · rw [if_neg z, if_neg z, h.1.1 c h1 h2]
      show (if c = 300 then _ else if c = 301 then r else S c) = S c
      rw [if_neg h1, if_neg z]
  · rw [k.1.2 j hj]
    show (if j = 11 then b else if j = 12 then g else T 300 j) = if j = 11 then b else if j = 12 then g else S 300 j
    by_cases z : j = 12
    · subst z; rfl
    · rw [if_neg (by omega), if_neg z, if_neg (by omega), if_neg z, h.1.2 j hj]
      show (if j = 11 then a else if j = 12 then f else S 300 j) = S 300 j
      rw [if_neg (by omega), if_neg z]
theorem RT_a {S T : Nat → Int → Int} {r : Int → Int} {a f b g : Int} (h : RT S r a f T) : RT S r b g (tS T b g) := by
  have e := RT_1 (S := T) (a := b) (f := g)
  rw [RT_m h] at e
  exact RT_t h e
theorem TP_R {t : Int → Int} {n a f : Int} {S T : Nat → Int → Int} {r : Int → Int} (h : TP t n S) (g : RT S r a f T) : TP t n T := by
  refine ⟨g.2.2.1.trans h.1, h.2.1, h.2.2.1, g.2.1.trans h.2.2.2.1, ?_⟩
  rw [g.1.1 305 (by decide) (by decide)]
  exact h.2.2.2.2
theorem numP_skp {t : Int → Int} {n lo hi a : Int} : numP t n lo hi (skp t n a) = numP t n lo hi a := by unfold numP; rw [skp_skp]
/-- the lines of the province -/
noncomputable def snwQ (t : Int → Int) (n a : Int) : PR Int := @ite _ (wdP t n (skp t n a) (strB 3)) (Classical.propDecidable _) (numP t n 0 99 (skp t n a + (strB 3).length)) (.inr (0, skp t n a))
def fldR (r : Int → Int) (s sn rm : Int) : Int → Int := putR (putR (putR (putR r (13 + 3 * r 3) s) (13 + 3 * r 3 + 1) sn) (13 + 3 * r 3 + 2) rm) 3 (r 3 + 1)
noncomputable def fldP (t : Int → Int) (n : Int) (r : Int → Int) (bg a : Int) : PR (Int → Int) := if r 3 = 6 then .inl bg else bnd (aftP t n (strB 1) 0 9 a) fun s a1 => bnd (aftP t n (strB 2) 1 20 a1) fun rm a2 => bnd (snwQ t n a2) fun sn a3 => .inr (fldR r s sn rm, a3)
noncomputable def dbtP (t : Int → Int) (n : Int) (r : Int → Int) (bg a : Int) : PR (Int → Int) := if r 5 = 8 then .inl bg else bnd (numP t n 0 (r 4 - 1) a) fun p a1 => bnd (numP t n 0 (r 4 - 1) a1) fun o a2 => if p = o then .inl (skp t n a1) else bnd (numP t n 1 99 a2) fun k a3 => .inr (lendR r p o k, a3)
noncomputable def setP (t : Int → Int) (n : Int) (r : Int → Int) (w lo hi a : Int) : PR (Int → Int) := bnd (numP t n lo hi a) fun v a1 => .inr (putR r w v, a1)
def gdW (t : Int → Int) (b i : Int) : Prop := ∀ j, 0 ≤ j → j < i → t (b + j) ≤ 104
theorem gdW_0 {t : Int → Int} {b : Int} : gdW t b 0 := fun j h0 h1 => by omega
theorem gdW_y {t : Int → Int} {b i : Int} (h : gdW t b i) (g : t (b + i) ≤ 104) : gdW t b (i + 1) := fun j h0 h1 => by
  by_cases z : j = i
  · subst z; exact g
  · exact h j h0 (by omega)
theorem gdW_n {t : Int → Int} {b i : Int} (h0 : 0 ≤ i) (g : 104 < t (b + i)) : ¬ gdW t b (i + 1) := fun z => by have := z i h0 (by omega); omega
theorem gdW_m {t : Int → Int} {b i : Int} (h : ¬ gdW t b i) : ¬ gdW t b (i + 1) := fun z => h fun j h0 h1 => z j h0 (by omega)
/-- a new person, the first i letters told -/
def namP (r : Int → Int) (t : Int → Int) (b k i : Int) : Int → Int := fun j => if j = 31 + 20 * r 4 then k else if j = 32 + 20 * r 4 then -1 else if 33 + 20 * r 4 ≤ j ∧ j < 33 + 20 * r 4 + i then (if j - (33 + 20 * r 4) < k then t (b + (j - (33 + 20 * r 4))) - 97 else -1) else if 39 + 20 * r 4 ≤ j ∧ j < 39 + 20 * r 4 + i then -1 else if 45 + 20 * r 4 ≤ j ∧ j < 45 + 20 * r 4 + i then 0 else r j
def namR (r : Int → Int) (t : Int → Int) (b k : Int) : Int → Int := putR (namP r t b k 6) 4 (r 4 + 1)
def rooM (r : Int → Int) (p f : Int) : Prop := 0 < fr r f 1 ∧ pr r p 0 ≤ fr r f 2 - usedM (pr r) (r 4) f + (if pr r p 1 = f then pr r p 0 else 0)
noncomputable def onP (ev : LawD → Int → (Int → Int) → Int) (t : Int → Int) (n : Int) (r : Int → Int) (p a : Int) : PR (Int → Int) := @ite _ (wdP t n (skp t n a) (strB 5)) (Classical.propDecidable _) (bnd (numP t n 0 (r 3 - 1) (skp t n a + (strB 5).length)) fun f a2 => @ite _ (rooM r p f) (Classical.propDecidable _) (.inr (wrtR ev r p f, a2)) (.inl (skp t n (skp t n a + (strB 5).length)))) (.inr (r, skp t n a))
noncomputable def nmP (ev : LawD → Int → (Int → Int) → Int) (t : Int → Int) (n : Int) (r : Int → Int) (bg a : Int) : PR (Int → Int) := if r 4 = 6 then .inl bg else @ite _ (gdW t (skp t n a) (ltE t n (skp t n a) - skp t n a) ∧ 1 ≤ ltE t n (skp t n a) - skp t n a ∧ ltE t n (skp t n a) - skp t n a ≤ 6) (Classical.propDecidable _) (onP ev t n (namR r t (skp t n a) (ltE t n (skp t n a) - skp t n a)) (r 4) (ltE t n (skp t n a))) (.inl (skp t n a))
noncomputable def wdI {α : Type} (t : Int → Int) (n b : Int) (k : Nat) (x y : α) : α := @ite _ (wdP t n b (strB k)) (Classical.propDecidable _) x y
theorem wdI_y {α : Type} {t : Int → Int} {n b : Int} {k : Nat} {x y : α} (h : wdP t n b (strB k)) : wdI t n b k x y = x := if_pos h
theorem wdI_n {α : Type} {t : Int → Int} {n b : Int} {k : Nat} {x y : α} (h : ¬ wdP t n b (strB k)) : wdI t n b k x y = y := if_neg h
noncomputable def prvP (ev : LawD → Int → (Int → Int) → Int) (t : Int → Int) (n : Int) (r : Int → Int) (b : Int) : PR (Int → Int) :=
  wdI t n b 0 (fldP t n r b (b + (strB 0).length)) <| wdI t n b 4 (nmP ev t n r b (b + (strB 4).length)) <| wdI t n b 6 (dbtP t n r b (b + (strB 6).length)) <| wdI t n b 7 (setP t n r 6 1 9 (b + (strB 7).length)) <| wdI t n b 8 (setP t n r 7 0 100 (b + (strB 8).length)) <| wdI t n b 9 (setP t n r 8 0 100 (b + (strB 9).length)) <| wdI t n b 10 (setP t n r 9 0 100 (b + (strB 10).length)) <| wdI t n b 11 (setP t n r 10 0 999 (b + (strB 11).length)) <| .inl b
/-- lines, k at the most -/
noncomputable def rdN {α : Type} (line : α → Int → PR α) (t : Int → Int) (n : Int) : Nat → α → Int → PR α
  | 0, _, a => .inl (skp t n a)
  | k + 1, r, a => bnd (line r (skp t n a)) fun q e => if skp t n e = n then .inr (q, skp t n e) else if t (skp t n e) = 59 then rdN line t n k q (skp t n e + 1) else .inl (skp t n e)
noncomputable def rdP {α : Type} (line : α → Int → PR α) (t : Int → Int) (n : Int) (k : Nat) (r : α) (a : Int) : PR α := if skp t n a < n then rdN line t n k r (skp t n a) else .inr (r, skp t n a)
theorem aftP_rg {t : Int → Int} {n lo hi a v e : Int} {w : List Int} (h : aftP t n w lo hi a = .inr (v, e)) : (lo ≤ v ∧ v ≤ hi) ∧ a < e ∧ e ≤ n := by
  by_cases z : wdP t n (skp t n a) w
  · rw [aftP_1 z] at h
    have q := numP_rg h
    have g := skp_ge (t := t) (n := n) (a := a)
    omega
  · rw [aftP_0 z] at h; cases h
section lines
variable {t : Int → Int} {n a bg s a1 rm a2 sn a3 b p o k : Int} {r : Int → Int} {ev : LawD → Int → (Int → Int) → Int}
theorem snwQ_1 (z : wdP t n (skp t n a) (strB 3)) : snwQ t n a = numP t n 0 99 (skp t n a + (strB 3).length) := if_pos z
theorem snwQ_0 (z : ¬ wdP t n (skp t n a) (strB 3)) : snwQ t n a = .inr (0, skp t n a) := if_neg z
theorem fldP_0 (h : r 3 = 6) : fldP t n r bg a = .inl bg := if_pos h
theorem fldP_1 (h : r 3 ≠ 6) (y1 : aftP t n (strB 1) 0 9 a = .inl b) : fldP t n r bg a = .inl b := by unfold fldP; rw [if_neg h, y1]; rfl
theorem fldP_2 (h : r 3 ≠ 6) (y1 : aftP t n (strB 1) 0 9 a = .inr (s, a1)) (y2 : aftP t n (strB 2) 1 20 a1 = .inl b) : fldP t n r bg a = .inl b := by
  unfold fldP; rw [if_neg h, y1]; show bnd (aftP t n (strB 2) 1 20 a1) _ = _; rw [y2]; rfl
theorem fldP_3 (h : r 3 ≠ 6) (y1 : aftP t n (strB 1) 0 9 a = .inr (s, a1)) (y2 : aftP t n (strB 2) 1 20 a1 = .inr (rm, a2)) (y3 : snwQ t n a2 = .inl b) : fldP t n r bg a = .inl b := by
  unfold fldP; rw [if_neg h, y1]; show bnd (aftP t n (strB 2) 1 20 a1) _ = _; rw [y2]; show bnd (snwQ t n a2) _ = _; rw [y3]; rfl
theorem fldP_4 (h : r 3 ≠ 6) (y1 : aftP t n (strB 1) 0 9 a = .inr (s, a1)) (y2 : aftP t n (strB 2) 1 20 a1 = .inr (rm, a2)) (y3 : snwQ t n a2 = .inr (sn, a3)) : fldP t n r bg a = .inr (fldR r s sn rm, a3) := by
  unfold fldP; rw [if_neg h, y1]; show bnd (aftP t n (strB 2) 1 20 a1) _ = _; rw [y2]; show bnd (snwQ t n a2) _ = _; rw [y3]; rfl
theorem dbtP_0 (h : r 5 = 8) : dbtP t n r bg a = .inl bg := if_pos h
theorem dbtP_1 (h : r 5 ≠ 8) (y1 : numP t n 0 (r 4 - 1) a = .inl b) : dbtP t n r bg a = .inl b := by unfold dbtP; rw [if_neg h, y1]; rfl
theorem dbtP_2 (h : r 5 ≠ 8) (y1 : numP t n 0 (r 4 - 1) a = .inr (p, a1)) (y2 : numP t n 0 (r 4 - 1) a1 = .inl b) : dbtP t n r bg a = .inl b := by
  unfold dbtP; rw [if_neg h, y1]; show bnd (numP t n 0 (r 4 - 1) a1) _ = _; rw [y2]; rfl
theorem dbtP_3 (h : r 5 ≠ 8) (y1 : numP t n 0 (r 4 - 1) a = .inr (p, a1)) (y2 : numP t n 0 (r 4 - 1) a1 = .inr (o, a2)) (z : p = o) : dbtP t n r bg a = .inl (skp t n a1) := by
  unfold dbtP; rw [if_neg h, y1]; show bnd (numP t n 0 (r 4 - 1) a1) _ = _; rw [y2]; exact if_pos z
theorem dbtP_4 (h : r 5 ≠ 8) (y1 : numP t n 0 (r 4 - 1) a = .inr (p, a1)) (y2 : numP t n 0 (r 4 - 1) a1 = .inr (o, a2)) (z : p ≠ o) (y3 : numP t n 1 99 a2 = .inl b) : dbtP t n r bg a = .inl b := by
  unfold dbtP; rw [if_neg h, y1]; show bnd (numP t n 0 (r 4 - 1) a1) _ = _; rw [y2]; show (if p = o then _ else bnd (numP t n 1 99 a2) _) = _; rw [if_neg z, y3]; rfl
theorem dbtP_5 (h : r 5 ≠ 8) (y1 : numP t n 0 (r 4 - 1) a = .inr (p, a1)) (y2 : numP t n 0 (r 4 - 1) a1 = .inr (o, a2)) (z : p ≠ o) (y3 : numP t n 1 99 a2 = .inr (k, a3)) : dbtP t n r bg a = .inr (lendR r p o k, a3) := by
  unfold dbtP; rw [if_neg h, y1]; show bnd (numP t n 0 (r 4 - 1) a1) _ = _; rw [y2]; show (if p = o then _ else bnd (numP t n 1 99 a2) _) = _; rw [if_neg z, y3]; rfl
theorem nmP_0 (h : r 4 = 6) : nmP ev t n r bg a = .inl bg := if_pos h
theorem nmP_1 (h : r 4 ≠ 6) (z : ¬ (gdW t (skp t n a) (ltE t n (skp t n a) - skp t n a) ∧ 1 ≤ ltE t n (skp t n a) - skp t n a ∧ ltE t n (skp t n a) - skp t n a ≤ 6)) : nmP ev t n r bg a = .inl (skp t n a) := by unfold nmP; rw [if_neg h, if_neg z]
theorem nmP_2 (h : r 4 ≠ 6) (z : gdW t (skp t n a) (ltE t n (skp t n a) - skp t n a) ∧ 1 ≤ ltE t n (skp t n a) - skp t n a ∧ ltE t n (skp t n a) - skp t n a ≤ 6) : nmP ev t n r bg a = onP ev t n (namR r t (skp t n a) (ltE t n (skp t n a) - skp t n a)) (r 4) (ltE t n (skp t n a)) := by unfold nmP; rw [if_neg h, if_pos z]
theorem onP_0 (z : ¬ wdP t n (skp t n a) (strB 5)) : onP ev t n r p a = .inr (r, skp t n a) := if_neg z
theorem onP_1 (z : wdP t n (skp t n a) (strB 5)) (y : numP t n 0 (r 3 - 1) (skp t n a + (strB 5).length) = .inl b) : onP ev t n r p a = .inl b := by unfold onP; rw [if_pos z, y]; rfl
theorem onP_2 (z : wdP t n (skp t n a) (strB 5)) (y : numP t n 0 (r 3 - 1) (skp t n a + (strB 5).length) = .inr (o, a2)) (g : ¬ rooM r p o) : onP ev t n r p a = .inl (skp t n (skp t n a + (strB 5).length)) := by
  unfold onP; rw [if_pos z, y]; exact if_neg g
theorem onP_3 (z : wdP t n (skp t n a) (strB 5)) (y : numP t n 0 (r 3 - 1) (skp t n a + (strB 5).length) = .inr (o, a2)) (g : rooM r p o) : onP ev t n r p a = .inr (wrtR ev r p o, a2) := by
  unfold onP; rw [if_pos z, y]; exact if_pos g
end lines
section Ref39
variable {tb : Tab} {d : Nat} {m : AM} {K : Out → AM → Prop} {S : Nat → Int → Int} {a f : Int} {t : Int → Int} {n : Int} {ev : LawD → Int → (Int → Int) → Int} {good : LawD → Prop}
theorem k233_0 : pg.1 233 0 = [.aload 0, .iload 2, .iload 3, .invokeinterface 226 3, .istore 4, .aload 0, .getfield 1012, .bipush (-1), .if_icmp .ne 24, .aload 0, .getfield 1001, .iload 1, .iload 4, .iastore, .jsr 24] := rfl
theorem a233_0 {tb : Tab} {d : Nat} {K : Out → AM → Prop} {ls st : List AV} {m : AM} : At tb d 233 K 0 ls st m = wpB tb (pg.2.1 233) (Runs tb pg d) K (At tb d 233 K) [.aload 0, .iload 2, .iload 3, .invokeinterface 226 3, .istore 4, .aload 0, .getfield 1012, .bipush (-1), .if_icmp .ne 24, .aload 0, .getfield 1001, .iload 1, .iload 4, .iastore, .jsr 24] ls st m := At.eq k233_0
theorem k233_24 : pg.1 233 24 = [.return_] := rfl
theorem a233_24 {tb : Tab} {d : Nat} {K : Out → AM → Prop} {ls st : List AV} {m : AM} : At tb d 233 K 24 ls st m = wpB tb (pg.2.1 233) (Runs tb pg d) K (At tb d 233 K) [.return_] ls st m := At.eq k233_24
theorem q_233 {w lo hi : Int} (hP : TP t n S) (ha : 0 ≤ a ∧ a ≤ 1000) (hl : R32 lo ∧ R32 hi) (hw : 0 ≤ w ∧ w < 415) (hN : ∀ e b, setP t n (S 301) w lo hi a = .inl b → 0 ≤ e → e ≤ 1000 → 0 ≤ b → b ≤ 1000 → K (.inl none) (X (tS S e b) m)) (hK : ∀ r e, setP t n (S 301) w lo hi a = .inr (r, e) → K (.inl none) (X (tS (sR S r) e (-1)) m)) : Runs tb pg (d + 5) 233 [vr 300, vi w, vi lo, vi hi] (X (tS S a (-1)) m) K := by
  refine Runs.of (al := [vr 300, vi w, vi lo, vi hi]) (n := 1) ⟨300, _, _, rfl, xo_300⟩ rfl rfl trivial ?_
  have k1 : 1 < 39 := by decide
  have k2 : 2 < 39 := by decide
  have k3 : 3 < 39 := by decide
  have k0 : 0 < 39 := by decide
  have hT := TP_X hP
  have hn := hT.1
  have hn2 := hT.2.1
  have hl2 := hl
  unfold R32 at hl2
  repeat' (first | omega | with_reducible refine hK _ _ ?_ | with_reducible refine hN _ _ ?_ ?_ ?_ ?_ ?_ | simp only [w_aload, w_iload, w_call, w_istore, x_g1012_300, w_iconst, w_ifc, cI, Int.reduceToNat, x_g1001_300, x_iast, w_fall, w_return, isA_301, isA_302, isA_303, isA_304, isA_305, isA_307, isA_308, isA_309, isA_310, isA_311, isA_312, isA_313, isA_314, isA_315, len_301, len_302, len_303, len_304, len_305, len_307, len_308, len_309, len_310, len_311, len_312, len_313, len_314, len_315, Int.cast_ofNat_Int, a233_0, a233_24, R32, List.getElem?_cons_zero, List.getElem?_cons_succ, List.set_cons_zero, List.set_cons_succ, List.cons_append, List.nil_append, List.replicate_succ, List.replicate_zero, List.take_succ_cons, List.take_zero, List.drop_succ_cons, List.drop_zero, List.reverse_cons, List.reverse_nil, List.length_cons, List.length_nil, Option.toList, true_and, and_true, eq_self, ↓reduceIte, not_true_eq_false, not_false_eq_true, true_or, or_true, tS_11, tS_12, tS_8, tS_9, tS_10, tS_13, tS_15, tS_16, tS_17, tS_18, tS_19, tS_301, tS_303, tS_305, tS_306, tS_u11, tS_u12, tS_tS, tS_u1, sR_sR, sR_r, tS_q] | with_reducible refine q_226 hT ?_ ?_ (fun v6 b6 f6 n6 e6 e5 e4 e3 => ?_) (fun v6 b6 y6 => ?_) | with_reducible refine And.intro ?_ ?_ | with_reducible intro _)
  all_goals (try (first | omega | contradiction | (show bnd (numP t n lo hi a) _ = _; rw [y6]; rfl) | (show bnd (numP t n lo hi a) _ = _; rw [n6]; rfl) | exact hl.1 | exact hl.2 | exact hl | exact ha | (unfold R32; omega) | omega))
theorem k228_0 : pg.1 228 0 = [.aload 0, .getfield 1001, .bipush 3, .iaload, .bipush 6, .if_icmp .ne 16, .aload 0, .iload 1, .invokeinterface 224 2, .jsr 16] := rfl
theorem a228_0 {tb : Tab} {d : Nat} {K : Out → AM → Prop} {ls st : List AV} {m : AM} : At tb d 228 K 0 ls st m = wpB tb (pg.2.1 228) (Runs tb pg d) K (At tb d 228 K) [.aload 0, .getfield 1001, .bipush 3, .iaload, .bipush 6, .if_icmp .ne 16, .aload 0, .iload 1, .invokeinterface 224 2, .jsr 16] ls st m := At.eq k228_0
theorem k228_16 : pg.1 228 16 = [.aload 0, .ldc 1, .bipush 0, .bipush 9, .invokeinterface 227 4, .istore 2, .aload 0, .ldc 2, .bipush 1, .bipush 20, .invokeinterface 227 4, .istore 3, .aload 0, .getfield 1012, .bipush (-1), .if_icmp .ne 63, .aload 0, .ldc 3, .invokeinterface 223 2, .ifCond .eq 63, .aload 0, .bipush 0, .bipush 99, .invokeinterface 226 3, .goto 64] := rfl
theorem a228_16 {tb : Tab} {d : Nat} {K : Out → AM → Prop} {ls st : List AV} {m : AM} : At tb d 228 K 16 ls st m = wpB tb (pg.2.1 228) (Runs tb pg d) K (At tb d 228 K) [.aload 0, .ldc 1, .bipush 0, .bipush 9, .invokeinterface 227 4, .istore 2, .aload 0, .ldc 2, .bipush 1, .bipush 20, .invokeinterface 227 4, .istore 3, .aload 0, .getfield 1012, .bipush (-1), .if_icmp .ne 63, .aload 0, .ldc 3, .invokeinterface 223 2, .ifCond .eq 63, .aload 0, .bipush 0, .bipush 99, .invokeinterface 226 3, .goto 64] ls st m := At.eq k228_16
theorem k228_63 : pg.1 228 63 = [.bipush 0, .jsr 64] := rfl
theorem a228_63 {tb : Tab} {d : Nat} {K : Out → AM → Prop} {ls st : List AV} {m : AM} : At tb d 228 K 63 ls st m = wpB tb (pg.2.1 228) (Runs tb pg d) K (At tb d 228 K) [.bipush 0, .jsr 64] ls st m := At.eq k228_63
theorem k228_64 : pg.1 228 64 = [.istore 4, .aload 0, .getfield 1012, .bipush (-1), .if_icmp .eq 75, .return_] := rfl
theorem a228_64 {tb : Tab} {d : Nat} {K : Out → AM → Prop} {ls st : List AV} {m : AM} : At tb d 228 K 64 ls st m = wpB tb (pg.2.1 228) (Runs tb pg d) K (At tb d 228 K) [.istore 4, .aload 0, .getfield 1012, .bipush (-1), .if_icmp .eq 75, .return_] ls st m := At.eq k228_64
theorem k228_75 : pg.1 228 75 = [.bipush 13, .bipush 3, .aload 0, .getfield 1001, .bipush 3, .iaload, .imul, .iadd, .istore 5, .aload 0, .getfield 1001, .iload 5, .bipush 0, .iadd, .iload 2, .iastore, .aload 0, .getfield 1001, .iload 5, .bipush 1, .iadd, .iload 4, .iastore, .aload 0, .getfield 1001, .iload 5, .bipush 2, .iadd, .iload 3, .iastore, .aload 0, .getfield 1001, .bipush 3, .dup2, .iaload, .bipush 1, .iadd, .iastore, .return_] := rfl
theorem a228_75 {tb : Tab} {d : Nat} {K : Out → AM → Prop} {ls st : List AV} {m : AM} : At tb d 228 K 75 ls st m = wpB tb (pg.2.1 228) (Runs tb pg d) K (At tb d 228 K) [.bipush 13, .bipush 3, .aload 0, .getfield 1001, .bipush 3, .iaload, .imul, .iadd, .istore 5, .aload 0, .getfield 1001, .iload 5, .bipush 0, .iadd, .iload 2, .iastore, .aload 0, .getfield 1001, .iload 5, .bipush 1, .iadd, .iload 4, .iastore, .aload 0, .getfield 1001, .iload 5, .bipush 2, .iadd, .iload 3, .iastore, .aload 0, .getfield 1001, .bipush 3, .dup2, .iaload, .bipush 1, .iadd, .iastore, .return_] ls st m := At.eq k228_75
theorem q_228 {bg : Int} (hX : tb.2.1 = strB) (hP : TP t n S) (hA : AB (S 301)) (ha : 0 ≤ a ∧ a ≤ 1000) (hbg : 0 ≤ bg ∧ bg ≤ 1000) (hN : ∀ e b, fldP t n (S 301) bg a = .inl b → 0 ≤ e → e ≤ 1000 → 0 ≤ b → b ≤ 1000 → K (.inl none) (X (tS S e b) m)) (hK : ∀ r e, fldP t n (S 301) bg a = .inr (r, e) → K (.inl none) (X (tS (sR S r) e (-1)) m)) : Runs tb pg (d + 7) 228 [vr 300, vi bg] (X (tS S a (-1)) m) K := by
  refine Runs.of (al := [vr 300, vi bg]) (n := 4) ⟨300, _, _, rfl, xo_300⟩ rfl rfl trivial ?_
  have k1 : 1 < 39 := by decide
  have k2 : 2 < 39 := by decide
  have k3 : 3 < 39 := by decide
  have k0 : 0 < 39 := by decide
  have hT := TP_X hP
  have hn := hT.1
  have hn2 := hT.2.1
  have b3 := hA.2.1.1
  have g5 : ∀ a, a ≤ n → a ≤ skp t n a ∧ skp t n a ≤ n := fun a z => ⟨skp_ge, skp_le z⟩
  have g6 : ∀ a w, a ≤ n → wdP t n (skp t n a) w → skp t n a + w.length ≤ n := fun a w z y => by
    have z1 := y.1
    have z2 := ltE_rg (t := t) (n := n) (a := skp t n a)
    have := skp_le (t := t) z
    omega
  repeat' (first | omega | with_reducible refine hK _ _ ?_ | with_reducible refine hN _ _ ?_ ?_ ?_ ?_ ?_ | simp only [w_aload, x_g1001_300, w_iconst, x_iald, w_ialoads, w_ialoadw, w_ifc, cI, Int.reduceToNat, w_iload, w_call, w_fall, w_ldc, w_istore, x_g1012_300, w_if, w_goto, w_return, w_imul, w_iadd, x_iast, w_dup2, isA_301, isA_302, isA_303, isA_304, isA_305, isA_307, isA_308, isA_309, isA_310, isA_311, isA_312, isA_313, isA_314, isA_315, len_301, len_302, len_303, len_304, len_305, len_307, len_308, len_309, len_310, len_311, len_312, len_313, len_314, len_315, Int.cast_ofNat_Int, a228_0, a228_16, a228_63, a228_64, a228_75, R32, List.getElem?_cons_zero, List.getElem?_cons_succ, List.set_cons_zero, List.set_cons_succ, List.cons_append, List.nil_append, List.replicate_succ, List.replicate_zero, List.take_succ_cons, List.take_zero, List.drop_succ_cons, List.drop_zero, List.reverse_cons, List.reverse_nil, List.length_cons, List.length_nil, Option.toList, true_and, and_true, eq_self, ↓reduceIte, not_true_eq_false, not_false_eq_true, true_or, or_true, tS_11, tS_12, tS_8, tS_9, tS_10, tS_13, tS_15, tS_16, tS_17, tS_18, tS_19, tS_301, tS_303, tS_305, tS_306, tS_u11, tS_u12, tS_tS, tS_u1, sR_sR, sR_r, tS_q] | with_reducible refine q_227 (k := 1) hX k1 hT ?_ ⟨by unfold R32; omega, by unfold R32; omega⟩ (fun v1 c1 b1 n1 x1 x2 x3 x4 => ?_) (fun s a1 y1 => ?_) | with_reducible refine q_227 (k := 2) hX k2 hT ?_ ⟨by unfold R32; omega, by unfold R32; omega⟩ (fun v2 c2 b2 n2 x1 x2 x3 x4 => ?_) (fun r2 a2 y2 => ?_) | with_reducible refine q_223 (k := 3) hX k3 hT ?_ (fun b9 e9 e8 => ?_) (fun b9 b8 e9 e8 e7 => ?_) | with_reducible refine q_226 hT ?_ ⟨by unfold R32; omega, by unfold R32; omega⟩ (fun v3 c3 b3 n3 x1 x2 x3 x4 => ?_) (fun s3 a3 y3 => ?_) | with_reducible refine q_227f (by unfold R32; omega) (by omega) ?_ | with_reducible refine q_226f (by unfold R32; omega) (by omega) ?_ | (refine q_224 (by unfold R32; omega) (fun b5 e5 => ?_); have e3 := e5.trans (if_pos rfl); clear e5; subst e3) | with_reducible refine And.intro ?_ ?_ | with_reducible intro _)
  all_goals (try (first | omega | contradiction | exact fldP_0 (by omega) | exact fldP_1 (by omega) n1 | exact fldP_2 (by omega) y1 n2 | (subst e9 e7; exact fldP_3 (by omega) y1 y2 ((snwQ_1 e8).trans n3)) | (have z1 := aftP_rg y1; have z2 := aftP_rg y2; have z3 := g5 a2 (by omega); first | omega | (subst e9 e7; have z4 := g6 a2 _ (by omega) e8; first | omega | (have z5 := numP_rg y3; omega)) | (subst e9; omega)) | (have z1 := aftP_rg y1; omega) | (refine (fldP_4 (by omega) y1 y2 ((snwQ_1 (by rw [← e9]; exact e8)).trans (by rw [← e9, ← e7]; exact y3))).trans (congrArg (fun q => Sum.inr (q, _)) (funext fun j => ?_)); simp only [fldR, putR]; grind) | (subst e9; refine (fldP_4 (by omega) y1 y2 (snwQ_0 e8)).trans (congrArg (fun q => Sum.inr (q, _)) (funext fun j => ?_)); simp only [fldR, putR]; grind)))
end Ref39
