/-! ===== THE CLASS: what a law's codes do on its stack ===== -/
/-- one code finds there what it needs -/
def sf1 (c : Int) (st : List Int) : Prop := (c < 2000 → st.length < 32 ∧ 0 ≤ c ∧ c < 1010) ∧ (c = 2000 → ∃ x q, st = x :: q ∧ (x = 0 ∨ x = 1)) ∧ (2001 ≤ c → c ≤ 2005 ∧ ∃ x y q, st = x :: y :: q ∧ (-1000000000 ≤ x ∧ x ≤ 1000000000) ∧ (-1000000000 ≤ y ∧ y ≤ 1000000000) ∧ (c ≤ 2002 → (x = 0 ∨ x = 1) ∧ (y = 0 ∨ y = 1)))
def sfL (fc : Int → Int) : List Int → List Int → Prop
  | [], _ => True
  | c :: l, st => sf1 c st ∧ sfL fc l (stpL fc c st)
theorem sfL_app {fc : Int → Int} : ∀ (c d st : List Int), sfL fc c st → sfL fc d (runL fc c st) → sfL fc (c ++ d) st
  | [], d, st, _, h => h
  | x :: c, d, st, h1, h2 => ⟨h1.1, sfL_app c d (stpL fc x st) h1.2 h2⟩
def okE (fc : Int → Int) (n B : Int) (c : List Int) : Prop := ∃ v, (-B ≤ v ∧ v ≤ B) ∧ (B = 1 → 0 ≤ v) ∧ isV fc c v ∧ ∀ st : List Int, (st.length : Int) + n ≤ 32 → sfL fc c st
def okFc (fc : Int → Int) : Prop := (∀ j, -100000 ≤ fc j ∧ fc j ≤ 100000) ∧ ∀ j, 7 ≤ j → fc j = 0 ∨ fc j = 1
theorem okE_le {fc : Int → Int} {n B n2 B2 : Int} {c : List Int} (h : okE fc n B c) (h1 : n ≤ n2) (h2 : B ≤ B2) (h3 : B = 1 ∨ 1 < B2) : okE fc n2 B2 c := by
  obtain ⟨v, v1, v2, v3, v4⟩ := h
  exact ⟨v, by omega, fun y => by omega, v3, fun st hs => v4 st (by omega)⟩
theorem okE_num {fc : Int → Int} {x : Int} (h : 0 ≤ x ∧ x < 1000) : okE fc 1 100000 [x] := by
  refine ⟨x, by omega, fun y => by omega, isV_num h.2, fun st hs => ⟨⟨fun _ => by omega, fun y => by omega, fun y => by omega⟩, trivial⟩⟩
theorem okE_fact {fc : Int → Int} {x : Int} (hf : okFc fc) (h : 0 ≤ x ∧ x < 10) : okE fc 1 100000 [1000 + x] := by
  have a := hf.1 x
  exact ⟨fc x, a, fun y => by omega, isV_fact (by omega), fun st hs => ⟨⟨fun _ => by omega, fun y => by omega, fun y => by omega⟩, trivial⟩⟩
theorem okE_yes {fc : Int → Int} {x : Int} (hf : okFc fc) (h : 7 ≤ x ∧ x < 10) : okE fc 1 1 [1000 + x] := by
  have a := hf.2 x h.1
  exact ⟨fc x, by omega, fun y => by omega, isV_fact (by omega), fun st hs => ⟨⟨fun _ => by omega, fun y => by omega, fun y => by omega⟩, trivial⟩⟩
theorem okE_2 {fc : Int → Int} {n n2 N B B2 C : Int} {c d : List Int} (k : Int) (hk : 2001 ≤ k ∧ k ≤ 2005) (h : okE fc n B c) (h2 : okE fc n2 B2 d) (hn : n ≤ N) (hn2 : n2 + 1 ≤ N) (hB : B ≤ 500000000) (hB2 : B2 ≤ 500000000) (hb : k ≤ 2002 → B = 1 ∧ B2 = 1) (hC : if k = 2003 then C = B + B2 ∧ 1 < C else C = 1) : okE fc N C (c ++ d ++ [k]) := by
  obtain ⟨v, v1, v2, v3, v4⟩ := h
  obtain ⟨u, u1, u2, u3, u4⟩ := h2
  have s : ∀ st : List Int, (st.length : Int) + N ≤ 32 → sfL fc (c ++ d ++ [k]) st := fun st hs => by
    refine sfL_app _ _ _ (sfL_app _ _ _ (v4 st (by omega)) ?_) ?_
    · rw [v3 st]
      refine u4 _ ?_
      show ((st.length + 1 : Nat) : Int) + n2 ≤ 32
      omega
    · rw [runL_app, v3 st, u3 (v :: st)]
      exact ⟨⟨fun y => by omega, fun y => by omega, fun _ => ⟨hk.2, u, v, st, rfl, by omega, by omega, fun y => by have := hb y; omega⟩⟩, trivial⟩
  have e := fun st => isV_2 v3 u3 k hk.1 st
  refine ⟨_, ?_, ?_, e, s⟩
  · by_cases y : k = 2001
    · rw [if_pos y, if_neg (show ¬ k = 2003 by omega)] at *; split <;> omega
    · rw [if_neg y]
      by_cases y2 : k = 2002
      · rw [if_pos y2]; rw [if_neg (show ¬ k = 2003 by omega)] at hC; split <;> omega
      · rw [if_neg y2]
        by_cases y3 : k = 2003
        · rw [if_pos y3]; rw [if_pos y3] at hC; omega
        · rw [if_neg y3]; rw [if_neg y3] at hC; split <;> split <;> omega
  · intro hz
    by_cases y : k = 2001
    · rw [if_pos y]; split <;> omega
    · rw [if_neg y]
      by_cases y2 : k = 2002
      · rw [if_pos y2]; split <;> omega
      · rw [if_neg y2]
        by_cases y3 : k = 2003
        · rw [if_pos y3] at hC; omega
        · rw [if_neg y3]; split <;> split <;> omega
theorem okE_not {fc : Int → Int} {n : Int} {c : List Int} (h : okE fc n 1 c) : okE fc n 1 (c ++ [2000]) := by
  obtain ⟨v, v1, v2, v3, v4⟩ := h
  have z := v2 rfl
  refine ⟨1 - v, by omega, fun _ => by omega, isV_not v3, fun st hs => sfL_app _ _ _ (v4 st hs) ?_⟩
  rw [v3 st]
  exact ⟨⟨fun y => by omega, fun _ => ⟨v, st, rfl, by omega⟩, fun y => by omega⟩, trivial⟩
section codes
variable {t : Int → Int} {n b e : Int} {c : LCs} {fc : Int → Int}
theorem wdI_c {α : Type} {k : Nat} {x y z : PR α} {P : Prop} (h : wdI t n b k x y = z) (h1 : x = z → P) (h2 : y = z → P) : P := by
  by_cases w : wdP t n b (strB k)
  · rw [wdI_y w] at h; exact h1 h
  · rw [wdI_n w] at h; exact h2 h
theorem iteP_c {α : Type} {p P : Prop} {x y z : PR α} (h : iteP p x y = z) (h1 : x = z → P) (h2 : y = z → P) : P := by
  by_cases w : p
  · rw [iteP_y w] at h; exact h1 h
  · rw [iteP_n w] at h; exact h2 h
theorem inrE {α : Type} {v : α} {x : Int} {w : α} {y : Int} {P : α → Prop} (h : (Sum.inr (v, x) : PR α) = .inr (w, y)) (hp : P v) : P w := by
  have e : v = w := congrArg Prod.fst (Sum.inr.inj h)
  exact e ▸ hp
theorem parP_E (hf : okFc fc) (h : parP t n b = .inr (c, e)) : okE fc 1 100000 c := by
  unfold parP at h
  have f : ∀ x : Int, 0 ≤ x ∧ x < 10 → ∀ y : Int, (Sum.inr ([1000 + x], y) : PR LCs) = .inr (c, e) → okE fc 1 100000 c := fun x hx y w => inrE w (okE_fact hf hx)
  refine iteP_c h (fun h => ?_) fun h => wdI_c h (f 0 (by decide) _) fun h => wdI_c h (f 1 (by decide) _) fun h => wdI_c h (f 2 (by decide) _) fun h => wdI_c h (f 3 (by decide) _) fun h => wdI_c h (f 4 (by decide) _) fun h => wdI_c h (f 5 (by decide) _) fun h => wdI_c h (f 6 (by decide) _) fun h => by cases h
  obtain ⟨v, e1, y1, h⟩ := bnd_y h
  have g := numP_rg y1
  exact inrE h (okE_num (by omega))
theorem morP_P {q : Int → Option Int} {A : Int → PR LCs} {k : Int} {P : Nat → LCs → Prop} (hs : ∀ j c a c2 e2, P (j + 1) c → A a = .inr (c2, e2) → P j (c ++ c2 ++ [k])) : ∀ (j : Nat) (c : LCs) (a : Int) (c9 : LCs) (e9 : Int), P j c → morP q A k t n j c a = .inr (c9, e9) → ∃ i, P i c9
  | 0, c, a, c9, e9, h, w => ⟨0, inrE (P := fun c => P 0 c) w h⟩
  | j + 1, c, a, c9, e9, h, w => by
    have w2 : (match q (skp t n a) with
      | none => (.inr (c, skp t n a) : PR LCs)
      | some e => bnd (A e) fun c2 e2 => morP q A k t n j (c ++ c2 ++ [k]) e2) = .inr (c9, e9) := w
    cases hq : q (skp t n a) with
    | none => rw [hq] at w2; exact ⟨j + 1, inrE (P := fun c => P (j + 1) c) w2 h⟩
    | some e =>
      rw [hq] at w2
      obtain ⟨c2, e2, y1, w3⟩ := bnd_y w2
      exact morP_P hs j _ _ c9 e9 (hs j c e c2 e2 h y1) w3
theorem sumP_E (hf : okFc fc) (h : sumP t n b = .inr (c, e)) : okE fc 2 40200000 c := by
  obtain ⟨c1, e1, y1, h⟩ := bnd_y h
  have o := parP_E hf y1
  have g := morP_P (P := fun j c => (j : Int) ≤ 401 ∧ okE fc 2 (40200000 - 100000 * j) c) (fun j c a c2 e2 hp hc => by
    refine ⟨by have := hp.1; omega, okE_2 2003 (by decide) hp.2 (parP_E hf hc) (by omega) (by omega) (by omega) (by omega) (fun y => by omega) ?_⟩
    rw [if_pos rfl]
    have := hp.1
    omega) 401 c1 e1 c e ⟨by omega, okE_le o (by omega) (by omega) (by omega)⟩ h
  obtain ⟨i, i1, i2⟩ := g
  exact okE_le i2 (by omega) (by omega) (by omega)
theorem cmpP_E (hf : okFc fc) (h : cmpP t n b = .inr (c, e)) : okE fc 3 1 c := by
  obtain ⟨c1, e1, y1, h⟩ := bnd_y h
  have o1 := sumP_E hf y1
  refine iteP_c h (fun h => ?_) fun h => iteP_c h (fun h => ?_) fun h => by cases h
  all_goals
    obtain ⟨c2, e2, y2, h⟩ := bnd_y h
    have o2 := sumP_E hf y2
    exact inrE h (okE_2 _ (by decide) o1 o2 (by omega) (by omega) (by omega) (by omega) (fun y => by omega) (by rw [if_neg (by decide)]))
theorem plaP_E (hf : okFc fc) (h : plaP t n b = .inr (c, e)) : okE fc 3 1 c := by
  unfold plaP at h
  have f : ∀ x : Int, 7 ≤ x ∧ x < 10 → ∀ y : Int, (Sum.inr ([1000 + x], y) : PR LCs) = .inr (c, e) → okE fc 3 1 c := fun x hx y w => inrE w (okE_le (okE_yes hf hx) (by decide) (by decide) (by decide))
  exact wdI_c h (f 7 (by decide) _) fun h => wdI_c h (f 8 (by decide) _) fun h => wdI_c h (f 9 (by decide) _) fun h => cmpP_E hf h
theorem evyP_E {A : Int → PR LCs} {N : Int} (hA : ∀ a c e, A a = .inr (c, e) → okE fc N 1 c) (h : evyP A t n b = .inr (c, e)) : okE fc (N + 1) 1 c := by
  obtain ⟨c1, e1, y1, h⟩ := bnd_y h
  obtain ⟨i, i1⟩ := morP_P (P := fun _ c => okE fc (N + 1) 1 c) (fun j c a c2 e2 hp hc => okE_2 2001 (by decide) hp (hA _ _ _ hc) (by omega) (by omega) (by omega) (by omega) (fun y => ⟨rfl, rfl⟩) (by rw [if_neg (by decide)])) 401 c1 e1 c e (okE_le (hA _ _ _ y1) (by omega) (by omega) (by omega)) h
  exact i1
theorem somP_E {A : Int → PR LCs} {N : Int} (hA : ∀ a c e, A a = .inr (c, e) → okE fc N 1 c) (h : somP A t n b = .inr (c, e)) : okE fc (N + 2) 1 c := by
  obtain ⟨c1, e1, y1, h⟩ := bnd_y h
  have ev : ∀ a c e, evyP A t n a = .inr (c, e) → okE fc (N + 1) 1 c := fun a c e w => evyP_E hA w
  obtain ⟨i, i1⟩ := morP_P (P := fun _ c => okE fc (N + 2) 1 c) (fun j c a c2 e2 hp hc => okE_2 2002 (by decide) hp (ev _ _ _ hc) (by omega) (by omega) (by omega) (by omega) (fun y => ⟨rfl, rfl⟩) (by rw [if_neg (by decide)])) 401 c1 e1 c e (okE_le (ev _ _ _ y1) (by omega) (by omega) (by omega)) h
  exact i1
theorem atmP_E (hf : okFc fc) : ∀ (k : Nat) (b : Int) (c : LCs) (e : Int), atmP t n k b = .inr (c, e) → okE fc (3 + 2 * k) 1 c
  | 0, b, c, e, h => wdI_c (h : wdI t n (skp t n b) 18 _ _ = _) (fun h => by cases h) fun h => iteP_c h (fun h => by cases h) fun h => okE_le (plaP_E hf h) (by omega) (by omega) (by omega)
  | k + 1, b, c, e, h => wdI_c (h : wdI t n (skp t n b) 18 _ _ = _) (fun h => by
      obtain ⟨c1, e1, y1, h⟩ := bnd_y h
      exact inrE h (okE_not (okE_le (atmP_E hf k _ _ _ y1) (by omega) (by omega) (by omega)))) fun h => iteP_c h (fun h => by
      obtain ⟨c1, e1, y1, h⟩ := bnd_y h
      refine iteP_c h (fun h => ?_) fun h => by cases h
      exact inrE h (okE_le (somP_E (atmP_E hf k) y1) (by omega) (by omega) (by omega))) fun h => okE_le (plaP_E hf h) (by omega) (by omega) (by omega)
theorem linT_E {k : Int} {l : LL} (hf : okFc fc) (h : linT t n k b = .inr (l, e)) : l.2.2 = [] ∨ okE fc 17 1 l.2.2 := by
  obtain ⟨v, e1, y1, h⟩ := bnd_y h
  refine wdI_c h (fun h => ?_) fun h => inrE (P := fun l : LL => l.2.2 = [] ∨ okE fc 17 1 l.2.2) h (Or.inl rfl)
  obtain ⟨c, e2, y2, h⟩ := bnd_y h
  exact inrE (P := fun l : LL => l.2.2 = [] ∨ okE fc 17 1 l.2.2) h (Or.inr (okE_le (somP_E (atmP_E hf 6) y2) (by omega) (by omega) (by omega)))
end codes
def okLc (fc : Int → Int) (q : List LL) : Prop := ∀ l ∈ q, l.2.2 = [] ∨ okE fc 17 1 l.2.2
theorem linP_E {t : Int → Int} {n b e : Int} {l : LL} {fc : Int → Int} (hf : okFc fc) (h : linP t n b = .inr (l, e)) : l.2.2 = [] ∨ okE fc 17 1 l.2.2 := by
  unfold linP at h
  exact wdI_c h (linT_E hf) fun h => wdI_c h (linT_E hf) fun h => wdI_c h (linT_E hf) fun h => by cases h
theorem lawP_E {t : Int → Int} {n b e : Int} {L q : List LL} {fc : Int → Int} (hf : okFc fc) (hL : okLc fc L) (h : lawP t n L b = .inr (q, e)) : okLc fc q := by
  obtain ⟨l, e1, y1, h⟩ := bnd_y h
  have g := linP_E hf y1
  refine inrE (P := okLc fc) h (fun x hx => ?_)
  rcases List.mem_append.mp hx with y | y
  · exact hL x y
  · rw [List.mem_singleton.mp y]; exact g
theorem rdN_E {t : Int → Int} {n : Int} {fc : Int → Int} (hf : okFc fc) : ∀ (k : Nat) (L q : List LL) (a e : Int), okLc fc L → rdN (lawP t n) t n k L a = .inr (q, e) → okLc fc q
  | 0, L, q, a, e, _, h => by cases h
  | k + 1, L, q, a, e, hL, h => by
    obtain ⟨q1, e1, y1, h⟩ := bnd_y (p := lawP t n L (skp t n a)) h
    have g := lawP_E hf hL y1
    by_cases z : skp t n e1 = n
    · rw [if_pos z] at h
      exact inrE (P := okLc fc) h g
    · rw [if_neg z] at h
      by_cases z2 : t (skp t n e1) = 59
      · rw [if_pos z2] at h
        exact rdN_E hf k q1 q _ e g h
      · rw [if_neg z2] at h; cases h
theorem parL_E {t : Int → Int} {n e : Int} {q : List LL} {fc : Int → Int} (hf : okFc fc) (h : parL t n = .inr (q, e)) : okLc fc q := by
  unfold parL rdP at h
  by_cases z : skp (nrm t n) n 0 < n
  · rw [if_pos z] at h
    exact rdN_E hf 12 [] q _ e (fun x hx => by cases hx) h
  · rw [if_neg z] at h
    exact inrE (P := okLc fc) h (fun x hx => by cases hx)
theorem lawL_E {L : LawD} {fc : Int → Int} (hf : okFc fc) : okLc fc (lawL L) := by
  unfold lawL
  by_cases z : L.1 < 1
  · rw [if_pos z]; exact fun x hx => by cases hx
  · rw [if_neg z]
    cases h : parL L.2.2 L.2.1 with
    | inl b => exact fun x hx => by cases hx
    | inr p => exact parL_E (e := p.2) hf h
