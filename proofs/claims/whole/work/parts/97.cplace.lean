/-! ===== THE CLASS: rows of places and letters, places to look at, changes, mixed names ===== -/
/-- scratch that no World holds -/
def scr (a : Nat) : Prop := 54 ≤ a ∧ a < 71 ∨ 88 ≤ a ∧ a < 96
theorem scr_w {w a k : Nat} (hw : isW w) (ha : scr a) (hk : k < 17) : w + k ≠ a := by
  unfold isW at hw
  unfold scr at ha
  omega
theorem RW_1 {S T : Nat → Int → Int} {w a : Nat} {r : Int → Int} (hw : isW w) (ha : scr a) (hR : RW S w r) (h : ∀ b, b ≠ a → T b = S b) : RW T w r := RW_k hR (fun k hk => h _ (scr_w hw ha hk))
theorem cnt_pos {P : Int → Int → Int} {n s k v : Int} (hn : 0 ≤ n) (h : 0 < cntBy P n s k v) : ∃ p, 0 ≤ p ∧ p < n ∧ bitB s p ∧ P p (2 + k) = v := by
  refine Classical.byContradiction fun g => ?_
  have := sumZ_le (n := n) (a := 0) (b := 0) (f := fun p => if bitB s p ∧ P p (2 + k) = v then 1 else 0) hn (fun p p0 p1 => by
    rw [if_neg (fun y => g ⟨p, p0, p1, y.1, y.2⟩)]; omega)
  unfold cntBy at h
  omega
/-- the greatest part of the first i people -/
def gpM (P : Int → Int → Int) (n s k g i : Int) : Prop := (∀ p, 0 ≤ p → p < i → bitB s p → cntBy P n s k (P p (2 + k)) ≤ g) ∧ (g = 0 ∨ ∃ p, 0 ≤ p ∧ p < i ∧ bitB s p ∧ cntBy P n s k (P p (2 + k)) = g) ∧ 0 ≤ g ∧ g ≤ 6
theorem gpM_0 {P : Int → Int → Int} {n s k : Int} : gpM P n s k 0 0 := ⟨fun p p0 p1 => by omega, Or.inl rfl, by omega, by omega⟩
theorem gpM_s {P : Int → Int → Int} {n s k g i v : Int} (hn : 0 ≤ n ∧ n ≤ 6) (h0 : 0 ≤ i) (h : gpM P n s k g i) (hv : v = if bitB s i then cntBy P n s k (P i (2 + k)) else 0) : gpM P n s k (if g < v then v else g) (i + 1) := by
  obtain ⟨g1, g2, g3, g4⟩ := h
  have c := cntBy_le (P := P) (s := s) (k := k) (v := P i (2 + k)) hn.1
  refine ⟨fun p p0 p1 hb => ?_, ?_, ?_, ?_⟩
  · by_cases z : p = i
    · subst z
      rw [if_pos hb] at hv
      split <;> omega
    · have := g1 p p0 (by omega) hb
      split <;> omega
  · by_cases y : g < v
    · rw [if_pos y]
      by_cases b : bitB s i
      · rw [if_pos b] at hv
        exact Or.inr ⟨i, h0, by omega, b, hv.symm⟩
      · rw [if_neg b] at hv; omega
    · rw [if_neg y]
      rcases g2 with z | ⟨p, p0, p1, p2, p3⟩
      · exact Or.inl z
      · exact Or.inr ⟨p, p0, by omega, p2, p3⟩
  · split <;> omega
  · by_cases b : bitB s i
    · rw [if_pos b] at hv; split <;> omega
    · rw [if_neg b] at hv; split <;> omega
theorem gpM_e {P : Int → Int → Int} {n s k g : Int} (hn : 0 ≤ n) (h : gpM P n s k g n) (hV : ∀ p, 0 ≤ p → p < n → -1 ≤ P p (2 + k) ∧ P p (2 + k) < 8) : g = ptM P n s k := by
  obtain ⟨g1, g2, g3, g4⟩ := h
  refine pt_of (fun v v0 v1 => ?_) ?_ g3
  · have c := cntBy_le (P := P) (s := s) (k := k) (v := v) hn
    by_cases z : 0 < cntBy P n s k v
    · obtain ⟨p, p0, p1, p2, p3⟩ := cnt_pos hn z
      have := g1 p p0 p1 p2
      rw [p3] at this
      exact this
    · omega
  · rcases g2 with z | ⟨p, p0, p1, p2, p3⟩
    · exact Or.inl z
    · exact Or.inr ⟨P p (2 + k), (hV p p0 p1).1, (hV p p0 p1).2, p3⟩
/-- as many of the first j agree with p there -/
def ptI (P : Int → Int → Int) (s k p j : Int) : Int := sumZ j fun q => if bitB s p ∧ bitB s q ∧ P q (2 + k) = P p (2 + k) then 1 else 0
theorem ptI_s {P : Int → Int → Int} {s k p j : Int} (h : 0 ≤ j) : ptI P s k p (j + 1) = ptI P s k p j + if bitB s p ∧ bitB s j ∧ P j (2 + k) = P p (2 + k) then 1 else 0 := sumZ_s h
theorem ptI_rg {P : Int → Int → Int} {s k p j : Int} (h : 0 ≤ j) : 0 ≤ ptI P s k p j ∧ ptI P s k p j ≤ j := by
  have := sumZ_le (n := j) (a := 0) (b := 1) (f := fun q => if bitB s p ∧ bitB s q ∧ P q (2 + k) = P p (2 + k) then 1 else 0) h (fun q _ _ => by split <;> omega)
  unfold ptI
  omega
theorem ptI_e {P : Int → Int → Int} {n s k p : Int} (hn : 0 ≤ n) : ptI P s k p n = if bitB s p then cntBy P n s k (P p (2 + k)) else 0 := by
  by_cases b : bitB s p
  · rw [if_pos b]
    exact sumZ_congr fun q _ _ => by
      by_cases c : bitB s q ∧ P q (2 + k) = P p (2 + k)
      · rw [if_pos ⟨b, c⟩, if_pos c]
      · rw [if_neg (fun y => c y.2), if_neg c]
  · rw [if_neg b]
    have := sumZ_le (n := n) (a := 0) (b := 0) (f := fun q => if bitB s p ∧ bitB s q ∧ P q (2 + k) = P p (2 + k) then 1 else 0) hn (fun q _ _ => by rw [if_neg (fun y => b y.1)]; omega)
    unfold ptI
    omega
theorem sumZ_cut {f : Int → Int} {n : Int} (hn : 0 ≤ n) : ∀ k : Nat, (∀ i, n ≤ i → i < n + k → f i = 0) → sumZ (n + k) f = sumZ n f
  | 0, _ => by rw [show n + ((0 : Nat) : Int) = n by omega]
  | k + 1, h => by
    rw [show n + ((k + 1 : Nat) : Int) = (n + k) + 1 by omega, sumZ_s (by omega), sumZ_cut hn k (fun i i0 i1 => h i i0 (by omega)), h _ (by omega) (by omega), Int.add_zero]
theorem bits_set {c : Int → Prop} [∀ k, Decidable (c k)] : bitsM (setZ 6 c) 31 = sumZ 6 (fun k => if c k then 1 else 0) := by
  have rg := setZ_lt (n := 6) (c := c) (by decide)
  have r1 : setZ 6 c < 64 := rg.2
  have e := sumZ_cut (f := fun k => andI (shrI (setZ 6 c) k) 1) (n := 6) (by decide) 25 (fun i i0 i1 => by
    have a := andI_1 (shrI (setZ 6 c) i)
    have nb : ¬ andI (shrI (setZ 6 c) i) 1 = 1 := fun y => by
      have := bit_31 rg.1 r1 (by omega) (by omega) y
      omega
    show andI (shrI (setZ 6 c) i) 1 = 0
    omega)
  refine e.trans (sumZ_congr fun k k0 k1 => ?_)
  have a := andI_1 (shrI (setZ 6 c) k)
  have b := bit_set (n := 6) (c := c) (by decide) k0 k1
  by_cases z : c k
  · rw [if_pos z]; exact b.mpr z
  · rw [if_neg z]
    have nb : ¬ andI (shrI (setZ 6 c) k) 1 = 1 := fun y => z (b.mp y)
    show andI (shrI (setZ 6 c) k) 1 = 0
    omega
theorem mix_is {r : Int → Int} {p q : Int} (hA : AB r) (hV : GV r) (hp : 0 ≤ p ∧ p < r 4) (hq : 0 ≤ q ∧ q < r 4) (he : pr r p 0 = pr r q 0) : bitsM (unS (pr r) p q) 31 = difM (pr r) p q (pr r p 0) := by
  have z := AB_pp hA hp.1 hp.2
  have e : bitsM (unS (pr r) p q) 31 = sumZ 6 (fun k => if pr r p (2 + k) ≠ pr r q (2 + k) then 1 else 0) := bits_set (c := fun k => pr r p (2 + k) ≠ pr r q (2 + k))
  rw [e]
  have c := sumZ_cut (f := fun k => if pr r p (2 + k) ≠ pr r q (2 + k) then (1 : Int) else 0) (n := pr r p 0) (by omega) (6 - pr r p 0).toNat (fun i i0 i1 => by
    rw [(hV p i hp.1 hp.2 (by omega) (by omega)).2 i0, (hV q i hq.1 hq.2 (by omega) (by omega)).2 (by omega), if_neg (fun y => y rfl)])
  rw [show pr r p 0 + ((6 - pr r p 0).toNat : Int) = 6 by omega] at c
  rw [c]
  exact sumZ_congr fun k _ _ => by
    by_cases y : pr r p (2 + k) = pr r q (2 + k)
    · rw [if_neg (fun x => x y), if_pos y]
    · rw [if_pos y, if_neg y]
theorem sumZ_pos {f : Int → Int} {n i : Int} (hf : ∀ k, 0 ≤ k → k < n → 0 ≤ f k) (h0 : 0 ≤ i) (h1 : i < n) : f i ≤ sumZ n f := by
  have g : ∀ k : Nat, (k : Int) ≤ n → (0 ≤ sumZ k f) ∧ (i < k → f i ≤ sumZ k f) := by
    intro k
    induction k with
    | zero => intro _; exact ⟨by rw [show sumZ ((0 : Nat) : Int) f = 0 from rfl]; omega, fun y => by omega⟩
    | succ k ih =>
      intro hk
      have e : sumZ ((k + 1 : Nat) : Int) f = sumZ k f + f k := by rw [show ((k + 1 : Nat) : Int) = (k : Int) + 1 by omega]; exact sumZ_s (by omega)
      have a := hf k (by omega) (by omega)
      have b := ih (by omega)
      rw [e]
      refine ⟨by omega, fun y => ?_⟩
      by_cases z : i = k
      · subst z; omega
      · have := b.2 (by omega); omega
  have := (g n.toNat (by omega)).2 (by omega)
  rw [Int.toNat_of_nonneg (by omega)] at this
  exact this
theorem sumZ_two {f : Int → Int} {n i j : Int} (hf : ∀ k, 0 ≤ k → k < n → 0 ≤ f k) (h0 : 0 ≤ i) (h1 : i < j) (h2 : j < n) : f i + f j ≤ sumZ n f := by
  have a := sumZ_pos (f := f) (n := j) (i := i) (fun k k0 k1 => hf k k0 (by omega)) h0 h1
  have g : ∀ k : Nat, j + 1 + k ≤ n → f i + f j ≤ sumZ (j + 1 + k) f := by
    intro k
    induction k with
    | zero =>
      intro _
      rw [show j + 1 + ((0 : Nat) : Int) = j + 1 by omega, sumZ_s (by omega)]
      omega
    | succ k ih =>
      intro hk
      rw [show j + 1 + ((k + 1 : Nat) : Int) = (j + 1 + k) + 1 by omega, sumZ_s (by omega)]
      have := ih (by omega)
      have := hf (j + 1 + k) (by omega) (by omega)
      omega
  have := g (n - j - 1).toNat (by omega)
  rw [show j + 1 + ((n - j - 1).toNat : Int) = n by omega] at this
  exact this
theorem dif_one {P : Int → Int → Int} {p q n : Int} (hd : difM P p q n = 1) {i j : Int} (i0 : 0 ≤ i) (i1 : i < n) (hi : P p (2 + i) ≠ P q (2 + i)) (j0 : 0 ≤ j) (j1 : j < n) (hj : P p (2 + j) ≠ P q (2 + j)) : i = j := by
  have hf : ∀ k, 0 ≤ k → k < n → 0 ≤ (if P p (2 + k) = P q (2 + k) then (0 : Int) else 1) := fun k _ _ => by split <;> omega
  unfold difM at hd
  rcases Int.lt_trichotomy i j with y | y | y
  · have := sumZ_two (f := fun k => if P p (2 + k) = P q (2 + k) then (0 : Int) else 1) hf i0 y j1
    rw [if_neg hi, if_neg hj] at this
    omega
  · exact y
  · have := sumZ_two (f := fun k => if P p (2 + k) = P q (2 + k) then (0 : Int) else 1) hf j0 y i1
    rw [if_neg hi, if_neg hj] at this
    omega
theorem dif_ex {P : Int → Int → Int} {p q n : Int} (hn : 0 ≤ n) (hd : difM P p q n = 1) : ∃ i, 0 ≤ i ∧ i < n ∧ P p (2 + i) ≠ P q (2 + i) := by
  refine Classical.byContradiction fun g => ?_
  have := sumZ_le (n := n) (a := 0) (b := 0) (f := fun k => if P p (2 + k) = P q (2 + k) then (0 : Int) else 1) hn (fun k k0 k1 => by
    have : P p (2 + k) = P q (2 + k) := Classical.byContradiction fun y => g ⟨k, k0, k1, y⟩
    rw [if_pos this]; omega)
  unfold difM at hd
  omega
theorem nxM_ne {a b : Int} (h : nxM a b) : a ≠ b := fun e => by
  unfold nxM at h
  omega
theorem mix_yes {P : Int → Int → Int} {p q i : Int} (he : P p 0 = P q 0) (hd : difM P p q (P p 0) = 1) (i0 : 0 ≤ i) (i1 : i < P p 0) (hx : nxM (P p (2 + i)) (P q (2 + i))) : mixM P p q := ⟨he, hd, fun k k0 k1 hk => by
  have := dif_one hd i0 i1 (nxM_ne hx) k0 k1 hk
  subst this
  exact hx⟩
theorem mix_no {P : Int → Int → Int} {p q : Int} (hn : 0 ≤ P p 0) (h : ∀ i, 0 ≤ i → i < P p 0 → ¬ nxM (P p (2 + i)) (P q (2 + i))) : ¬ mixM P p q := fun g => by
  obtain ⟨i, i0, i1, hi⟩ := dif_ex hn g.2.1
  exact h i i0 i1 (g.2.2 i i0 i1 hi)
section Names5
variable {tb : Tab} {d : Nat} {m : AM} {K : Out → AM → Prop} {S : Nat → Int → Int} {w : Nat} {r : Int → Int}
theorem x_alen_1 {tb : Tab} {hs : Nat → Option (Nat × Nat)} {C : Nat → List AV → AM → (Out → AM → Prop) → Prop} {Q : Out → AM → Prop} {J : Nat → List AV → List AV → AM → Prop} {is : List Instr} {ls st : List AV} : wpB tb hs C Q J (.arraylength :: is) ls (vr 1 :: st) (X S m) = wpB tb hs C Q J is ls (vi 400 :: st) (X S m) := x_alen isA_1 (by decide)
theorem k55_0 : pg.1 55 0 = [.iload 1, .bipush 40, .if_icmp .gt 18, .iload 1, .aload 0, .arraylength, .if_icmp .gt 18, .iload 1, .bipush 2, .irem, .ifCond .eq 20, .jsr 18] := rfl
theorem a55_0 {tb : Tab} {d : Nat} {K : Out → AM → Prop} {ls st : List AV} {m : AM} : At tb d 55 K 0 ls st m = wpB tb (pg.2.1 55) (Runs tb pg d) K (At tb d 55 K) [.iload 1, .bipush 40, .if_icmp .gt 18, .iload 1, .aload 0, .arraylength, .if_icmp .gt 18, .iload 1, .bipush 2, .irem, .ifCond .eq 20, .jsr 18] ls st m := At.eq k55_0
theorem k55_18 : pg.1 55 18 = [.bipush 0, .freturn] := rfl
theorem a55_18 {tb : Tab} {d : Nat} {K : Out → AM → Prop} {ls st : List AV} {m : AM} : At tb d 55 K 18 ls st m = wpB tb (pg.2.1 55) (Runs tb pg d) K (At tb d 55 K) [.bipush 0, .freturn] ls st m := At.eq k55_18
theorem k55_20 : pg.1 55 20 = [.bipush 0, .istore 2, .jsr 22] := rfl
theorem a55_20 {tb : Tab} {d : Nat} {K : Out → AM → Prop} {ls st : List AV} {m : AM} : At tb d 55 K 20 ls st m = wpB tb (pg.2.1 55) (Runs tb pg d) K (At tb d 55 K) [.bipush 0, .istore 2, .jsr 22] ls st m := At.eq k55_20
theorem k55_22 : pg.1 55 22 = [.iload 2, .bipush 1, .iadd, .iload 1, .if_icmp .ge 55, .aload 0, .iload 2, .iaload, .bipush 6, .if_icmp .ge 47, .aload 0, .iload 2, .bipush 1, .iadd, .iaload, .bipush 8, .if_icmp .lt 49, .jsr 47] := rfl
theorem a55_22 {tb : Tab} {d : Nat} {K : Out → AM → Prop} {ls st : List AV} {m : AM} : At tb d 55 K 22 ls st m = wpB tb (pg.2.1 55) (Runs tb pg d) K (At tb d 55 K) [.iload 2, .bipush 1, .iadd, .iload 1, .if_icmp .ge 55, .aload 0, .iload 2, .iaload, .bipush 6, .if_icmp .ge 47, .aload 0, .iload 2, .bipush 1, .iadd, .iaload, .bipush 8, .if_icmp .lt 49, .jsr 47] ls st m := At.eq k55_22
theorem k55_47 : pg.1 55 47 = [.bipush 0, .freturn] := rfl
theorem a55_47 {tb : Tab} {d : Nat} {K : Out → AM → Prop} {ls st : List AV} {m : AM} : At tb d 55 K 47 ls st m = wpB tb (pg.2.1 55) (Runs tb pg d) K (At tb d 55 K) [.bipush 0, .freturn] ls st m := At.eq k55_47
theorem k55_49 : pg.1 55 49 = [.iinc 2 2, .goto 22] := rfl
theorem a55_49 {tb : Tab} {d : Nat} {K : Out → AM → Prop} {ls st : List AV} {m : AM} : At tb d 55 K 49 ls st m = wpB tb (pg.2.1 55) (Runs tb pg d) K (At tb d 55 K) [.iinc 2 2, .goto 22] ls st m := At.eq k55_49
theorem k55_55 : pg.1 55 55 = [.bipush 1, .freturn] := rfl
theorem a55_55 {tb : Tab} {d : Nat} {K : Out → AM → Prop} {ls st : List AV} {m : AM} : At tb d 55 K 55 ls st m = wpB tb (pg.2.1 55) (Runs tb pg d) K (At tb d 55 K) [.bipush 1, .freturn] ls st m := At.eq k55_55
theorem w_55 {n : Int} (hn : 0 ≤ n ∧ n ≤ 400) (hT : ∀ j, 0 ≤ j → j < 400 → 0 ≤ S 1 j ∧ S 1 j < 256) (hK : ∀ v, yn v (goodT (S 1) n) → K (.inl (some (vi v))) (X S m)) : Runs tb pg (d + 1) 55 [vr 1, vi n] (X S m) K := by
  have hL : n % 2 = 0 → n ≤ 40 → At tb d 55 K 22 [vr 1, vi n, vi 0] [] (X S m) := by
    intro he hl
    have hL22 : (fun i : Int => ∀ (z2 : Int), z2 = 2 * i → (rwM (S 1) i) → At tb d 55 K 22 [vr 1, vi n, vi z2] [] (X S m)) 0 := by
      refine loopZ (fun i : Int => ∀ (z2 : Int), z2 = 2 * i → (rwM (S 1) i) → At tb d 55 K 22 [vr 1, vi n, vi z2] [] (X S m)) (n / 2) (by omega) ?_ ?_
      · intro i h0 h1 h9 z2 hz2 hr
        subst hz2
        have b1 := hT (2 * i) (by omega) (by omega)
        have b2 := hT (2 * i + 1) (by omega) (by omega)
        rw [a55_22]
        repeat' (first | omega | with_reducible refine h9 _ ?_ ?_ | with_reducible refine hK _ ?_ | simp only [w_iload, w_iconst, w_ifc, cI, Int.reduceToNat, w_aload, x_alen, w_alens, w_alenw, w_alenx, w_irem, w_if, w_fall, w_zreturn, w_istore, w_iadd, x_iald, w_ialoads, w_ialoadw, w_iinc, lgB, Nat.reduceSub, w_goto, isA_1, len_1, Int.cast_ofNat_Int, a55_0, a55_18, a55_20, a55_47, a55_49, a55_55, R32, List.getElem?_cons_zero, List.getElem?_cons_succ, List.set_cons_zero, List.set_cons_succ, List.cons_append, List.nil_append, List.replicate_succ, List.replicate_zero, List.take_succ_cons, List.take_zero, List.drop_succ_cons, List.drop_zero, List.reverse_cons, List.reverse_nil, List.length_cons, List.length_nil, Option.toList, true_and, and_true, eq_self, ↓reduceIte, not_true_eq_false, not_false_eq_true, true_or, or_true] | with_reducible refine And.intro ?_ ?_ | with_reducible intro _)
        all_goals (try (first | omega | contradiction | (exact Or.inr ⟨rfl, fun y => by have := y.2.2 i h0 h1; omega⟩) | (exact (rwM_s h0).mpr ⟨hr, by omega, by omega⟩)))
      · intro z2 hz2 hr
        subst hz2
        rw [a55_22]
        repeat' (first | omega | with_reducible refine hK _ ?_ | simp only [w_iload, w_iconst, w_ifc, cI, Int.reduceToNat, w_aload, x_alen, w_alens, w_alenw, w_alenx, w_irem, w_if, w_fall, w_zreturn, w_istore, w_iadd, x_iald, w_ialoads, w_ialoadw, w_iinc, lgB, Nat.reduceSub, w_goto, isA_1, len_1, Int.cast_ofNat_Int, a55_0, a55_18, a55_20, a55_47, a55_49, a55_55, R32, List.getElem?_cons_zero, List.getElem?_cons_succ, List.set_cons_zero, List.set_cons_succ, List.cons_append, List.nil_append, List.replicate_succ, List.replicate_zero, List.take_succ_cons, List.take_zero, List.drop_succ_cons, List.drop_zero, List.reverse_cons, List.reverse_nil, List.length_cons, List.length_nil, Option.toList, true_and, and_true, eq_self, ↓reduceIte, not_true_eq_false, not_false_eq_true, true_or, or_true] | with_reducible refine And.intro ?_ ?_ | with_reducible intro _)
        all_goals (try (first | omega | contradiction | (exact Or.inl ⟨rfl, he, hl, hr⟩)))
    exact hL22 _ (by omega) rwM_0
  refine Runs.of (al := [vr 1, vi n]) (n := 1) trivial rfl rfl trivial ?_
  repeat' (first | omega | with_reducible refine hL ?_ ?_ | with_reducible refine hK _ ?_ | simp only [w_iload, w_iconst, w_ifc, cI, Int.reduceToNat, w_aload, x_alen, w_alens, w_alenw, w_alenx, w_irem, w_if, w_fall, w_zreturn, w_istore, w_iadd, x_iald, w_ialoads, w_ialoadw, w_iinc, lgB, Nat.reduceSub, w_goto, isA_1, len_1, Int.cast_ofNat_Int, a55_0, a55_18, a55_20, a55_47, a55_49, a55_55, R32, List.getElem?_cons_zero, List.getElem?_cons_succ, List.set_cons_zero, List.set_cons_succ, List.cons_append, List.nil_append, List.replicate_succ, List.replicate_zero, List.take_succ_cons, List.take_zero, List.drop_succ_cons, List.drop_zero, List.reverse_cons, List.reverse_nil, List.length_cons, List.length_nil, Option.toList, true_and, and_true, eq_self, ↓reduceIte, not_true_eq_false, not_false_eq_true, true_or, or_true, x_alen_1] | with_reducible refine And.intro ?_ ?_ | with_reducible intro _)
  all_goals (try (first | omega | (exfalso; assumption) | (exact Or.inr ⟨rfl, fun y => by have := y.1; have := y.2.1; omega⟩)))
theorem k58_0 : pg.1 58 0 = [.bipush 0, .istore 4, .bipush 0, .istore 5, .jsr 6] := rfl
theorem a58_0 {tb : Tab} {d : Nat} {K : Out → AM → Prop} {ls st : List AV} {m : AM} : At tb d 58 K 0 ls st m = wpB tb (pg.2.1 58) (Runs tb pg d) K (At tb d 58 K) [.bipush 0, .istore 4, .bipush 0, .istore 5, .jsr 6] ls st m := At.eq k58_0
theorem k58_6 : pg.1 58 6 = [.iload 5, .aload 1, .getfield 804, .if_icmp .ge 42, .aload 1, .iload 5, .aload 2, .iload 3, .invokeinterface 57 4, .bipush 1, .if_icmp .gt 36, .iload 4, .bipush 1, .iload 5, .ishl, .ior, .istore 4, .jsr 36] := rfl
theorem a58_6 {tb : Tab} {d : Nat} {K : Out → AM → Prop} {ls st : List AV} {m : AM} : At tb d 58 K 6 ls st m = wpB tb (pg.2.1 58) (Runs tb pg d) K (At tb d 58 K) [.iload 5, .aload 1, .getfield 804, .if_icmp .ge 42, .aload 1, .iload 5, .aload 2, .iload 3, .invokeinterface 57 4, .bipush 1, .if_icmp .gt 36, .iload 4, .bipush 1, .iload 5, .ishl, .ior, .istore 4, .jsr 36] ls st m := At.eq k58_6
theorem k58_36 : pg.1 58 36 = [.iinc 5 1, .goto 6] := rfl
theorem a58_36 {tb : Tab} {d : Nat} {K : Out → AM → Prop} {ls st : List AV} {m : AM} : At tb d 58 K 36 ls st m = wpB tb (pg.2.1 58) (Runs tb pg d) K (At tb d 58 K) [.iinc 5 1, .goto 6] ls st m := At.eq k58_36
theorem k58_42 : pg.1 58 42 = [.iload 4, .ireturn] := rfl
theorem a58_42 {tb : Tab} {d : Nat} {K : Out → AM → Prop} {ls st : List AV} {m : AM} : At tb d 58 K 42 ls st m = wpB tb (pg.2.1 58) (Runs tb pg d) K (At tb d 58 K) [.iload 4, .ireturn] ls st m := At.eq k58_42
theorem w_58 {n : Int} (hw : isW w) (hR : RW S w r) (hA : AB r) (hV : GV r) (hn : (0 ≤ n ∧ n ≤ 40) ∧ n % 2 = 0) (hr : ∀ j, 0 ≤ j → j < n / 2 → (0 ≤ S 1 (2 * j) ∧ S 1 (2 * j) < 6) ∧ (0 ≤ S 1 (2 * j + 1) ∧ S 1 (2 * j + 1) < 256)) (hK : ∀ v, v = setZ (r 4) (fun p => wrM (pr r) (S 1) p (n / 2) ≤ 1) → K (.inl (some (vi v))) (X S m)) : Runs tb pg (d + 3) 58 [vr 64, vr w, vr 1, vi n] (X S m) K := by
  have b3 := hA.2.1.1
  have b4 := hA.2.1.2.1
  have b5 := hA.2.1.2.2.1
  have e0 := hR.1.1
  have e4 := hR.1.2.1
  have hL6 : (fun i : Int => ∀ (a : Int), a = setZ i (fun p => wrM (pr r) (S 1) p (n / 2) ≤ 1) → At tb (d + 2) 58 K 6 [vr 64, vr w, vr 1, vi n, vi a, vi i] [] (X S m)) 0 := by
    refine loopZ (fun i : Int => ∀ (a : Int), a = setZ i (fun p => wrM (pr r) (S 1) p (n / 2) ≤ 1) → At tb (d + 2) 58 K 6 [vr 64, vr w, vr 1, vi n, vi a, vi i] [] (X S m)) (r 4) (by omega) ?_ ?_
    · intro i h0 h1 h9 a ha
      have wb := wrM_rg (P := pr r) (t := S 1) (p := i) (i := n / 2) (by omega)
      rw [a58_6]
      repeat' (first | omega | with_reducible refine h9 _ ?_ | simp only [w_iconst, w_istore, w_fall, Int.reduceToNat, w_iload, w_aload, x_g804_w0, w_ifc, cI, w_call, w_ishl, w_ior, w_iinc, lgB, Nat.reduceSub, w_goto, w_ireturn, a58_0, a58_36, a58_42, R32, List.getElem?_cons_zero, List.getElem?_cons_succ, List.set_cons_zero, List.set_cons_succ, List.cons_append, List.nil_append, List.replicate_succ, List.replicate_zero, List.take_succ_cons, List.take_zero, List.drop_succ_cons, List.drop_zero, List.reverse_cons, List.reverse_nil, List.length_cons, List.length_nil, Option.toList, true_and, and_true, eq_self, ↓reduceIte, not_true_eq_false, not_false_eq_true, true_or, or_true, hw] | with_reducible refine w_57 hw hR hA hV ⟨h0, h1⟩ hn hr (fun v1 x1 => ?_) | with_reducible refine And.intro ?_ ?_ | with_reducible intro _)
      all_goals (try (first | omega | contradiction | (exact setZ_yes h0 (by omega) ha (by omega)) | (exact setZ_no h0 ha (by omega))))
    · intro a ha
      rw [a58_6]
      repeat' (first | omega | with_reducible refine hK _ ?_ | simp only [w_iconst, w_istore, w_fall, Int.reduceToNat, w_iload, w_aload, x_g804_w0, w_ifc, cI, w_call, w_ishl, w_ior, w_iinc, lgB, Nat.reduceSub, w_goto, w_ireturn, a58_0, a58_36, a58_42, R32, List.getElem?_cons_zero, List.getElem?_cons_succ, List.set_cons_zero, List.set_cons_succ, List.cons_append, List.nil_append, List.replicate_succ, List.replicate_zero, List.take_succ_cons, List.take_zero, List.drop_succ_cons, List.drop_zero, List.reverse_cons, List.reverse_nil, List.length_cons, List.length_nil, Option.toList, true_and, and_true, eq_self, ↓reduceIte, not_true_eq_false, not_false_eq_true, true_or, or_true, hw] | with_reducible refine w_57 hw hR hA hV ⟨h0, h1⟩ hn hr (fun v1 x1 => ?_) | with_reducible refine And.intro ?_ ?_ | with_reducible intro _)
      all_goals (try (first | omega | contradiction | omega))
  refine Runs.of (al := [vr 64, vr w, vr 1, vi n]) (n := 2) ⟨64, _, _, rfl, xo_64⟩ rfl rfl trivial ?_
  repeat' (first | omega | with_reducible refine hL6 _ ?_ | simp only [w_iconst, w_istore, w_fall, Int.reduceToNat, w_iload, w_aload, x_g804_w0, w_ifc, cI, w_call, w_ishl, w_ior, w_iinc, lgB, Nat.reduceSub, w_goto, w_ireturn, a58_0, a58_36, a58_42, R32, List.getElem?_cons_zero, List.getElem?_cons_succ, List.set_cons_zero, List.set_cons_succ, List.cons_append, List.nil_append, List.replicate_succ, List.replicate_zero, List.take_succ_cons, List.take_zero, List.drop_succ_cons, List.drop_zero, List.reverse_cons, List.reverse_nil, List.length_cons, List.length_nil, Option.toList, true_and, and_true, eq_self, ↓reduceIte, not_true_eq_false, not_false_eq_true, true_or, or_true, hw] | with_reducible refine And.intro ?_ ?_ | with_reducible intro _)
  all_goals (try (first | omega | (exfalso; assumption) | rfl))
theorem k59_0 : pg.1 59 0 = [.bipush (-1), .istore 4, .bipush 2, .istore 5, .bipush 0, .istore 6, .jsr 9] := rfl
theorem a59_0 {tb : Tab} {d : Nat} {K : Out → AM → Prop} {ls st : List AV} {m : AM} : At tb d 59 K 0 ls st m = wpB tb (pg.2.1 59) (Runs tb pg d) K (At tb d 59 K) [.bipush (-1), .istore 4, .bipush 2, .istore 5, .bipush 0, .istore 6, .jsr 9] ls st m := At.eq k59_0
theorem k59_9 : pg.1 59 9 = [.iload 6, .aload 1, .getfield 804, .if_icmp .ge 49, .aload 1, .iload 6, .aload 2, .iload 3, .invokeinterface 57 4, .istore 7, .iload 7, .iload 5, .if_icmp .ge 43, .iload 7, .istore 5, .iload 6, .istore 4, .jsr 43] := rfl
theorem a59_9 {tb : Tab} {d : Nat} {K : Out → AM → Prop} {ls st : List AV} {m : AM} : At tb d 59 K 9 ls st m = wpB tb (pg.2.1 59) (Runs tb pg d) K (At tb d 59 K) [.iload 6, .aload 1, .getfield 804, .if_icmp .ge 49, .aload 1, .iload 6, .aload 2, .iload 3, .invokeinterface 57 4, .istore 7, .iload 7, .iload 5, .if_icmp .ge 43, .iload 7, .istore 5, .iload 6, .istore 4, .jsr 43] ls st m := At.eq k59_9
theorem k59_43 : pg.1 59 43 = [.iinc 6 1, .goto 9] := rfl
theorem a59_43 {tb : Tab} {d : Nat} {K : Out → AM → Prop} {ls st : List AV} {m : AM} : At tb d 59 K 43 ls st m = wpB tb (pg.2.1 59) (Runs tb pg d) K (At tb d 59 K) [.iinc 6 1, .goto 9] ls st m := At.eq k59_43
theorem k59_49 : pg.1 59 49 = [.iload 4, .ireturn] := rfl
theorem a59_49 {tb : Tab} {d : Nat} {K : Out → AM → Prop} {ls st : List AV} {m : AM} : At tb d 59 K 49 ls st m = wpB tb (pg.2.1 59) (Runs tb pg d) K (At tb d 59 K) [.iload 4, .ireturn] ls st m := At.eq k59_49
theorem w_59 {n : Int} (hw : isW w) (hR : RW S w r) (hA : AB r) (hV : GV r) (hn : (0 ≤ n ∧ n ≤ 40) ∧ n % 2 = 0) (hr : ∀ j, 0 ≤ j → j < n / 2 → (0 ≤ S 1 (2 * j) ∧ S 1 (2 * j) < 6) ∧ (0 ≤ S 1 (2 * j + 1) ∧ S 1 (2 * j + 1) < 256)) (hK : ∀ v, isMinP (fun p => wrM (pr r) (S 1) p (n / 2) ≤ 1) (fun p => wrM (pr r) (S 1) p (n / 2)) (r 4) v → K (.inl (some (vi v))) (X S m)) : Runs tb pg (d + 3) 59 [vr 64, vr w, vr 1, vi n] (X S m) K := by
  have b3 := hA.2.1.1
  have b4 := hA.2.1.2.1
  have b5 := hA.2.1.2.2.1
  have e0 := hR.1.1
  have e4 := hR.1.2.1
  have hL9 : (fun i : Int => ∀ (a : Int) (f : Int) (z7 : AV), (isMinP (fun p => wrM (pr r) (S 1) p (n / 2) ≤ 1) (fun p => wrM (pr r) (S 1) p (n / 2)) i a) → ((a = -1 ∧ f = 2) ∨ (a ≠ -1 ∧ f = wrM (pr r) (S 1) a (n / 2) ∧ 0 ≤ f ∧ f ≤ 1)) → At tb (d + 2) 59 K 9 [vr 64, vr w, vr 1, vi n, vi a, vi f, vi i, z7] [] (X S m)) 0 := by
    refine loopZ (fun i : Int => ∀ (a : Int) (f : Int) (z7 : AV), (isMinP (fun p => wrM (pr r) (S 1) p (n / 2) ≤ 1) (fun p => wrM (pr r) (S 1) p (n / 2)) i a) → ((a = -1 ∧ f = 2) ∨ (a ≠ -1 ∧ f = wrM (pr r) (S 1) a (n / 2) ∧ 0 ≤ f ∧ f ≤ 1)) → At tb (d + 2) 59 K 9 [vr 64, vr w, vr 1, vi n, vi a, vi f, vi i, z7] [] (X S m)) (r 4) (by omega) ?_ ?_
    · intro i h0 h1 h9 a f z7 hm hf
      have wb := wrM_rg (P := pr r) (t := S 1) (p := i) (i := n / 2) (by omega)
      have ag := isMinP_rg hm
      rw [a59_9]
      repeat' (first | omega | with_reducible refine h9 _ _ _ ?_ ?_ | simp only [w_iconst, w_istore, w_fall, Int.reduceToNat, w_iload, w_aload, x_g804_w0, w_ifc, cI, w_call, w_iinc, lgB, Nat.reduceSub, w_goto, w_ireturn, a59_0, a59_43, a59_49, R32, List.getElem?_cons_zero, List.getElem?_cons_succ, List.set_cons_zero, List.set_cons_succ, List.cons_append, List.nil_append, List.replicate_succ, List.replicate_zero, List.take_succ_cons, List.take_zero, List.drop_succ_cons, List.drop_zero, List.reverse_cons, List.reverse_nil, List.length_cons, List.length_nil, Option.toList, true_and, and_true, eq_self, ↓reduceIte, not_true_eq_false, not_false_eq_true, true_or, or_true, hw] | with_reducible refine w_57 hw hR hA hV ⟨h0, h1⟩ hn hr (fun v1 x1 => ?_) | with_reducible refine And.intro ?_ ?_ | with_reducible intro _)
      all_goals (try (first | omega | contradiction | (exact isMinP_y h0 hm (by omega) (by omega)) | (exact isMinP_n hm (by omega)) | (exact hm) | (exact hf)))
    · intro a f z7 hm hf
      rw [a59_9]
      repeat' (first | omega | (exact hK _ hm) | simp only [w_iconst, w_istore, w_fall, Int.reduceToNat, w_iload, w_aload, x_g804_w0, w_ifc, cI, w_call, w_iinc, lgB, Nat.reduceSub, w_goto, w_ireturn, a59_0, a59_43, a59_49, R32, List.getElem?_cons_zero, List.getElem?_cons_succ, List.set_cons_zero, List.set_cons_succ, List.cons_append, List.nil_append, List.replicate_succ, List.replicate_zero, List.take_succ_cons, List.take_zero, List.drop_succ_cons, List.drop_zero, List.reverse_cons, List.reverse_nil, List.length_cons, List.length_nil, Option.toList, true_and, and_true, eq_self, ↓reduceIte, not_true_eq_false, not_false_eq_true, true_or, or_true, hw] | with_reducible refine w_57 hw hR hA hV ⟨h0, h1⟩ hn hr (fun v1 x1 => ?_) | with_reducible refine And.intro ?_ ?_ | with_reducible intro _)
      all_goals (try (first | omega | contradiction | omega))
  refine Runs.of (al := [vr 64, vr w, vr 1, vi n]) (n := 4) ⟨64, _, _, rfl, xo_64⟩ rfl rfl trivial ?_
  repeat' (first | omega | with_reducible refine hL9 _ _ _ ?_ ?_ | simp only [w_iconst, w_istore, w_fall, Int.reduceToNat, w_iload, w_aload, x_g804_w0, w_ifc, cI, w_call, w_iinc, lgB, Nat.reduceSub, w_goto, w_ireturn, a59_0, a59_43, a59_49, R32, List.getElem?_cons_zero, List.getElem?_cons_succ, List.set_cons_zero, List.set_cons_succ, List.cons_append, List.nil_append, List.replicate_succ, List.replicate_zero, List.take_succ_cons, List.take_zero, List.drop_succ_cons, List.drop_zero, List.reverse_cons, List.reverse_nil, List.length_cons, List.length_nil, Option.toList, true_and, and_true, eq_self, ↓reduceIte, not_true_eq_false, not_false_eq_true, true_or, or_true, hw] | with_reducible refine And.intro ?_ ?_ | with_reducible intro _)
  all_goals (try (first | omega | (exfalso; assumption) | exact isMinP_0))
theorem k61_0 : pg.1 61 0 = [.bipush 0, .istore 3, .bipush 0, .istore 4, .jsr 5] := rfl
theorem a61_0 {tb : Tab} {d : Nat} {K : Out → AM → Prop} {ls st : List AV} {m : AM} : At tb d 61 K 0 ls st m = wpB tb (pg.2.1 61) (Runs tb pg d) K (At tb d 61 K) [.bipush 0, .istore 3, .bipush 0, .istore 4, .jsr 5] ls st m := At.eq k61_0
theorem k61_5 : pg.1 61 5 = [.iload 4, .aload 0, .getfield 804, .if_icmp .ge 100, .bipush 0, .istore 5, .bipush 0, .istore 6, .jsr 20] := rfl
theorem a61_5 {tb : Tab} {d : Nat} {K : Out → AM → Prop} {ls st : List AV} {m : AM} : At tb d 61 K 5 ls st m = wpB tb (pg.2.1 61) (Runs tb pg d) K (At tb d 61 K) [.iload 4, .aload 0, .getfield 804, .if_icmp .ge 100, .bipush 0, .istore 5, .bipush 0, .istore 6, .jsr 20] ls st m := At.eq k61_5
theorem k61_20 : pg.1 61 20 = [.iload 6, .aload 0, .getfield 804, .if_icmp .ge 87, .iload 1, .iload 4, .ishr, .bipush 1, .iand, .bipush 1, .if_icmp .ne 53, .iload 1, .iload 6, .ishr, .bipush 1, .iand, .bipush 1, .if_icmp .ne 53, .bipush 1, .goto 54] := rfl
theorem a61_20 {tb : Tab} {d : Nat} {K : Out → AM → Prop} {ls st : List AV} {m : AM} : At tb d 61 K 20 ls st m = wpB tb (pg.2.1 61) (Runs tb pg d) K (At tb d 61 K) [.iload 6, .aload 0, .getfield 804, .if_icmp .ge 87, .iload 1, .iload 4, .ishr, .bipush 1, .iand, .bipush 1, .if_icmp .ne 53, .iload 1, .iload 6, .ishr, .bipush 1, .iand, .bipush 1, .if_icmp .ne 53, .bipush 1, .goto 54] ls st m := At.eq k61_20
theorem k61_53 : pg.1 61 53 = [.bipush 0, .jsr 54] := rfl
theorem a61_53 {tb : Tab} {d : Nat} {K : Out → AM → Prop} {ls st : List AV} {m : AM} : At tb d 61 K 53 ls st m = wpB tb (pg.2.1 61) (Runs tb pg d) K (At tb d 61 K) [.bipush 0, .jsr 54] ls st m := At.eq k61_53
theorem k61_54 : pg.1 61 54 = [.istore 7, .iload 7, .ifCond .eq 81, .aload 0, .iload 4, .iload 2, .invokeinterface 56 3, .aload 0, .iload 6, .iload 2, .invokeinterface 56 3, .if_icmp .ne 81, .iinc 5 1, .jsr 81] := rfl
theorem a61_54 {tb : Tab} {d : Nat} {K : Out → AM → Prop} {ls st : List AV} {m : AM} : At tb d 61 K 54 ls st m = wpB tb (pg.2.1 61) (Runs tb pg d) K (At tb d 61 K) [.istore 7, .iload 7, .ifCond .eq 81, .aload 0, .iload 4, .iload 2, .invokeinterface 56 3, .aload 0, .iload 6, .iload 2, .invokeinterface 56 3, .if_icmp .ne 81, .iinc 5 1, .jsr 81] ls st m := At.eq k61_54
theorem k61_81 : pg.1 61 81 = [.iinc 6 1, .goto 20] := rfl
theorem a61_81 {tb : Tab} {d : Nat} {K : Out → AM → Prop} {ls st : List AV} {m : AM} : At tb d 61 K 81 ls st m = wpB tb (pg.2.1 61) (Runs tb pg d) K (At tb d 61 K) [.iinc 6 1, .goto 20] ls st m := At.eq k61_81
theorem k61_87 : pg.1 61 87 = [.iload 3, .iload 5, .invokestatic 1, .istore 3, .iinc 4 1, .goto 5] := rfl
theorem a61_87 {tb : Tab} {d : Nat} {K : Out → AM → Prop} {ls st : List AV} {m : AM} : At tb d 61 K 87 ls st m = wpB tb (pg.2.1 61) (Runs tb pg d) K (At tb d 61 K) [.iload 3, .iload 5, .invokestatic 1, .istore 3, .iinc 4 1, .goto 5] ls st m := At.eq k61_87
theorem k61_100 : pg.1 61 100 = [.iload 3, .ireturn] := rfl
theorem a61_100 {tb : Tab} {d : Nat} {K : Out → AM → Prop} {ls st : List AV} {m : AM} : At tb d 61 K 100 ls st m = wpB tb (pg.2.1 61) (Runs tb pg d) K (At tb d 61 K) [.iload 3, .ireturn] ls st m := At.eq k61_100
theorem w_61 {s k : Int} (hw : isW w) (hR : RW S w r) (hA : AB r) (hV : GV r) (hs : 0 ≤ s ∧ s < 64) (hk : 0 ≤ k ∧ k < 6) (hK : ∀ v, v = ptM (pr r) (r 4) s k → 0 ≤ v → v ≤ 6 → K (.inl (some (vi v))) (X S m)) : Runs tb pg (d + 2) 61 [vr w, vi s, vi k] (X S m) K := by
  have b3 := hA.2.1.1
  have b4 := hA.2.1.2.1
  have b5 := hA.2.1.2.2.1
  have e0 := hR.1.1
  have e4 := hR.1.2.1
  have hVV : ∀ p, 0 ≤ p → p < r 4 → -1 ≤ pr r p (2 + k) ∧ pr r p (2 + k) < 8 := fun p p0 p1 => (AB_pk hA p0 p1 hk.1 hk.2).2.1
  have hL5 : (fun i : Int => ∀ (g : Int) (z5 : AV) (z6 : AV) (z7 : AV), (gpM (pr r) (r 4) s k g i) → At tb (d + 1) 61 K 5 [vr w, vi s, vi k, vi g, vi i, z5, z6, z7] [] (X S m)) 0 := by
    refine loopZ (fun i : Int => ∀ (g : Int) (z5 : AV) (z6 : AV) (z7 : AV), (gpM (pr r) (r 4) s k g i) → At tb (d + 1) 61 K 5 [vr w, vi s, vi k, vi g, vi i, z5, z6, z7] [] (X S m)) (r 4) (by omega) ?_ ?_
    · intro i h0 h1 h9 g z5 z6 z7 hg
      have gr9 := hg.2.2
      have ad := and_rg (shrI s i) 1
      have hL20 : (fun j : Int => ∀ (c : Int) (z7 : AV), c = ptI (pr r) s k i j → At tb (d + 1) 61 K 20 [vr w, vi s, vi k, vi g, vi i, vi c, vi j, z7] [] (X S m)) 0 := by
        refine loopZ (fun j : Int => ∀ (c : Int) (z7 : AV), c = ptI (pr r) s k i j → At tb (d + 1) 61 K 20 [vr w, vi s, vi k, vi g, vi i, vi c, vi j, z7] [] (X S m)) (r 4) (by omega) ?_ ?_
        · intro j j0 j1 h8 c z7 hc
          have ad2 := and_rg (shrI s j) 1
          have ps := ptI_s (P := pr r) (s := s) (k := k) (p := i) j0
          rw [a61_20]
          repeat' (first | omega | with_reducible refine h8 _ _ ?_ | simp only [w_iconst, w_istore, w_fall, Int.reduceToNat, w_iload, w_aload, x_g804_w0, w_ifc, cI, w_ishr, w_iand, w_goto, w_if, w_call, w_iinc, lgB, Nat.reduceSub, w_max, w_ireturn, a61_0, a61_53, a61_54, a61_81, a61_87, a61_100, R32, List.getElem?_cons_zero, List.getElem?_cons_succ, List.set_cons_zero, List.set_cons_succ, List.cons_append, List.nil_append, List.replicate_succ, List.replicate_zero, List.take_succ_cons, List.take_zero, List.drop_succ_cons, List.drop_zero, List.reverse_cons, List.reverse_nil, List.length_cons, List.length_nil, Option.toList, true_and, and_true, eq_self, ↓reduceIte, not_true_eq_false, not_false_eq_true, true_or, or_true, hw] | with_reducible refine w_56 hw hR hA hV ⟨h0, h1⟩ hk (fun v1 x1 y1 u1 => ?_) | with_reducible refine w_56 hw hR hA hV ⟨j0, j1⟩ hk (fun v2 x2 y2 u2 => ?_) | with_reducible refine And.intro ?_ ?_ | with_reducible intro _)
          all_goals (try (first | omega | contradiction | (rw [ps, if_pos ⟨(show andI (shrI s i) 1 = 1 by omega), (show andI (shrI s j) 1 = 1 by omega), by omega⟩]; omega) | (rw [ps, if_neg (fun y => by have ya : andI (shrI s i) 1 = 1 := y.1; have yb : andI (shrI s j) 1 = 1 := y.2.1; have yc := y.2.2; omega)]; omega)))
        · intro c z7 hc
          rw [ptI_e (by omega)] at hc
          have cb := cntBy_le (P := pr r) (n := r 4) (s := s) (k := k) (v := pr r i (2 + k)) (by omega)
          have hcc : 0 ≤ c ∧ c ≤ 6 := by (rw [hc]; split <;> omega)
          rw [a61_20]
          repeat' (first | omega | with_reducible refine h9 _ _ _ _ ?_ | simp only [w_iconst, w_istore, w_fall, Int.reduceToNat, w_iload, w_aload, x_g804_w0, w_ifc, cI, w_ishr, w_iand, w_goto, w_if, w_call, w_iinc, lgB, Nat.reduceSub, w_max, w_ireturn, a61_0, a61_53, a61_54, a61_81, a61_87, a61_100, R32, List.getElem?_cons_zero, List.getElem?_cons_succ, List.set_cons_zero, List.set_cons_succ, List.cons_append, List.nil_append, List.replicate_succ, List.replicate_zero, List.take_succ_cons, List.take_zero, List.drop_succ_cons, List.drop_zero, List.reverse_cons, List.reverse_nil, List.length_cons, List.length_nil, Option.toList, true_and, and_true, eq_self, ↓reduceIte, not_true_eq_false, not_false_eq_true, true_or, or_true, hw] | with_reducible refine w_56 hw hR hA hV ⟨h0, h1⟩ hk (fun v1 x1 y1 u1 => ?_) | with_reducible refine w_56 hw hR hA hV ⟨j0, j1⟩ hk (fun v2 x2 y2 u2 => ?_) | with_reducible refine And.intro ?_ ?_ | with_reducible intro _)
          all_goals (try (first | omega | contradiction | exact gpM_s (by omega) h0 hg hc | (unfold R32; omega)))
      rw [a61_5]
      repeat' (first | omega | with_reducible refine h9 _ _ _ _ ?_ | with_reducible refine hL20 _ _ ?_ | simp only [w_iconst, w_istore, w_fall, Int.reduceToNat, w_iload, w_aload, x_g804_w0, w_ifc, cI, w_ishr, w_iand, w_goto, w_if, w_call, w_iinc, lgB, Nat.reduceSub, w_max, w_ireturn, a61_0, a61_53, a61_54, a61_81, a61_87, a61_100, R32, List.getElem?_cons_zero, List.getElem?_cons_succ, List.set_cons_zero, List.set_cons_succ, List.cons_append, List.nil_append, List.replicate_succ, List.replicate_zero, List.take_succ_cons, List.take_zero, List.drop_succ_cons, List.drop_zero, List.reverse_cons, List.reverse_nil, List.length_cons, List.length_nil, Option.toList, true_and, and_true, eq_self, ↓reduceIte, not_true_eq_false, not_false_eq_true, true_or, or_true, hw] | with_reducible refine And.intro ?_ ?_ | with_reducible intro _)
      all_goals (try (first | omega | contradiction | rfl))
    · intro g z5 z6 z7 hg
      rw [a61_5]
      repeat' (first | omega | (exact hK _ (gpM_e (by omega) hg hVV) hg.2.2.1 hg.2.2.2) | simp only [w_iconst, w_istore, w_fall, Int.reduceToNat, w_iload, w_aload, x_g804_w0, w_ifc, cI, w_ishr, w_iand, w_goto, w_if, w_call, w_iinc, lgB, Nat.reduceSub, w_max, w_ireturn, a61_0, a61_53, a61_54, a61_81, a61_87, a61_100, R32, List.getElem?_cons_zero, List.getElem?_cons_succ, List.set_cons_zero, List.set_cons_succ, List.cons_append, List.nil_append, List.replicate_succ, List.replicate_zero, List.take_succ_cons, List.take_zero, List.drop_succ_cons, List.drop_zero, List.reverse_cons, List.reverse_nil, List.length_cons, List.length_nil, Option.toList, true_and, and_true, eq_self, ↓reduceIte, not_true_eq_false, not_false_eq_true, true_or, or_true, hw] | with_reducible refine And.intro ?_ ?_ | with_reducible intro _)
      all_goals (try (first | omega | contradiction | omega))
  refine Runs.of (al := [vr w, vi s, vi k]) (n := 5) trivial rfl rfl trivial ?_
  repeat' (first | omega | with_reducible refine hL5 _ _ _ _ ?_ | simp only [w_iconst, w_istore, w_fall, Int.reduceToNat, w_iload, w_aload, x_g804_w0, w_ifc, cI, w_ishr, w_iand, w_goto, w_if, w_call, w_iinc, lgB, Nat.reduceSub, w_max, w_ireturn, a61_0, a61_53, a61_54, a61_81, a61_87, a61_100, R32, List.getElem?_cons_zero, List.getElem?_cons_succ, List.set_cons_zero, List.set_cons_succ, List.cons_append, List.nil_append, List.replicate_succ, List.replicate_zero, List.take_succ_cons, List.take_zero, List.drop_succ_cons, List.drop_zero, List.reverse_cons, List.reverse_nil, List.length_cons, List.length_nil, Option.toList, true_and, and_true, eq_self, ↓reduceIte, not_true_eq_false, not_false_eq_true, true_or, or_true, hw] | with_reducible refine And.intro ?_ ?_ | with_reducible intro _)
  all_goals (try (first | omega | (exfalso; assumption) | exact gpM_0))
theorem k60_0 : pg.1 60 0 = [.iload 2, .invokeinterface 382 1, .bipush 2, .if_icmp .ge 10, .bipush (-1), .ireturn] := rfl
theorem a60_0 {tb : Tab} {d : Nat} {K : Out → AM → Prop} {ls st : List AV} {m : AM} : At tb d 60 K 0 ls st m = wpB tb (pg.2.1 60) (Runs tb pg d) K (At tb d 60 K) [.iload 2, .invokeinterface 382 1, .bipush 2, .if_icmp .ge 10, .bipush (-1), .ireturn] ls st m := At.eq k60_0
theorem k60_10 : pg.1 60 10 = [.bipush (-1), .istore 3, .bipush 7, .istore 4, .bipush 0, .istore 5, .jsr 19] := rfl
theorem a60_10 {tb : Tab} {d : Nat} {K : Out → AM → Prop} {ls st : List AV} {m : AM} : At tb d 60 K 10 ls st m = wpB tb (pg.2.1 60) (Runs tb pg d) K (At tb d 60 K) [.bipush (-1), .istore 3, .bipush 7, .istore 4, .bipush 0, .istore 5, .jsr 19] ls st m := At.eq k60_10
theorem k60_19 : pg.1 60 19 = [.iload 5, .bipush 6, .if_icmp .ge 55, .aload 1, .iload 2, .iload 5, .invokeinterface 61 3, .istore 6, .iload 6, .iload 4, .if_icmp .ge 49, .iload 6, .istore 4, .iload 5, .istore 3, .jsr 49] := rfl
theorem a60_19 {tb : Tab} {d : Nat} {K : Out → AM → Prop} {ls st : List AV} {m : AM} : At tb d 60 K 19 ls st m = wpB tb (pg.2.1 60) (Runs tb pg d) K (At tb d 60 K) [.iload 5, .bipush 6, .if_icmp .ge 55, .aload 1, .iload 2, .iload 5, .invokeinterface 61 3, .istore 6, .iload 6, .iload 4, .if_icmp .ge 49, .iload 6, .istore 4, .iload 5, .istore 3, .jsr 49] ls st m := At.eq k60_19
theorem k60_49 : pg.1 60 49 = [.iinc 5 1, .goto 19] := rfl
theorem a60_49 {tb : Tab} {d : Nat} {K : Out → AM → Prop} {ls st : List AV} {m : AM} : At tb d 60 K 49 ls st m = wpB tb (pg.2.1 60) (Runs tb pg d) K (At tb d 60 K) [.iinc 5 1, .goto 19] ls st m := At.eq k60_49
theorem k60_55 : pg.1 60 55 = [.iload 3, .ireturn] := rfl
theorem a60_55 {tb : Tab} {d : Nat} {K : Out → AM → Prop} {ls st : List AV} {m : AM} : At tb d 60 K 55 ls st m = wpB tb (pg.2.1 60) (Runs tb pg d) K (At tb d 60 K) [.iload 3, .ireturn] ls st m := At.eq k60_55
theorem w_60 {s : Int} (hw : isW w) (hR : RW S w r) (hA : AB r) (hV : GV r) (hs : 0 ≤ s ∧ s < 64) (hK : ∀ v, lookM (pr r) (r 4) s v → K (.inl (some (vi v))) (X S m)) : Runs tb pg (d + 3) 60 [vr 64, vr w, vi s] (X S m) K := by
  have b3 := hA.2.1.1
  have b4 := hA.2.1.2.1
  have b5 := hA.2.1.2.2.1
  have e0 := hR.1.1
  have e4 := hR.1.2.1
  have bl := bits_le s
  have hL : 1 < bitsM s 31 → ∀ z, At tb (d + 2) 60 K 19 [vr 64, vr w, vi s, vi (-1), vi 7, vi 0, z] [] (X S m) := by
    intro hb z
    have hL19 : (fun i : Int => ∀ (a : Int) (f : Int) (z7 : AV), (isMinP (fun _ => True) (ptM (pr r) (r 4) s) i a) → ((a = -1 ∧ f = 7) ∨ (a ≠ -1 ∧ f = ptM (pr r) (r 4) s a ∧ 0 ≤ f ∧ f ≤ 6)) → At tb (d + 2) 60 K 19 [vr 64, vr w, vi s, vi a, vi f, vi i, z7] [] (X S m)) 0 := by
      refine loopZ (fun i : Int => ∀ (a : Int) (f : Int) (z7 : AV), (isMinP (fun _ => True) (ptM (pr r) (r 4) s) i a) → ((a = -1 ∧ f = 7) ∨ (a ≠ -1 ∧ f = ptM (pr r) (r 4) s a ∧ 0 ≤ f ∧ f ≤ 6)) → At tb (d + 2) 60 K 19 [vr 64, vr w, vi s, vi a, vi f, vi i, z7] [] (X S m)) (6) (by omega) ?_ ?_
      · intro i h0 h1 h9 a f z7 hm hf
        have ag := isMinP_rg hm
        rw [a60_19]
        repeat' (first | omega | with_reducible refine h9 _ _ _ ?_ ?_ | simp only [w_iload, w_call, w_iconst, w_ifc, cI, Int.reduceToNat, w_ireturn, w_istore, w_fall, w_aload, w_iinc, lgB, Nat.reduceSub, w_goto, a60_0, a60_10, a60_49, a60_55, R32, List.getElem?_cons_zero, List.getElem?_cons_succ, List.set_cons_zero, List.set_cons_succ, List.cons_append, List.nil_append, List.replicate_succ, List.replicate_zero, List.take_succ_cons, List.take_zero, List.drop_succ_cons, List.drop_zero, List.reverse_cons, List.reverse_nil, List.length_cons, List.length_nil, Option.toList, true_and, and_true, eq_self, ↓reduceIte, not_true_eq_false, not_false_eq_true, true_or, or_true, hw] | with_reducible refine w_61 hw hR hA hV hs ⟨h0, h1⟩ (fun v1 x1 y1 u1 => ?_) | with_reducible refine And.intro ?_ ?_ | with_reducible intro _)
        all_goals (try (first | omega | contradiction | (exact isMinP_y h0 hm trivial (by omega)) | (exact isMinP_n hm (by omega)) | (exact hm) | (exact hf)))
      · intro a f z7 hm hf
        rw [a60_19]
        repeat' (first | omega | (exact hK _ (Or.inl ⟨hb, hm⟩)) | simp only [w_iload, w_call, w_iconst, w_ifc, cI, Int.reduceToNat, w_ireturn, w_istore, w_fall, w_aload, w_iinc, lgB, Nat.reduceSub, w_goto, a60_0, a60_10, a60_49, a60_55, R32, List.getElem?_cons_zero, List.getElem?_cons_succ, List.set_cons_zero, List.set_cons_succ, List.cons_append, List.nil_append, List.replicate_succ, List.replicate_zero, List.take_succ_cons, List.take_zero, List.drop_succ_cons, List.drop_zero, List.reverse_cons, List.reverse_nil, List.length_cons, List.length_nil, Option.toList, true_and, and_true, eq_self, ↓reduceIte, not_true_eq_false, not_false_eq_true, true_or, or_true, hw] | with_reducible refine w_61 hw hR hA hV hs ⟨h0, h1⟩ (fun v1 x1 y1 u1 => ?_) | with_reducible refine And.intro ?_ ?_ | with_reducible intro _)
        all_goals (try (first | omega | contradiction | omega))
    exact hL19 _ _ _ isMinP_0 (by omega)
  refine Runs.of (al := [vr 64, vr w, vi s]) (n := 4) ⟨64, _, _, rfl, xo_64⟩ rfl rfl trivial ?_
  repeat' (first | omega | with_reducible refine hL ?_ _ | with_reducible refine hK _ ?_ | simp only [w_iload, w_call, w_iconst, w_ifc, cI, Int.reduceToNat, w_ireturn, w_istore, w_fall, w_aload, w_iinc, lgB, Nat.reduceSub, w_goto, a60_0, a60_10, a60_49, a60_55, R32, List.getElem?_cons_zero, List.getElem?_cons_succ, List.set_cons_zero, List.set_cons_succ, List.cons_append, List.nil_append, List.replicate_succ, List.replicate_zero, List.take_succ_cons, List.take_zero, List.drop_succ_cons, List.drop_zero, List.reverse_cons, List.reverse_nil, List.length_cons, List.length_nil, Option.toList, true_and, and_true, eq_self, ↓reduceIte, not_true_eq_false, not_false_eq_true, true_or, or_true, hw] | with_reducible refine w_382 hs (fun v1 x1 => ?_) | with_reducible refine And.intro ?_ ?_ | with_reducible intro _)
  all_goals (try (first | omega | (exfalso; assumption) | (exact Or.inr ⟨by omega, rfl⟩)))
theorem k62_0 : pg.1 62 0 = [.bipush (-1), .istore 2, .bipush 0, .istore 3, .jsr 4] := rfl
theorem a62_0 {tb : Tab} {d : Nat} {K : Out → AM → Prop} {ls st : List AV} {m : AM} : At tb d 62 K 0 ls st m = wpB tb (pg.2.1 62) (Runs tb pg d) K (At tb d 62 K) [.bipush (-1), .istore 2, .bipush 0, .istore 3, .jsr 4] ls st m := At.eq k62_0
theorem k62_4 : pg.1 62 4 = [.iload 3, .bipush 64, .if_icmp .ge 54, .iload 2, .bipush (-1), .if_icmp .eq 26, .iload 3, .invokeinterface 382 1, .iload 2, .invokeinterface 382 1, .if_icmp .ge 30, .jsr 26] := rfl
theorem a62_4 {tb : Tab} {d : Nat} {K : Out → AM → Prop} {ls st : List AV} {m : AM} : At tb d 62 K 4 ls st m = wpB tb (pg.2.1 62) (Runs tb pg d) K (At tb d 62 K) [.iload 3, .bipush 64, .if_icmp .ge 54, .iload 2, .bipush (-1), .if_icmp .eq 26, .iload 3, .invokeinterface 382 1, .iload 2, .invokeinterface 382 1, .if_icmp .ge 30, .jsr 26] ls st m := At.eq k62_4
theorem k62_26 : pg.1 62 26 = [.bipush 1, .goto 31] := rfl
theorem a62_26 {tb : Tab} {d : Nat} {K : Out → AM → Prop} {ls st : List AV} {m : AM} : At tb d 62 K 26 ls st m = wpB tb (pg.2.1 62) (Runs tb pg d) K (At tb d 62 K) [.bipush 1, .goto 31] ls st m := At.eq k62_26
theorem k62_30 : pg.1 62 30 = [.bipush 0, .jsr 31] := rfl
theorem a62_30 {tb : Tab} {d : Nat} {K : Out → AM → Prop} {ls st : List AV} {m : AM} : At tb d 62 K 30 ls st m = wpB tb (pg.2.1 62) (Runs tb pg d) K (At tb d 62 K) [.bipush 0, .jsr 31] ls st m := At.eq k62_30
theorem k62_31 : pg.1 62 31 = [.istore 4, .iload 4, .ifCond .eq 48, .aload 1, .iload 3, .invokeinterface 63 2, .ifCond .eq 48, .iload 3, .istore 2, .jsr 48] := rfl
theorem a62_31 {tb : Tab} {d : Nat} {K : Out → AM → Prop} {ls st : List AV} {m : AM} : At tb d 62 K 31 ls st m = wpB tb (pg.2.1 62) (Runs tb pg d) K (At tb d 62 K) [.istore 4, .iload 4, .ifCond .eq 48, .aload 1, .iload 3, .invokeinterface 63 2, .ifCond .eq 48, .iload 3, .istore 2, .jsr 48] ls st m := At.eq k62_31
theorem k62_48 : pg.1 62 48 = [.iinc 3 1, .goto 4] := rfl
theorem a62_48 {tb : Tab} {d : Nat} {K : Out → AM → Prop} {ls st : List AV} {m : AM} : At tb d 62 K 48 ls st m = wpB tb (pg.2.1 62) (Runs tb pg d) K (At tb d 62 K) [.iinc 3 1, .goto 4] ls st m := At.eq k62_48
theorem k62_54 : pg.1 62 54 = [.iload 2, .ireturn] := rfl
theorem a62_54 {tb : Tab} {d : Nat} {K : Out → AM → Prop} {ls st : List AV} {m : AM} : At tb d 62 K 54 ls st m = wpB tb (pg.2.1 62) (Runs tb pg d) K (At tb d 62 K) [.iload 2, .ireturn] ls st m := At.eq k62_54
theorem w_62 (hw : isW w) (hR : RW S w r) (hA : AB r) (hV : GV r) (hK : ∀ v, isMinP (tellsM (pr r) (r 4)) (fun s => bitsM s 31) 64 v → K (.inl (some (vi v))) (X S m)) : Runs tb pg (d + 4) 62 [vr 64, vr w] (X S m) K := by
  have b3 := hA.2.1.1
  have b4 := hA.2.1.2.1
  have b5 := hA.2.1.2.2.1
  have e0 := hR.1.1
  have e4 := hR.1.2.1
  have hL4 : (fun i : Int => ∀ (a : Int) (z4 : AV), (isMinP (tellsM (pr r) (r 4)) (fun s => bitsM s 31) i a) → At tb (d + 3) 62 K 4 [vr 64, vr w, vi a, vi i, z4] [] (X S m)) 0 := by
    refine loopZ (fun i : Int => ∀ (a : Int) (z4 : AV), (isMinP (tellsM (pr r) (r 4)) (fun s => bitsM s 31) i a) → At tb (d + 3) 62 K 4 [vr 64, vr w, vi a, vi i, z4] [] (X S m)) (64) (by omega) ?_ ?_
    · intro i h0 h1 h9 a z4 hm
      have ag := isMinP_rg hm
      have b1 := bits_le i
      have b2 := bits_le a
      rw [a62_4]
      repeat' (first | omega | with_reducible refine h9 _ _ ?_ | simp only [w_iconst, w_istore, w_fall, Int.reduceToNat, w_iload, w_ifc, cI, w_call, w_goto, w_if, w_aload, w_iinc, lgB, Nat.reduceSub, w_ireturn, a62_0, a62_26, a62_30, a62_31, a62_48, a62_54, R32, List.getElem?_cons_zero, List.getElem?_cons_succ, List.set_cons_zero, List.set_cons_succ, List.cons_append, List.nil_append, List.replicate_succ, List.replicate_zero, List.take_succ_cons, List.take_zero, List.drop_succ_cons, List.drop_zero, List.reverse_cons, List.reverse_nil, List.length_cons, List.length_nil, Option.toList, true_and, and_true, eq_self, ↓reduceIte, not_true_eq_false, not_false_eq_true, true_or, or_true, hw] | with_reducible refine w_382 ⟨h0, h1⟩ (fun v1 x1 => ?_) | with_reducible refine w_382 (s := a) ⟨by omega, by omega⟩ (fun v2 x2 => ?_) | with_reducible refine w_63 hw hR hA hV ⟨h0, h1⟩ (fun v3 x3 => ?_) | with_reducible refine And.intro ?_ ?_ | with_reducible intro _)
      all_goals (try (first | omega | contradiction | (unfold yn at x3; rcases x3 with ⟨xa, xb⟩ | ⟨xa, xb⟩; all_goals first | omega | (exact isMinP_y h0 hm xb (by omega)) | (exact isMinP_n hm (Or.inl xb))) | (exact isMinP_n hm (Or.inr ⟨by omega, by omega⟩))))
    · intro a z4 hm
      rw [a62_4]
      repeat' (first | omega | (exact hK _ hm) | simp only [w_iconst, w_istore, w_fall, Int.reduceToNat, w_iload, w_ifc, cI, w_call, w_goto, w_if, w_aload, w_iinc, lgB, Nat.reduceSub, w_ireturn, a62_0, a62_26, a62_30, a62_31, a62_48, a62_54, R32, List.getElem?_cons_zero, List.getElem?_cons_succ, List.set_cons_zero, List.set_cons_succ, List.cons_append, List.nil_append, List.replicate_succ, List.replicate_zero, List.take_succ_cons, List.take_zero, List.drop_succ_cons, List.drop_zero, List.reverse_cons, List.reverse_nil, List.length_cons, List.length_nil, Option.toList, true_and, and_true, eq_self, ↓reduceIte, not_true_eq_false, not_false_eq_true, true_or, or_true, hw] | with_reducible refine w_382 ⟨h0, h1⟩ (fun v1 x1 => ?_) | with_reducible refine w_382 (s := a) ⟨by omega, by omega⟩ (fun v2 x2 => ?_) | with_reducible refine w_63 hw hR hA hV ⟨h0, h1⟩ (fun v3 x3 => ?_) | with_reducible refine And.intro ?_ ?_ | with_reducible intro _)
      all_goals (try (first | omega | contradiction | omega))
  refine Runs.of (al := [vr 64, vr w]) (n := 3) ⟨64, _, _, rfl, xo_64⟩ rfl rfl trivial ?_
  repeat' (first | omega | with_reducible refine hL4 _ _ ?_ | simp only [w_iconst, w_istore, w_fall, Int.reduceToNat, w_iload, w_ifc, cI, w_call, w_goto, w_if, w_aload, w_iinc, lgB, Nat.reduceSub, w_ireturn, a62_0, a62_26, a62_30, a62_31, a62_48, a62_54, R32, List.getElem?_cons_zero, List.getElem?_cons_succ, List.set_cons_zero, List.set_cons_succ, List.cons_append, List.nil_append, List.replicate_succ, List.replicate_zero, List.take_succ_cons, List.take_zero, List.drop_succ_cons, List.drop_zero, List.reverse_cons, List.reverse_nil, List.length_cons, List.length_nil, Option.toList, true_and, and_true, eq_self, ↓reduceIte, not_true_eq_false, not_false_eq_true, true_or, or_true, hw] | with_reducible refine And.intro ?_ ?_ | with_reducible intro _)
  all_goals (try (first | omega | (exfalso; assumption) | exact isMinP_0))
theorem k68_0 : pg.1 68 0 = [.aload 0, .getfield 805, .iload 1, .iaload, .aload 0, .getfield 805, .iload 2, .iaload, .if_icmp .ne 28, .aload 0, .iload 1, .iload 2, .invokeinterface 64 3, .invokeinterface 382 1, .bipush 1, .if_icmp .eq 30, .jsr 28] := rfl
theorem a68_0 {tb : Tab} {d : Nat} {K : Out → AM → Prop} {ls st : List AV} {m : AM} : At tb d 68 K 0 ls st m = wpB tb (pg.2.1 68) (Runs tb pg d) K (At tb d 68 K) [.aload 0, .getfield 805, .iload 1, .iaload, .aload 0, .getfield 805, .iload 2, .iaload, .if_icmp .ne 28, .aload 0, .iload 1, .iload 2, .invokeinterface 64 3, .invokeinterface 382 1, .bipush 1, .if_icmp .eq 30, .jsr 28] ls st m := At.eq k68_0
theorem k68_28 : pg.1 68 28 = [.bipush 0, .freturn] := rfl
theorem a68_28 {tb : Tab} {d : Nat} {K : Out → AM → Prop} {ls st : List AV} {m : AM} : At tb d 68 K 28 ls st m = wpB tb (pg.2.1 68) (Runs tb pg d) K (At tb d 68 K) [.bipush 0, .freturn] ls st m := At.eq k68_28
theorem k68_30 : pg.1 68 30 = [.bipush 0, .istore 3, .jsr 32] := rfl
theorem a68_30 {tb : Tab} {d : Nat} {K : Out → AM → Prop} {ls st : List AV} {m : AM} : At tb d 68 K 30 ls st m = wpB tb (pg.2.1 68) (Runs tb pg d) K (At tb d 68 K) [.bipush 0, .istore 3, .jsr 32] ls st m := At.eq k68_30
theorem k68_32 : pg.1 68 32 = [.iload 3, .aload 0, .getfield 805, .iload 1, .iaload, .if_icmp .ge 86, .aload 0, .iload 1, .iload 3, .invokeinterface 56 3, .istore 4, .aload 0, .iload 2, .iload 3, .invokeinterface 56 3, .istore 5, .iload 4, .invokeinterface 67 1, .iload 5, .if_icmp .eq 78, .iload 5, .invokeinterface 67 1, .iload 4, .if_icmp .ne 80, .jsr 78] := rfl
theorem a68_32 {tb : Tab} {d : Nat} {K : Out → AM → Prop} {ls st : List AV} {m : AM} : At tb d 68 K 32 ls st m = wpB tb (pg.2.1 68) (Runs tb pg d) K (At tb d 68 K) [.iload 3, .aload 0, .getfield 805, .iload 1, .iaload, .if_icmp .ge 86, .aload 0, .iload 1, .iload 3, .invokeinterface 56 3, .istore 4, .aload 0, .iload 2, .iload 3, .invokeinterface 56 3, .istore 5, .iload 4, .invokeinterface 67 1, .iload 5, .if_icmp .eq 78, .iload 5, .invokeinterface 67 1, .iload 4, .if_icmp .ne 80, .jsr 78] ls st m := At.eq k68_32
theorem k68_78 : pg.1 68 78 = [.bipush 1, .freturn] := rfl
theorem a68_78 {tb : Tab} {d : Nat} {K : Out → AM → Prop} {ls st : List AV} {m : AM} : At tb d 68 K 78 ls st m = wpB tb (pg.2.1 68) (Runs tb pg d) K (At tb d 68 K) [.bipush 1, .freturn] ls st m := At.eq k68_78
theorem k68_80 : pg.1 68 80 = [.iinc 3 1, .goto 32] := rfl
theorem a68_80 {tb : Tab} {d : Nat} {K : Out → AM → Prop} {ls st : List AV} {m : AM} : At tb d 68 K 80 ls st m = wpB tb (pg.2.1 68) (Runs tb pg d) K (At tb d 68 K) [.iinc 3 1, .goto 32] ls st m := At.eq k68_80
theorem k68_86 : pg.1 68 86 = [.bipush 0, .freturn] := rfl
theorem a68_86 {tb : Tab} {d : Nat} {K : Out → AM → Prop} {ls st : List AV} {m : AM} : At tb d 68 K 86 ls st m = wpB tb (pg.2.1 68) (Runs tb pg d) K (At tb d 68 K) [.bipush 0, .freturn] ls st m := At.eq k68_86
theorem w_68 {p q : Int} (hw : isW w) (hR : RW S w r) (hA : AB r) (hV : GV r) (hp : 0 ≤ p ∧ p < r 4) (hq : 0 ≤ q ∧ q < r 4) (hK : ∀ v, yn v (mixM (pr r) p q) → K (.inl (some (vi v))) (X S m)) : Runs tb pg (d + 3) 68 [vr w, vi p, vi q] (X S m) K := by
  have b3 := hA.2.1.1
  have b4 := hA.2.1.2.1
  have b5 := hA.2.1.2.2.1
  have e0 := hR.1.1
  have e4 := hR.1.2.1
  have q1 := (hR.2.2.1 p hp.1 hp.2).1
  have q2 := (hR.2.2.1 q hq.1 hq.2).1
  have zp := AB_pp hA hp.1 hp.2
  have zq := AB_pp hA hq.1 hq.2
  have mi := mix_is hA hV hp hq
  have ur := unS_rg (P := pr r) (p := p) (q := q)
  have bl := bits_le (unS (pr r) p q)
  have hL : pr r p 0 = pr r q 0 → difM (pr r) p q (pr r p 0) = 1 → ∀ z1 z2, At tb (d + 2) 68 K 32 [vr w, vi p, vi q, vi 0, z1, z2] [] (X S m) := by
    intro he hd z1 z2
    have hL32 : (fun i : Int => ∀ (z1 : AV) (z2 : AV), (noB (fun k => nxM (pr r p (2 + k)) (pr r q (2 + k))) i) → At tb (d + 2) 68 K 32 [vr w, vi p, vi q, vi i, z1, z2] [] (X S m)) 0 := by
      refine loopZ (fun i : Int => ∀ (z1 : AV) (z2 : AV), (noB (fun k => nxM (pr r p (2 + k)) (pr r q (2 + k))) i) → At tb (d + 2) 68 K 32 [vr w, vi p, vi q, vi i, z1, z2] [] (X S m)) (pr r p 0) (by omega) ?_ ?_
      · intro i h0 h1 h9 z1 z2 hno
        rw [a68_32]
        repeat' (first | omega | with_reducible refine h9 _ _ ?_ | with_reducible refine hK _ ?_ | simp only [w_aload, x_g805_w0, w_iload, x_iald, w_ialoads, w_ialoadw, w_ifc, cI, Int.reduceToNat, w_call, w_iconst, w_fall, w_zreturn, w_istore, w_iinc, lgB, Nat.reduceSub, w_goto, isA_w1, isA_w2, isA_w3, isA_w4, isA_w5, isA_w6, isA_w7, isA_w8, isA_w10, isA_w11, isA_w12, isA_w14, isA_w15, isA_w16, len_w1, len_w2, len_w3, len_w4, len_w5, len_w6, len_w7, len_w8, len_w10, len_w11, len_w12, len_w14, len_w15, len_w16, isA_1, len_1, Int.cast_ofNat_Int, a68_0, a68_28, a68_30, a68_78, a68_80, a68_86, R32, List.getElem?_cons_zero, List.getElem?_cons_succ, List.set_cons_zero, List.set_cons_succ, List.cons_append, List.nil_append, List.replicate_succ, List.replicate_zero, List.take_succ_cons, List.take_zero, List.drop_succ_cons, List.drop_zero, List.reverse_cons, List.reverse_nil, List.length_cons, List.length_nil, Option.toList, true_and, and_true, eq_self, ↓reduceIte, not_true_eq_false, not_false_eq_true, true_or, or_true, hw] | with_reducible refine w_56 hw hR hA hV hp ⟨h0, ?_⟩ (fun v1 x1 y1 u1 => ?_) | with_reducible refine w_56 hw hR hA hV hq ⟨h0, ?_⟩ (fun v2 x2 y2 u2 => ?_) | with_reducible refine w_67b (x := v1) ⟨by omega, by omega⟩ (fun v3 x3 => ?_) | with_reducible refine w_67b (x := v2) ⟨by omega, by omega⟩ (fun v4 x4 => ?_) | with_reducible refine And.intro ?_ ?_ | with_reducible intro _)
        all_goals (try (first | omega | contradiction | (exact Or.inl ⟨rfl, mix_yes he hd h0 h1 (by unfold nxM; omega)⟩) | (intro k k0 k1; by_cases y : k = i; (subst y; unfold nxM; omega); exact hno k k0 (by omega))))
      · intro z1 z2 hno
        rw [a68_32]
        repeat' (first | omega | with_reducible refine hK _ ?_ | simp only [w_aload, x_g805_w0, w_iload, x_iald, w_ialoads, w_ialoadw, w_ifc, cI, Int.reduceToNat, w_call, w_iconst, w_fall, w_zreturn, w_istore, w_iinc, lgB, Nat.reduceSub, w_goto, isA_w1, isA_w2, isA_w3, isA_w4, isA_w5, isA_w6, isA_w7, isA_w8, isA_w10, isA_w11, isA_w12, isA_w14, isA_w15, isA_w16, len_w1, len_w2, len_w3, len_w4, len_w5, len_w6, len_w7, len_w8, len_w10, len_w11, len_w12, len_w14, len_w15, len_w16, isA_1, len_1, Int.cast_ofNat_Int, a68_0, a68_28, a68_30, a68_78, a68_80, a68_86, R32, List.getElem?_cons_zero, List.getElem?_cons_succ, List.set_cons_zero, List.set_cons_succ, List.cons_append, List.nil_append, List.replicate_succ, List.replicate_zero, List.take_succ_cons, List.take_zero, List.drop_succ_cons, List.drop_zero, List.reverse_cons, List.reverse_nil, List.length_cons, List.length_nil, Option.toList, true_and, and_true, eq_self, ↓reduceIte, not_true_eq_false, not_false_eq_true, true_or, or_true, hw] | with_reducible refine w_56 hw hR hA hV hp ⟨h0, ?_⟩ (fun v1 x1 y1 u1 => ?_) | with_reducible refine w_56 hw hR hA hV hq ⟨h0, ?_⟩ (fun v2 x2 y2 u2 => ?_) | with_reducible refine w_67b (x := v1) ⟨by omega, by omega⟩ (fun v3 x3 => ?_) | with_reducible refine w_67b (x := v2) ⟨by omega, by omega⟩ (fun v4 x4 => ?_) | with_reducible refine And.intro ?_ ?_ | with_reducible intro _)
        all_goals (try (first | omega | contradiction | (exact Or.inr ⟨rfl, mix_no (by omega) hno⟩)))
    exact hL32 _ _ (fun k k0 k1 => by omega)
  refine Runs.of (al := [vr w, vi p, vi q]) (n := 3) trivial rfl rfl trivial ?_
  repeat' (first | omega | with_reducible refine hL ?_ ?_ _ _ | with_reducible refine hK _ ?_ | simp only [w_aload, x_g805_w0, w_iload, x_iald, w_ialoads, w_ialoadw, w_ifc, cI, Int.reduceToNat, w_call, w_iconst, w_fall, w_zreturn, w_istore, w_iinc, lgB, Nat.reduceSub, w_goto, isA_w1, isA_w2, isA_w3, isA_w4, isA_w5, isA_w6, isA_w7, isA_w8, isA_w10, isA_w11, isA_w12, isA_w14, isA_w15, isA_w16, len_w1, len_w2, len_w3, len_w4, len_w5, len_w6, len_w7, len_w8, len_w10, len_w11, len_w12, len_w14, len_w15, len_w16, isA_1, len_1, Int.cast_ofNat_Int, a68_0, a68_28, a68_30, a68_78, a68_80, a68_86, R32, List.getElem?_cons_zero, List.getElem?_cons_succ, List.set_cons_zero, List.set_cons_succ, List.cons_append, List.nil_append, List.replicate_succ, List.replicate_zero, List.take_succ_cons, List.take_zero, List.drop_succ_cons, List.drop_zero, List.reverse_cons, List.reverse_nil, List.length_cons, List.length_nil, Option.toList, true_and, and_true, eq_self, ↓reduceIte, not_true_eq_false, not_false_eq_true, true_or, or_true, hw] | with_reducible refine w_64 hw hR hA hV hp hq (fun v1 x1 => ?_) | (subst x1; (with_reducible refine w_382 ur (fun v2 x2 => ?_))) | with_reducible refine And.intro ?_ ?_ | with_reducible intro _)
  all_goals (try (first | omega | (exfalso; assumption) | (exact Or.inr ⟨rfl, fun y => by have := y.1; omega⟩) | (have e2 := mi (by omega); first | omega | (exact Or.inr ⟨rfl, fun y => by have := y.2.1; omega⟩))))
end Names5
