/-! ===== THE REFERENCE: a text ===== -/
/-- on from i, as long as c holds -/
noncomputable def scN (c : Int → Prop) (n : Int) : Nat → Int → Int
  | 0, i => i
  | k + 1, i => @ite _ (i < n ∧ c i) (Classical.propDecidable _) (scN c n k (i + 1)) i
noncomputable def scn (c : Int → Prop) (n i : Int) : Int := scN c n (n - i).toNat i
theorem scn_n {c : Int → Prop} {n i : Int} (h : ¬ (i < n ∧ c i)) : scn c n i = i := by
  unfold scn
  cases e : (n - i).toNat with
  | zero => rfl
  | succ k => show @ite _ (i < n ∧ c i) (Classical.propDecidable _) (scN c n k (i + 1)) i = i; rw [if_neg h]
theorem scn_y {c : Int → Prop} {n i : Int} (h : i < n) (hc : c i) : scn c n i = scn c n (i + 1) := by
  unfold scn
  rw [show (n - i).toNat = (n - (i + 1)).toNat + 1 by omega]
  show @ite _ (i < n ∧ c i) (Classical.propDecidable _) (scN c n (n - (i + 1)).toNat (i + 1)) i = _
  rw [if_pos ⟨h, hc⟩]
theorem scN_rg {c : Int → Prop} {n : Int} : ∀ (k : Nat) (i : Int), n - i ≤ k → i ≤ scN c n k i ∧ (scN c n k i ≤ n ∨ scN c n k i = i) ∧ (∀ j, i ≤ j → j < scN c n k i → j < n ∧ c j) ∧ (scN c n k i < n → ¬ c (scN c n k i))
  | 0, i, h => ⟨Int.le_refl _, Or.inr rfl, fun j h0 h1 => by have : j < i := h1; omega, fun h1 => by have : i < n := h1; omega⟩
  | k + 1, i, h => by
    by_cases q : i < n ∧ c i
    · have e : scN c n (k + 1) i = scN c n k (i + 1) := if_pos q
      rw [e]
      obtain ⟨h1, h2, h3, h4⟩ := scN_rg (c := c) (n := n) k (i + 1) (by omega)
      refine ⟨by omega, by omega, fun j j0 j1 => ?_, h4⟩
      by_cases z : j = i
      · subst z; exact q
      · exact h3 j (by omega) j1
    · have e : scN c n (k + 1) i = i := if_neg q
      rw [e]
      exact ⟨Int.le_refl _, Or.inr rfl, fun j h0 h1 => by omega, fun h1 h2 => q ⟨h1, h2⟩⟩
theorem scn_rg {c : Int → Prop} {n i : Int} : i ≤ scn c n i ∧ (scn c n i ≤ n ∨ scn c n i = i) ∧ (∀ j, i ≤ j → j < scn c n i → j < n ∧ c j) ∧ (scn c n i < n → ¬ c (scn c n i)) := scN_rg _ _ (by omega)
theorem scn_uq {c e : Int → Prop} {n i r : Int} (h0 : i ≤ r) (h1 : r ≤ n ∨ r = i) (h2 : ∀ j, i ≤ j → j < r → c j) (h3 : r < n → ¬ c r) (hc : ∀ j, i ≤ j → j ≤ r → j < n → (e j ↔ c j)) : scn e n i = r := by
  obtain ⟨g0, g1, g2, g3⟩ := scn_rg (c := e) (n := n) (i := i)
  rcases Int.lt_trichotomy (scn e n i) r with z | z | z
  · have q := h2 _ g0 z
    exact absurd ((hc _ g0 (by omega) (by omega)).mpr q) (g3 (by omega))
  · exact z
  · have q := g2 r h0 z
    exact absurd ((hc r h0 (Int.le_refl _) q.1).mp q.2) (h3 q.1)
/-- behind blanks -/
noncomputable def skp (t : Int → Int) (n i : Int) : Int := scn (fun j => t j = 32) n i
/-- behind a word -/
noncomputable def ltE (t : Int → Int) (n i : Int) : Int := scn (fun j => 97 ≤ t j ∧ t j ≤ 122) n i
/-- behind figures, at most 4 -/
noncomputable def fgE (t : Int → Int) (n b : Int) : Int := scn (fun j => (48 ≤ t j ∧ t j ≤ 57) ∧ j - b ≤ 3) n b
def vlN (t : Int → Int) (b : Int) : Nat → Int
  | 0 => 0
  | k + 1 => 10 * vlN t b k + t (b + k) - 48
def vlZ (t : Int → Int) (b i : Int) : Int := vlN t b i.toNat
theorem vlZ_0 {t : Int → Int} {b : Int} : vlZ t b 0 = 0 := rfl
theorem vlZ_s {t : Int → Int} {b i : Int} (h : 0 ≤ i) : vlZ t b (i + 1) = 10 * vlZ t b i + t (b + i) - 48 := by
  unfold vlZ
  rw [show (i + 1).toNat = i.toNat + 1 by omega]
  show 10 * vlN t b i.toNat + t (b + (i.toNat : Int)) - 48 = _
  rw [Int.toNat_of_nonneg h]
theorem vlN_rg {t : Int → Int} {b : Int} : ∀ k : Nat, k ≤ 4 → (∀ j : Int, b ≤ j → j < b + k → 48 ≤ t j ∧ t j ≤ 57) → 0 ≤ vlN t b k ∧ vlN t b k < 10 ^ k
  | 0, _, _ => by show 0 ≤ (0 : Int) ∧ (0 : Int) < 10 ^ 0; omega
  | k + 1, hk, h => by
    have i := vlN_rg k (by omega) (fun j h0 h1 => h j h0 (by omega))
    have g := h (b + k) (by omega) (by omega)
    show 0 ≤ 10 * vlN t b k + t (b + k) - 48 ∧ 10 * vlN t b k + t (b + k) - 48 < 10 ^ (k + 1)
    have e : (10 : Int) ^ (k + 1) = 10 ^ k * 10 := Int.pow_succ ..
    rw [e]
    omega
theorem vlZ_rg {t : Int → Int} {b i : Int} (h0 : 0 ≤ i) (h4 : i ≤ 4) (h : ∀ j : Int, b ≤ j → j < b + i → 48 ≤ t j ∧ t j ≤ 57) : 0 ≤ vlZ t b i ∧ vlZ t b i ≤ 9999 := by
  have q := vlN_rg (t := t) (b := b) i.toNat (by omega) (fun j j0 j1 => h j j0 (by omega))
  unfold vlZ
  refine ⟨q.1, ?_⟩
  have e : (10 : Int) ^ i.toNat ≤ 10000 := by
    have : i.toNat = 0 ∨ i.toNat = 1 ∨ i.toNat = 2 ∨ i.toNat = 3 ∨ i.toNat = 4 := by omega
    rcases this with z | z | z | z | z <;> rw [z] <;> decide
  omega
/-- a word stands there -/
def wdP (t : Int → Int) (n b : Int) (w : List Int) : Prop := ltE t n b - b = w.length ∧ ∀ j, 0 ≤ j → j < (w.length : Int) → t (b + j) = w.getD j.toNat 0
/-- a number from lo to hi stands there -/
def okF (t : Int → Int) (n lo hi b : Int) : Prop := (b < fgE t n b ∧ fgE t n b - b ≤ 3) ∧ lo ≤ vlZ t b (fgE t n b - b) ∧ vlZ t b (fgE t n b - b) ≤ hi
abbrev PR (α : Type) : Type := Int ⊕ (α × Int)
def bnd {α β : Type} (p : PR α) (g : α → Int → PR β) : PR β := match p with
  | .inl f => .inl f
  | .inr (v, a) => g v a
noncomputable def numP (t : Int → Int) (n lo hi a : Int) : PR Int := @ite _ (okF t n lo hi (skp t n a)) (Classical.propDecidable _) (.inr (vlZ t (skp t n a) (fgE t n (skp t n a) - skp t n a), fgE t n (skp t n a))) (.inl (skp t n a))
noncomputable def aftP (t : Int → Int) (n : Int) (w : List Int) (lo hi a : Int) : PR Int := @ite _ (wdP t n (skp t n a) w) (Classical.propDecidable _) (numP t n lo hi (skp t n a + w.length)) (.inl (skp t n a))
theorem skp_ge {t : Int → Int} {n a : Int} : a ≤ skp t n a := scn_rg.1
theorem skp_le {t : Int → Int} {n a : Int} (h : a ≤ n) : skp t n a ≤ n := by
  rcases (scn_rg (c := fun j => t j = 32) (n := n) (i := a)).2.1 with z | z
  · exact z
  · show scn _ n a ≤ n; omega
theorem skp_skp {t : Int → Int} {n a : Int} : skp t n (skp t n a) = skp t n a := by
  refine scn_n fun z => ?_
  exact (scn_rg (c := fun j => t j = 32) (n := n) (i := a)).2.2.2 z.1 z.2
theorem ltE_rg {t : Int → Int} {n a : Int} : a ≤ ltE t n a ∧ (ltE t n a ≤ n ∨ ltE t n a = a) := ⟨scn_rg.1, scn_rg.2.1⟩
theorem fgE_rg {t : Int → Int} {n a : Int} : a ≤ fgE t n a ∧ (fgE t n a ≤ n ∨ fgE t n a = a) ∧ fgE t n a ≤ a + 4 := by
  refine ⟨scn_rg.1, scn_rg.2.1, ?_⟩
  have q := (scn_rg (c := fun j => (48 ≤ t j ∧ t j ≤ 57) ∧ j - a ≤ 3) (n := n) (i := a)).2.2.1
  show scn _ n a ≤ a + 4
  by_cases z : scn (fun j => (48 ≤ t j ∧ t j ≤ 57) ∧ j - a ≤ 3) n a ≤ a + 4
  · exact z
  · have := (q (a + 4) (by omega) (by omega)).2.2
    omega
theorem numP_y {t : Int → Int} {n lo hi a v e : Int} (h : numP t n lo hi a = .inr (v, e)) : okF t n lo hi (skp t n a) ∧ v = vlZ t (skp t n a) (fgE t n (skp t n a) - skp t n a) ∧ e = fgE t n (skp t n a) := by
  unfold numP at h
  by_cases z : okF t n lo hi (skp t n a)
  · rw [if_pos z] at h
    have q := Sum.inr.inj h
    exact ⟨z, (congrArg Prod.fst q).symm, (congrArg Prod.snd q).symm⟩
  · rw [if_neg z] at h; cases h
theorem numP_n {t : Int → Int} {n lo hi a b : Int} (h : numP t n lo hi a = .inl b) : ¬ okF t n lo hi (skp t n a) ∧ b = skp t n a := by
  unfold numP at h
  by_cases z : okF t n lo hi (skp t n a)
  · rw [if_pos z] at h; cases h
  · rw [if_neg z] at h; exact ⟨z, (Sum.inl.inj h).symm⟩
theorem numP_1 {t : Int → Int} {n lo hi a : Int} (z : okF t n lo hi (skp t n a)) : numP t n lo hi a = .inr (vlZ t (skp t n a) (fgE t n (skp t n a) - skp t n a), fgE t n (skp t n a)) := if_pos z
theorem numP_0 {t : Int → Int} {n lo hi a : Int} (z : ¬ okF t n lo hi (skp t n a)) : numP t n lo hi a = .inl (skp t n a) := if_neg z
theorem numP_rg {t : Int → Int} {n lo hi a v e : Int} (h : numP t n lo hi a = .inr (v, e)) : (lo ≤ v ∧ v ≤ hi) ∧ a < e ∧ e ≤ n := by
  obtain ⟨h1, h2, h3⟩ := numP_y h
  have f := fgE_rg (t := t) (n := n) (a := skp t n a)
  have g := skp_ge (t := t) (n := n) (a := a)
  have h4 := h1.1
  have h5 := h1.2
  rw [← h2] at h5
  rw [← h3] at f h4
  refine ⟨h5, by omega, ?_⟩
  rcases f.2.1 with z | z <;> omega
theorem skp_b {t : Int → Int} {n a : Int} (h : a ≤ 1000) (hn : n ≤ 400) : skp t n a ≤ 1000 := by
  rcases (scn_rg (c := fun j => t j = 32) (n := n) (i := a)).2.1 with z | z
  · show scn _ n a ≤ _; omega
  · show scn _ n a ≤ _; omega
theorem aftP_1 {t : Int → Int} {n lo hi a : Int} {w : List Int} (h : wdP t n (skp t n a) w) : aftP t n w lo hi a = numP t n lo hi (skp t n a + w.length) := if_pos h
theorem aftP_0 {t : Int → Int} {n lo hi a : Int} {w : List Int} (h : ¬ wdP t n (skp t n a) w) : aftP t n w lo hi a = .inl (skp t n a) := if_neg h
/-- while a text is read: where, and what is wrong -/
def tS (S : Nat → Int → Int) (a f : Int) : Nat → Int → Int := fun b => if b = 300 then (fun j => if j = 11 then a else if j = 12 then f else S 300 j) else S b
section tS
variable {S : Nat → Int → Int} {a f x y : Int} {t : Int → Int} {n : Int}
theorem tS_11 : tS S a f 300 11 = a := rfl
theorem tS_12 : tS S a f 300 12 = f := rfl
theorem tS_8 : tS S a f 300 8 = S 300 8 := rfl
theorem tS_9 : tS S a f 300 9 = S 300 9 := rfl
theorem tS_10 : tS S a f 300 10 = S 300 10 := rfl
theorem tS_13 : tS S a f 300 13 = S 300 13 := rfl
theorem tS_15 : tS S a f 300 15 = S 300 15 := rfl
theorem tS_16 : tS S a f 300 16 = S 300 16 := rfl
theorem tS_17 : tS S a f 300 17 = S 300 17 := rfl
theorem tS_18 : tS S a f 300 18 = S 300 18 := rfl
theorem tS_19 : tS S a f 300 19 = S 300 19 := rfl
theorem tS_301 : tS S a f 301 = S 301 := rfl
theorem tS_303 : tS S a f 303 = S 303 := rfl
theorem tS_305 : tS S a f 305 = S 305 := rfl
theorem tS_306 : tS S a f 306 = S 306 := rfl
theorem tS_at {b : Nat} {j : Int} : tS S a f b j = if b = 300 then (if j = 11 then a else if j = 12 then f else S 300 j) else S b j := by
  unfold tS
  by_cases h : b = 300
  · rw [if_pos h, if_pos h]
  · rw [if_neg h, if_neg h]
theorem tS_tS : tS (tS S a f) x y = tS S x y := by
  funext b j
  simp only [tS_at]
  grind
theorem tS_id : tS S (S 300 11) (S 300 12) = S := by
  funext b j
  simp only [tS_at]
  grind
theorem tS_u11 : upS (tS S a f) 300 11 x = tS S x f := by
  funext b j
  simp only [tS_at, upS_at]
  grind
theorem tS_u12 : upS (tS S a f) 300 12 x = tS S a x := by
  funext b j
  simp only [tS_at, upS_at]
  grind
theorem tS_uo {i v : Int} (h1 : i ≠ 11) (h2 : i ≠ 12) : upS (tS S a f) 300 i v = tS (upS S 300 i v) a f := by
  funext b j
  simp only [tS_at, upS_at]
  grind
/-- a text t of length n is read -/
def TX (t : Int → Int) (n : Int) (S : Nat → Int → Int) : Prop := S 300 10 = n ∧ (0 ≤ n ∧ n ≤ 400) ∧ (∀ k, 0 ≤ k → k < n → -1 ≤ t k ∧ t k ≤ 10000) ∧ ((S 300 9 = -1 ∧ ∀ k, 0 ≤ k → k < n → t k = S 305 k) ∨ (S 300 9 = 415 ∧ ∀ k, 0 ≤ k → k < n → t k = S 301 (415 + k)))
theorem TX_t (h : TX t n S) : TX t n (tS S a f) := h
end tS
theorem strB_rg : ∀ k, ∀ x ∈ strB k, 0 ≤ x ∧ x < 128 := by
  intro k
  unfold strB
  split <;> decide
theorem and_255 : ∀ a : Fin 128, andI (a : Nat) 255 = (a : Nat) := by decide +kernel
theorem and_255i {x : Int} (h : 0 ≤ x ∧ x < 128) : andI x 255 = x := by
  have := and_255 ⟨x.toNat, by omega⟩
  simpa [Int.toNat_of_nonneg h.1] using this
theorem strB_at {k : Nat} {i : Int} (h0 : 0 ≤ i) (h1 : i < (strB k).length) : 0 ≤ (strB k).getD i.toNat 0 ∧ (strB k).getD i.toNat 0 < 128 := by
  have h : i.toNat < (strB k).length := by omega
  rw [List.getD_eq_getElem?_getD, List.getElem?_eq_getElem h]
  exact strB_rg k _ (List.getElem_mem h)
def eqW (t : Int → Int) (b : Int) (w : List Int) (i : Int) : Prop := ∀ j, 0 ≤ j → j < i → t (b + j) = w.getD j.toNat 0
theorem eqW_0 {t : Int → Int} {b : Int} {w : List Int} : eqW t b w 0 := fun j h0 h1 => by omega
theorem eqW_s {t : Int → Int} {b i : Int} {w : List Int} (h : eqW t b w i) (g : t (b + i) = w.getD i.toNat 0) : eqW t b w (i + 1) := fun j h0 h1 => by
  by_cases z : j = i
  · subst z; exact g
  · exact h j h0 (by omega)
theorem r_386k {tb : Tab} {d : Nat} {m : AM} {K : Out → AM → Prop} {k : Nat} (hX : tb.2.1 = strB) (hk : k < 39) (hK : ∀ r, r = ((strB k).length : Int) → K (.inl (some (vi r))) m) : Runs tb pg (d + 2) 386 [vx (2 * k + 2)] m K := by
  have e : tb.2.1 (2 * k / 2) = strB k := by rw [hX, show 2 * k / 2 = k by omega]
  have h := sm_strlen k
  exact r_386 (by omega) (show 2 * k / 2 < 39 by omega) (by rw [e]; omega) (by rw [e]; exact hK _ rfl)
theorem r_387k {tb : Tab} {d : Nat} {m : AM} {K : Out → AM → Prop} {k : Nat} {i : Int} (hX : tb.2.1 = strB) (hk : k < 39) (h0 : 0 ≤ i) (h1 : i < (strB k).length) (hK : ∀ r, r = (strB k).getD i.toNat 0 → 0 ≤ r → r < 128 → K (.inl (some (vi r))) m) : Runs tb pg (d + 4) 387 [vx (2 * k + 2), vi i] m K := by
  have e : tb.2.1 (2 * k / 2) = strB k := by rw [hX, show 2 * k / 2 = k by omega]
  have h := sm_strlen k
  have g := strB_at h0 h1
  exact r_387 (by omega) (show 2 * k / 2 < 39 by omega) h0 (by rw [e]; exact h1) (by rw [e]; omega) (by rw [e]; exact and_255i g) (by rw [e]; omega) (by rw [e]; exact hK _ rfl g.1 g.2)
section Ref38
variable {tb : Tab} {d : Nat} {m : AM} {K : Out → AM → Prop} {S : Nat → Int → Int} {a f : Int} {t : Int → Int} {n : Int}
theorem k220_0 : pg.1 220 0 = [.aload 0, .getfield 1009, .bipush (-1), .if_icmp .ne 17, .aload 0, .getfield 1007, .iload 1, .iaload, .goto 28] := rfl
theorem a220_0 {tb : Tab} {d : Nat} {K : Out → AM → Prop} {ls st : List AV} {m : AM} : At tb d 220 K 0 ls st m = wpB tb (pg.2.1 220) (Runs tb pg d) K (At tb d 220 K) [.aload 0, .getfield 1009, .bipush (-1), .if_icmp .ne 17, .aload 0, .getfield 1007, .iload 1, .iaload, .goto 28] ls st m := At.eq k220_0
theorem k220_17 : pg.1 220 17 = [.aload 0, .getfield 1001, .aload 0, .getfield 1009, .iload 1, .iadd, .iaload, .jsr 28] := rfl
theorem a220_17 {tb : Tab} {d : Nat} {K : Out → AM → Prop} {ls st : List AV} {m : AM} : At tb d 220 K 17 ls st m = wpB tb (pg.2.1 220) (Runs tb pg d) K (At tb d 220 K) [.aload 0, .getfield 1001, .aload 0, .getfield 1009, .iload 1, .iadd, .iaload, .jsr 28] ls st m := At.eq k220_17
theorem k220_28 : pg.1 220 28 = [.ireturn] := rfl
theorem a220_28 {tb : Tab} {d : Nat} {K : Out → AM → Prop} {ls st : List AV} {m : AM} : At tb d 220 K 28 ls st m = wpB tb (pg.2.1 220) (Runs tb pg d) K (At tb d 220 K) [.ireturn] ls st m := At.eq k220_28
theorem q_220 {k : Int} (hT : TX t n S) (hk : 0 ≤ k ∧ k < n) (hK : K (.inl (some (vi (t k)))) (X (tS S a f) m)) : Runs tb pg (d + 1) 220 [vr 300, vi k] (X (tS S a f) m) K := by
  refine Runs.of (al := [vr 300, vi k]) (n := 0) ⟨300, _, _, rfl, xo_300⟩ rfl rfl trivial ?_
  have hn := hT.1
  have hn2 := hT.2.1
  have ht := hT.2.2.1
  have hb := hT.2.2.2
  rcases hb with ⟨hb8, hb9⟩ | ⟨hc8, hc9⟩
  all_goals
   repeat' (first | exact (show K (.inl (some (vi (S 305 k)))) _ from (by rw [← hb9 k hk.1 hk.2]; exact hK)) | exact (show K (.inl (some (vi (S 301 (S 300 9 + k))))) _ from (by rw [hc8, ← hc9 k hk.1 hk.2]; exact hK)) | simp only [w_aload, x_g1009_300, w_iconst, w_ifc, cI, Int.reduceToNat, x_g1007_300, w_iload, x_iald, w_ialoads, w_ialoadw, w_goto, x_g1001_300, w_iadd, w_fall, w_ireturn, isA_301, isA_302, isA_303, isA_304, isA_305, isA_307, isA_308, isA_309, isA_310, isA_311, isA_312, isA_313, isA_314, isA_315, len_301, len_302, len_303, len_304, len_305, len_307, len_308, len_309, len_310, len_311, len_312, len_313, len_314, len_315, Int.cast_ofNat_Int, a220_0, a220_17, a220_28, R32, List.getElem?_cons_zero, List.getElem?_cons_succ, List.set_cons_zero, List.set_cons_succ, List.cons_append, List.nil_append, List.replicate_succ, List.replicate_zero, List.take_succ_cons, List.take_zero, List.drop_succ_cons, List.drop_zero, List.reverse_cons, List.reverse_nil, List.length_cons, List.length_nil, Option.toList, true_and, and_true, eq_self, ↓reduceIte, not_true_eq_false, not_false_eq_true, true_or, or_true, tS_11, tS_12, tS_8, tS_9, tS_10, tS_13, tS_15, tS_16, tS_17, tS_18, tS_19, tS_301, tS_303, tS_305, tS_306, tS_u11, tS_u12, tS_tS] | with_reducible refine And.intro ?_ ?_ | with_reducible intro _)
   all_goals (try (first | omega | contradiction | ((try clear hK); (try clear hK0); (try clear hB); (try clear h9); (try clear h8); (try clear h7); first | done | omega | grind)))
theorem k221_0 : pg.1 221 0 = [.aload 0, .getfield 1011, .aload 0, .getfield 1010, .if_icmp .ge 37, .aload 0, .aload 0, .getfield 1011, .invokeinterface 220 2, .bipush 32, .if_icmp .ne 37, .aload 0, .dup, .getfield 1011, .bipush 1, .iadd, .putfield 1011, .goto 0] := rfl
theorem a221_0 {tb : Tab} {d : Nat} {K : Out → AM → Prop} {ls st : List AV} {m : AM} : At tb d 221 K 0 ls st m = wpB tb (pg.2.1 221) (Runs tb pg d) K (At tb d 221 K) [.aload 0, .getfield 1011, .aload 0, .getfield 1010, .if_icmp .ge 37, .aload 0, .aload 0, .getfield 1011, .invokeinterface 220 2, .bipush 32, .if_icmp .ne 37, .aload 0, .dup, .getfield 1011, .bipush 1, .iadd, .putfield 1011, .goto 0] ls st m := At.eq k221_0
theorem k221_37 : pg.1 221 37 = [.return_] := rfl
theorem a221_37 {tb : Tab} {d : Nat} {K : Out → AM → Prop} {ls st : List AV} {m : AM} : At tb d 221 K 37 ls st m = wpB tb (pg.2.1 221) (Runs tb pg d) K (At tb d 221 K) [.return_] ls st m := At.eq k221_37
theorem q_221 (hT : TX t n S) (ha : 0 ≤ a ∧ a ≤ 1000) (hK : ∀ b, b = skp t n a → K (.inl none) (X (tS S b f) m)) : Runs tb pg (d + 2) 221 [vr 300] (X (tS S a f) m) K := by
  have hn := hT.1
  have hn2 := hT.2.1
  have ht := hT.2.2.1
  have hL0 : (fun i : Int => ∀ (c : Int), c = a + i → (skp t n c = skp t n a) → At tb (d + 1) 221 K 0 [vr 300] [] (X (tS S c f) m)) 0 := by
    refine loopZ (fun i : Int => ∀ (c : Int), c = a + i → (skp t n c = skp t n a) → At tb (d + 1) 221 K 0 [vr 300] [] (X (tS S c f) m)) (((n - a).toNat : Int)) (by omega) ?_ ?_
    · intro i h0 h1 h9 c hc hq
      have hr := ht c
      rw [a221_0]
      repeat' (first | refine h9 _ ?_ ?_ | refine hK _ ?_ | simp only [w_aload, x_g1011_300, x_g1010_300, w_ifc, cI, Int.reduceToNat, w_call, w_iconst, w_dupi, w_dupr, w_iadd, x_p1011_300, w_goto, w_return, a221_37, R32, List.getElem?_cons_zero, List.getElem?_cons_succ, List.set_cons_zero, List.set_cons_succ, List.cons_append, List.nil_append, List.replicate_succ, List.replicate_zero, List.take_succ_cons, List.take_zero, List.drop_succ_cons, List.drop_zero, List.reverse_cons, List.reverse_nil, List.length_cons, List.length_nil, Option.toList, true_and, and_true, eq_self, ↓reduceIte, not_true_eq_false, not_false_eq_true, true_or, or_true, tS_11, tS_12, tS_8, tS_9, tS_10, tS_13, tS_15, tS_16, tS_17, tS_18, tS_19, tS_301, tS_303, tS_305, tS_306, tS_u11, tS_u12, tS_tS] | refine q_220 hT ?_ ?_ | with_reducible refine And.intro ?_ ?_ | with_reducible intro _)
      all_goals (try (first | omega | contradiction | ((try clear hK); (try clear hK0); (try clear hB); (try clear h9); (try clear h8); (try clear h7); first | done | omega | (rw [← hq]; exact (scn_n (fun z => by have := z.2; omega)).symm) | (rw [← hq]; exact (scn_y (by omega) (by omega)).symm) | (rw [← hq]; unfold skp; rw [← scn_y (by omega) (by omega)]) | omega)))
    · intro c hc hq
      rw [a221_0]
      repeat' (first | refine hK _ ?_ | simp only [w_aload, x_g1011_300, x_g1010_300, w_ifc, cI, Int.reduceToNat, w_call, w_iconst, w_dupi, w_dupr, w_iadd, x_p1011_300, w_goto, w_return, a221_37, R32, List.getElem?_cons_zero, List.getElem?_cons_succ, List.set_cons_zero, List.set_cons_succ, List.cons_append, List.nil_append, List.replicate_succ, List.replicate_zero, List.take_succ_cons, List.take_zero, List.drop_succ_cons, List.drop_zero, List.reverse_cons, List.reverse_nil, List.length_cons, List.length_nil, Option.toList, true_and, and_true, eq_self, ↓reduceIte, not_true_eq_false, not_false_eq_true, true_or, or_true, tS_11, tS_12, tS_8, tS_9, tS_10, tS_13, tS_15, tS_16, tS_17, tS_18, tS_19, tS_301, tS_303, tS_305, tS_306, tS_u11, tS_u12, tS_tS] | refine q_220 hT ?_ ?_ | with_reducible refine And.intro ?_ ?_ | with_reducible intro _)
      all_goals (try (first | omega | contradiction | ((try clear hK); (try clear hK0); (try clear hB); (try clear h9); (try clear h8); (try clear h7); first | done | omega | (rw [← hq]; exact (scn_n (fun z => by omega)).symm) | omega)))
  refine Runs.of (al := [vr 300]) (n := 0) ⟨300, _, _, rfl, xo_300⟩ rfl rfl trivial ?_
  exact hL0 _ (by omega) rfl
theorem k222_0 : pg.1 222 0 = [.aload 0, .invokeinterface 221 1, .aload 0, .getfield 1011, .aload 0, .getfield 1010, .if_icmp .ge 31, .aload 0, .aload 0, .getfield 1011, .invokeinterface 220 2, .iload 1, .if_icmp .ne 31, .bipush 1, .goto 32] := rfl
theorem a222_0 {tb : Tab} {d : Nat} {K : Out → AM → Prop} {ls st : List AV} {m : AM} : At tb d 222 K 0 ls st m = wpB tb (pg.2.1 222) (Runs tb pg d) K (At tb d 222 K) [.aload 0, .invokeinterface 221 1, .aload 0, .getfield 1011, .aload 0, .getfield 1010, .if_icmp .ge 31, .aload 0, .aload 0, .getfield 1011, .invokeinterface 220 2, .iload 1, .if_icmp .ne 31, .bipush 1, .goto 32] ls st m := At.eq k222_0
theorem k222_31 : pg.1 222 31 = [.bipush 0, .jsr 32] := rfl
theorem a222_31 {tb : Tab} {d : Nat} {K : Out → AM → Prop} {ls st : List AV} {m : AM} : At tb d 222 K 31 ls st m = wpB tb (pg.2.1 222) (Runs tb pg d) K (At tb d 222 K) [.bipush 0, .jsr 32] ls st m := At.eq k222_31
theorem k222_32 : pg.1 222 32 = [.freturn] := rfl
theorem a222_32 {tb : Tab} {d : Nat} {K : Out → AM → Prop} {ls st : List AV} {m : AM} : At tb d 222 K 32 ls st m = wpB tb (pg.2.1 222) (Runs tb pg d) K (At tb d 222 K) [.freturn] ls st m := At.eq k222_32
theorem q_222 {c : Int} (hT : TX t n S) (ha : 0 ≤ a ∧ a ≤ 1000) (hc : R32 c) (hK : ∀ r b, b = skp t n a → yn r (b < n ∧ t b = c) → K (.inl (some (vi r))) (X (tS S b f) m)) : Runs tb pg (d + 3) 222 [vr 300, vi c] (X (tS S a f) m) K := by
  refine Runs.of (al := [vr 300, vi c]) (n := 0) ⟨300, _, _, rfl, xo_300⟩ rfl rfl trivial ?_
  have hn := hT.1
  have hn2 := hT.2.1
  have ht := hT.2.2.1
  unfold R32 at hc
  have g0 := skp_ge (t := t) (n := n) (a := a)
  have g5 := skp_b (t := t) (n := n) (a := a) ha.2 (by omega)
  obtain ⟨b, hb⟩ : ∃ b, b = skp t n a := ⟨_, rfl⟩
  have g1 := ht b
  rw [← hb] at g5
  repeat' (first | refine hK _ b hb ?_ | simp only [w_aload, w_call, x_g1011_300, x_g1010_300, w_ifc, cI, Int.reduceToNat, w_iload, w_iconst, w_goto, w_fall, w_zreturn, a222_0, a222_31, a222_32, R32, List.getElem?_cons_zero, List.getElem?_cons_succ, List.set_cons_zero, List.set_cons_succ, List.cons_append, List.nil_append, List.replicate_succ, List.replicate_zero, List.take_succ_cons, List.take_zero, List.drop_succ_cons, List.drop_zero, List.reverse_cons, List.reverse_nil, List.length_cons, List.length_nil, Option.toList, true_and, and_true, eq_self, ↓reduceIte, not_true_eq_false, not_false_eq_true, true_or, or_true, tS_11, tS_12, tS_8, tS_9, tS_10, tS_13, tS_15, tS_16, tS_17, tS_18, tS_19, tS_301, tS_303, tS_305, tS_306, tS_u11, tS_u12, tS_tS] | refine q_220 hT ?_ ?_ | refine q_221 hT ?_ (fun b9 e9 => ?_) | (rw [← hb] at e9; have e8 := e9.symm; clear e9; subst e8) | with_reducible refine And.intro ?_ ?_ | with_reducible intro _)
  all_goals (try (first | omega | contradiction | ((try clear hK); (try clear hK0); (try clear hB); (try clear h9); (try clear h8); (try clear h7); first | done | omega | exact Or.inl ⟨rfl, by omega, by omega⟩ | exact Or.inr ⟨rfl, fun z => by omega⟩ | omega)))
theorem k223_0 : pg.1 223 0 = [.aload 0, .invokeinterface 221 1, .aload 0, .getfield 1011, .istore 2, .jsr 9] := rfl
theorem a223_0 {tb : Tab} {d : Nat} {K : Out → AM → Prop} {ls st : List AV} {m : AM} : At tb d 223 K 0 ls st m = wpB tb (pg.2.1 223) (Runs tb pg d) K (At tb d 223 K) [.aload 0, .invokeinterface 221 1, .aload 0, .getfield 1011, .istore 2, .jsr 9] ls st m := At.eq k223_0
theorem k223_9 : pg.1 223 9 = [.iload 2, .aload 0, .getfield 1010, .if_icmp .ge 38, .aload 0, .iload 2, .invokeinterface 220 2, .bipush 97, .bipush 122, .invokeinterface 200 3, .ifCond .eq 38, .iinc 2 1, .goto 9] := rfl
theorem a223_9 {tb : Tab} {d : Nat} {K : Out → AM → Prop} {ls st : List AV} {m : AM} : At tb d 223 K 9 ls st m = wpB tb (pg.2.1 223) (Runs tb pg d) K (At tb d 223 K) [.iload 2, .aload 0, .getfield 1010, .if_icmp .ge 38, .aload 0, .iload 2, .invokeinterface 220 2, .bipush 97, .bipush 122, .invokeinterface 200 3, .ifCond .eq 38, .iinc 2 1, .goto 9] ls st m := At.eq k223_9
theorem k223_38 : pg.1 223 38 = [.iload 2, .aload 0, .getfield 1011, .isub, .aload 1, .invokeinterface 386 1, .if_icmp .eq 53, .bipush 0, .freturn] := rfl
theorem a223_38 {tb : Tab} {d : Nat} {K : Out → AM → Prop} {ls st : List AV} {m : AM} : At tb d 223 K 38 ls st m = wpB tb (pg.2.1 223) (Runs tb pg d) K (At tb d 223 K) [.iload 2, .aload 0, .getfield 1011, .isub, .aload 1, .invokeinterface 386 1, .if_icmp .eq 53, .bipush 0, .freturn] ls st m := At.eq k223_38
theorem k223_53 : pg.1 223 53 = [.bipush 0, .istore 3, .jsr 55] := rfl
theorem a223_53 {tb : Tab} {d : Nat} {K : Out → AM → Prop} {ls st : List AV} {m : AM} : At tb d 223 K 53 ls st m = wpB tb (pg.2.1 223) (Runs tb pg d) K (At tb d 223 K) [.bipush 0, .istore 3, .jsr 55] ls st m := At.eq k223_53
theorem k223_55 : pg.1 223 55 = [.iload 3, .aload 1, .invokeinterface 386 1, .if_icmp .ge 89, .aload 0, .aload 0, .getfield 1011, .iload 3, .iadd, .invokeinterface 220 2, .aload 1, .iload 3, .invokeinterface 387 2, .if_icmp .eq 83, .bipush 0, .freturn] := rfl
theorem a223_55 {tb : Tab} {d : Nat} {K : Out → AM → Prop} {ls st : List AV} {m : AM} : At tb d 223 K 55 ls st m = wpB tb (pg.2.1 223) (Runs tb pg d) K (At tb d 223 K) [.iload 3, .aload 1, .invokeinterface 386 1, .if_icmp .ge 89, .aload 0, .aload 0, .getfield 1011, .iload 3, .iadd, .invokeinterface 220 2, .aload 1, .iload 3, .invokeinterface 387 2, .if_icmp .eq 83, .bipush 0, .freturn] ls st m := At.eq k223_55
theorem k223_83 : pg.1 223 83 = [.iinc 3 1, .goto 55] := rfl
theorem a223_83 {tb : Tab} {d : Nat} {K : Out → AM → Prop} {ls st : List AV} {m : AM} : At tb d 223 K 83 ls st m = wpB tb (pg.2.1 223) (Runs tb pg d) K (At tb d 223 K) [.iinc 3 1, .goto 55] ls st m := At.eq k223_83
theorem k223_89 : pg.1 223 89 = [.aload 0, .iload 2, .putfield 1011, .bipush 1, .freturn] := rfl
theorem a223_89 {tb : Tab} {d : Nat} {K : Out → AM → Prop} {ls st : List AV} {m : AM} : At tb d 223 K 89 ls st m = wpB tb (pg.2.1 223) (Runs tb pg d) K (At tb d 223 K) [.aload 0, .iload 2, .putfield 1011, .bipush 1, .freturn] ls st m := At.eq k223_89
theorem q_223 {k : Nat} (hX : tb.2.1 = strB) (hk : k < 39) (hT : TX t n S) (ha : 0 ≤ a ∧ a ≤ 1000) (hN : ∀ b, b = skp t n a → ¬ wdP t n b (strB k) → K (.inl (some (vi 0))) (X (tS S b f) m)) (hK : ∀ b e, b = skp t n a → wdP t n b (strB k) → e = b + (strB k).length → K (.inl (some (vi 1))) (X (tS S e f) m)) : Runs tb pg (d + 5) 223 [vr 300, vx (2 * k + 2)] (X (tS S a f) m) K := by
  have hn := hT.1
  have hn2 := hT.2.1
  have ht := hT.2.2.1
  have g0 := skp_ge (t := t) (n := n) (a := a)
  obtain ⟨b, hb⟩ : ∃ b, b = skp t n a := ⟨_, rfl⟩
  have g4 := skp_le (t := t) (n := n) (a := a)
  have hs : b ≤ 1000 := by
    by_cases z : a ≤ n
    · have := g4 z; omega
    · have : skp t n a = a := scn_n (fun y => by omega)
      omega
  rw [← hb] at g0 hK hN
  have g1 := ltE_rg (t := t) (n := n) (a := b)
  have g2 : ∀ j, b ≤ j → j < ltE t n b → j < n := fun j j0 j1 => (scn_rg.2.2.1 j j0 j1).1
  have hl := sm_strlen k
  have h55 : ltE t n b - b = (strB k).length → At tb (d + 4) 223 K 55 [vr 300, vx (2 * k + 2), vi (ltE t n b), vi 0] [] (X (tS S b f) m) := by
    intro hlen
    obtain ⟨e, he⟩ : ∃ e, e = ltE t n b := ⟨_, rfl⟩
    rw [← he] at hlen g1 g2 ⊢
    have hL55 : (fun i : Int => (eqW t b (strB k) i) → At tb (d + 4) 223 K 55 [vr 300, vx (2 * k + 2), vi e, vi i] [] (X (tS S b f) m)) 0 := by
      refine loopZ (fun i : Int => (eqW t b (strB k) i) → At tb (d + 4) 223 K 55 [vr 300, vx (2 * k + 2), vi e, vi i] [] (X (tS S b f) m)) (((strB k).length : Int)) (by omega) ?_ ?_
      · intro i h0 h1 h9  hq
        have hr := ht (b + i) (by omega) (g2 _ (by omega) (by omega))
        have hr2 := g2 (b + i) (by omega) (by omega)
        rw [a223_55]
        repeat' (first | refine h9  ?_ | refine hN b rfl ?_ | simp only [w_aload, w_call, x_g1011_300, w_istore, w_fall, Int.reduceToNat, w_iload, x_g1010_300, w_ifc, cI, w_iconst, w_if, w_iinc, lgB, Nat.reduceSub, w_goto, w_isub, w_zreturn, w_iadd, x_p1011_300, a223_0, a223_38, a223_53, a223_83, a223_89, R32, List.getElem?_cons_zero, List.getElem?_cons_succ, List.set_cons_zero, List.set_cons_succ, List.cons_append, List.nil_append, List.replicate_succ, List.replicate_zero, List.take_succ_cons, List.take_zero, List.drop_succ_cons, List.drop_zero, List.reverse_cons, List.reverse_nil, List.length_cons, List.length_nil, Option.toList, true_and, and_true, eq_self, ↓reduceIte, not_true_eq_false, not_false_eq_true, true_or, or_true, tS_11, tS_12, tS_8, tS_9, tS_10, tS_13, tS_15, tS_16, tS_17, tS_18, tS_19, tS_301, tS_303, tS_305, tS_306, tS_u11, tS_u12, tS_tS] | refine q_200 ?_ ?_ ?_ ?_ | refine q_220 hT ?_ ?_ | refine q_221 hT ?_ (fun _ _ => ?_) | refine r_386k hX hk (fun _ _ => ?_) | refine r_387k hX hk ?_ ?_ (fun _ _ _ _ => ?_) | with_reducible refine And.intro ?_ ?_ | with_reducible intro _)
        all_goals (try (first | omega | contradiction | ((try clear hK); (try clear hK0); (try clear hB); (try clear h9); (try clear h8); (try clear h7); first | done | omega | exact eqW_s hq (by omega) | (intro z; have := z.2 i h0 h1; omega) | omega)))
      · intro  hq
        rw [a223_55]
        repeat' (first | refine hK b e rfl ?_ ?_ | simp only [w_aload, w_call, x_g1011_300, w_istore, w_fall, Int.reduceToNat, w_iload, x_g1010_300, w_ifc, cI, w_iconst, w_if, w_iinc, lgB, Nat.reduceSub, w_goto, w_isub, w_zreturn, w_iadd, x_p1011_300, a223_0, a223_38, a223_53, a223_83, a223_89, R32, List.getElem?_cons_zero, List.getElem?_cons_succ, List.set_cons_zero, List.set_cons_succ, List.cons_append, List.nil_append, List.replicate_succ, List.replicate_zero, List.take_succ_cons, List.take_zero, List.drop_succ_cons, List.drop_zero, List.reverse_cons, List.reverse_nil, List.length_cons, List.length_nil, Option.toList, true_and, and_true, eq_self, ↓reduceIte, not_true_eq_false, not_false_eq_true, true_or, or_true, tS_11, tS_12, tS_8, tS_9, tS_10, tS_13, tS_15, tS_16, tS_17, tS_18, tS_19, tS_301, tS_303, tS_305, tS_306, tS_u11, tS_u12, tS_tS] | refine q_200 ?_ ?_ ?_ ?_ | refine q_220 hT ?_ ?_ | refine q_221 hT ?_ (fun _ _ => ?_) | refine r_386k hX hk (fun _ _ => ?_) | refine r_387k hX hk ?_ ?_ (fun _ _ _ _ => ?_) | with_reducible refine And.intro ?_ ?_ | with_reducible intro _)
        all_goals (try (first | omega | contradiction | ((try clear hK); (try clear hK0); (try clear hB); (try clear h9); (try clear h8); (try clear h7); first | done | omega | exact ⟨by rw [← he]; exact hlen, hq⟩ | omega)))
    exact hL55 eqW_0
  have h38 : ∀ z3, At tb (d + 4) 223 K 38 [vr 300, vx (2 * k + 2), vi (ltE t n b), z3] [] (X (tS S b f) m) := by
    intro z3
    obtain ⟨e, he⟩ : ∃ e, e = ltE t n b := ⟨_, rfl⟩
    rw [← he] at h55 g1 ⊢
    rw [a223_38]
    repeat' (first | refine h55 ?_ | refine hN b rfl ?_ | simp only [w_aload, w_call, x_g1011_300, w_istore, w_fall, Int.reduceToNat, w_iload, x_g1010_300, w_ifc, cI, w_iconst, w_if, w_iinc, lgB, Nat.reduceSub, w_goto, w_isub, w_zreturn, w_iadd, x_p1011_300, a223_0, a223_53, a223_83, a223_89, R32, List.getElem?_cons_zero, List.getElem?_cons_succ, List.set_cons_zero, List.set_cons_succ, List.cons_append, List.nil_append, List.replicate_succ, List.replicate_zero, List.take_succ_cons, List.take_zero, List.drop_succ_cons, List.drop_zero, List.reverse_cons, List.reverse_nil, List.length_cons, List.length_nil, Option.toList, true_and, and_true, eq_self, ↓reduceIte, not_true_eq_false, not_false_eq_true, true_or, or_true, tS_11, tS_12, tS_8, tS_9, tS_10, tS_13, tS_15, tS_16, tS_17, tS_18, tS_19, tS_301, tS_303, tS_305, tS_306, tS_u11, tS_u12, tS_tS] | refine q_200 ?_ ?_ ?_ ?_ | refine q_220 hT ?_ ?_ | refine q_221 hT ?_ (fun _ _ => ?_) | refine r_386k hX hk (fun _ _ => ?_) | refine r_387k hX hk ?_ ?_ (fun _ _ _ _ => ?_) | with_reducible refine And.intro ?_ ?_ | with_reducible intro _)
    all_goals (try (first | omega | contradiction | ((try clear hK); (try clear hK0); (try clear hB); (try clear h9); (try clear h8); (try clear h7); first | done | omega | (intro z; have := z.1; omega) | omega)))
  have hL9 : (fun i : Int => ∀ (z3 : AV) (c : Int), c = b + i → (ltE t n c = ltE t n b) → (c ≤ n ∨ c = b) → At tb (d + 4) 223 K 9 [vr 300, vx (2 * k + 2), vi c, z3] [] (X (tS S b f) m)) 0 := by
    refine loopZ (fun i : Int => ∀ (z3 : AV) (c : Int), c = b + i → (ltE t n c = ltE t n b) → (c ≤ n ∨ c = b) → At tb (d + 4) 223 K 9 [vr 300, vx (2 * k + 2), vi c, z3] [] (X (tS S b f) m)) (((n - b).toNat : Int)) (by omega) ?_ ?_
    · intro i h0 h1 h9 z3 c hc hq hcn
      have hr := ht c
      have hcq : ¬ (c < n ∧ (97 ≤ t c ∧ t c ≤ 122)) → c = ltE t n b := fun z => by rw [← hq]; exact (scn_n z).symm
      rw [a223_9]
      repeat' (first | refine h9 _ _ ?_ ?_ ?_ | (have hc9 := hcq (by omega); clear hcq; subst hc9; exact h38 _) | simp only [w_aload, w_call, x_g1011_300, w_istore, w_fall, Int.reduceToNat, w_iload, x_g1010_300, w_ifc, cI, w_iconst, w_if, w_iinc, lgB, Nat.reduceSub, w_goto, w_isub, w_zreturn, w_iadd, x_p1011_300, a223_0, a223_53, a223_83, a223_89, R32, List.getElem?_cons_zero, List.getElem?_cons_succ, List.set_cons_zero, List.set_cons_succ, List.cons_append, List.nil_append, List.replicate_succ, List.replicate_zero, List.take_succ_cons, List.take_zero, List.drop_succ_cons, List.drop_zero, List.reverse_cons, List.reverse_nil, List.length_cons, List.length_nil, Option.toList, true_and, and_true, eq_self, ↓reduceIte, not_true_eq_false, not_false_eq_true, true_or, or_true, tS_11, tS_12, tS_8, tS_9, tS_10, tS_13, tS_15, tS_16, tS_17, tS_18, tS_19, tS_301, tS_303, tS_305, tS_306, tS_u11, tS_u12, tS_tS] | refine q_200 ?_ ?_ ?_ ?_ | refine q_220 hT ?_ ?_ | refine q_221 hT ?_ (fun _ _ => ?_) | refine r_386k hX hk (fun _ _ => ?_) | refine r_387k hX hk ?_ ?_ (fun _ _ _ _ => ?_) | with_reducible refine And.intro ?_ ?_ | with_reducible intro _)
      all_goals (try (first | omega | contradiction | ((try clear hK); (try clear hK0); (try clear hB); (try clear h9); (try clear h8); (try clear h7); first | done | omega | (rw [← hq]; exact (scn_y (by omega) (by omega)).symm) | omega)))
    · intro z3 c hc hq hcn
      have hcq : ¬ (c < n ∧ (97 ≤ t c ∧ t c ≤ 122)) → c = ltE t n b := fun z => by rw [← hq]; exact (scn_n z).symm
      rw [a223_9]
      repeat' (first | (have hc9 := hcq (by omega); clear hcq; subst hc9; exact h38 _) | simp only [w_aload, w_call, x_g1011_300, w_istore, w_fall, Int.reduceToNat, w_iload, x_g1010_300, w_ifc, cI, w_iconst, w_if, w_iinc, lgB, Nat.reduceSub, w_goto, w_isub, w_zreturn, w_iadd, x_p1011_300, a223_0, a223_53, a223_83, a223_89, R32, List.getElem?_cons_zero, List.getElem?_cons_succ, List.set_cons_zero, List.set_cons_succ, List.cons_append, List.nil_append, List.replicate_succ, List.replicate_zero, List.take_succ_cons, List.take_zero, List.drop_succ_cons, List.drop_zero, List.reverse_cons, List.reverse_nil, List.length_cons, List.length_nil, Option.toList, true_and, and_true, eq_self, ↓reduceIte, not_true_eq_false, not_false_eq_true, true_or, or_true, tS_11, tS_12, tS_8, tS_9, tS_10, tS_13, tS_15, tS_16, tS_17, tS_18, tS_19, tS_301, tS_303, tS_305, tS_306, tS_u11, tS_u12, tS_tS] | refine q_200 ?_ ?_ ?_ ?_ | refine q_220 hT ?_ ?_ | refine q_221 hT ?_ (fun _ _ => ?_) | refine r_386k hX hk (fun _ _ => ?_) | refine r_387k hX hk ?_ ?_ (fun _ _ _ _ => ?_) | with_reducible refine And.intro ?_ ?_ | with_reducible intro _)
      all_goals (try (first | omega | contradiction | ((try clear hK); (try clear hK0); (try clear hB); (try clear h9); (try clear h8); (try clear h7); first | done | omega | grind)))
  refine Runs.of (al := [vr 300, vx (2 * k + 2)]) (n := 2) ⟨300, _, _, rfl, xo_300⟩ rfl rfl trivial ?_
  repeat' (first | refine hL9 _ b ?_ rfl ?_ | simp only [w_aload, w_call, x_g1011_300, w_istore, w_fall, Int.reduceToNat, w_iload, x_g1010_300, w_ifc, cI, w_iconst, w_if, w_iinc, lgB, Nat.reduceSub, w_goto, w_isub, w_zreturn, w_iadd, x_p1011_300, a223_0, a223_38, a223_53, a223_83, a223_89, R32, List.getElem?_cons_zero, List.getElem?_cons_succ, List.set_cons_zero, List.set_cons_succ, List.cons_append, List.nil_append, List.replicate_succ, List.replicate_zero, List.take_succ_cons, List.take_zero, List.drop_succ_cons, List.drop_zero, List.reverse_cons, List.reverse_nil, List.length_cons, List.length_nil, Option.toList, true_and, and_true, eq_self, ↓reduceIte, not_true_eq_false, not_false_eq_true, true_or, or_true, tS_11, tS_12, tS_8, tS_9, tS_10, tS_13, tS_15, tS_16, tS_17, tS_18, tS_19, tS_301, tS_303, tS_305, tS_306, tS_u11, tS_u12, tS_tS] | refine q_200 ?_ ?_ ?_ ?_ | refine q_220 hT ?_ ?_ | refine q_221 hT ?_ (fun b9 e9 => ?_) | (rw [← hb] at e9; have e8 := e9.symm; clear e9; subst e8) | refine r_386k hX hk (fun _ _ => ?_) | refine r_387k hX hk ?_ ?_ (fun _ _ _ _ => ?_) | with_reducible refine And.intro ?_ ?_ | with_reducible intro _)
  all_goals (try (first | omega | contradiction | ((try clear hK); (try clear hK0); (try clear hB); (try clear h9); (try clear h8); (try clear h7); first | done | omega | omega)))
theorem k224_0 : pg.1 224 0 = [.aload 0, .getfield 1012, .bipush (-1), .if_icmp .ne 13, .aload 0, .iload 1, .putfield 1012, .jsr 13] := rfl
theorem a224_0 {tb : Tab} {d : Nat} {K : Out → AM → Prop} {ls st : List AV} {m : AM} : At tb d 224 K 0 ls st m = wpB tb (pg.2.1 224) (Runs tb pg d) K (At tb d 224 K) [.aload 0, .getfield 1012, .bipush (-1), .if_icmp .ne 13, .aload 0, .iload 1, .putfield 1012, .jsr 13] ls st m := At.eq k224_0
theorem k224_13 : pg.1 224 13 = [.return_] := rfl
theorem a224_13 {tb : Tab} {d : Nat} {K : Out → AM → Prop} {ls st : List AV} {m : AM} : At tb d 224 K 13 ls st m = wpB tb (pg.2.1 224) (Runs tb pg d) K (At tb d 224 K) [.return_] ls st m := At.eq k224_13
theorem q_224 {w : Int} (hf : R32 f) (hK : ∀ g, g = (if f = -1 then w else f) → K (.inl none) (X (tS S a g) m)) : Runs tb pg (d + 1) 224 [vr 300, vi w] (X (tS S a f) m) K := by
  refine Runs.of (al := [vr 300, vi w]) (n := 0) ⟨300, _, _, rfl, xo_300⟩ rfl rfl trivial ?_
  unfold R32 at hf
  repeat' (first | refine hK _ ?_ | simp only [w_aload, x_g1012_300, w_iconst, w_ifc, cI, Int.reduceToNat, w_iload, x_p1012_300, w_fall, w_return, a224_0, a224_13, R32, List.getElem?_cons_zero, List.getElem?_cons_succ, List.set_cons_zero, List.set_cons_succ, List.cons_append, List.nil_append, List.replicate_succ, List.replicate_zero, List.take_succ_cons, List.take_zero, List.drop_succ_cons, List.drop_zero, List.reverse_cons, List.reverse_nil, List.length_cons, List.length_nil, Option.toList, true_and, and_true, eq_self, ↓reduceIte, not_true_eq_false, not_false_eq_true, true_or, or_true, tS_11, tS_12, tS_8, tS_9, tS_10, tS_13, tS_15, tS_16, tS_17, tS_18, tS_19, tS_301, tS_303, tS_305, tS_306, tS_u11, tS_u12, tS_tS] | with_reducible refine And.intro ?_ ?_ | with_reducible intro _)
  all_goals (try (first | omega | contradiction | ((try clear hK); (try clear hK0); (try clear hB); (try clear h9); (try clear h8); (try clear h7); first | done | omega | grind)))
theorem k225_0 : pg.1 225 0 = [.aload 0, .invokeinterface 221 1, .aload 0, .getfield 1011, .ireturn] := rfl
theorem a225_0 {tb : Tab} {d : Nat} {K : Out → AM → Prop} {ls st : List AV} {m : AM} : At tb d 225 K 0 ls st m = wpB tb (pg.2.1 225) (Runs tb pg d) K (At tb d 225 K) [.aload 0, .invokeinterface 221 1, .aload 0, .getfield 1011, .ireturn] ls st m := At.eq k225_0
theorem q_225 (hT : TX t n S) (ha : 0 ≤ a ∧ a ≤ 1000) (hK : ∀ b, b = skp t n a → K (.inl (some (vi b))) (X (tS S b f) m)) : Runs tb pg (d + 3) 225 [vr 300] (X (tS S a f) m) K := by
  refine Runs.of (al := [vr 300]) (n := 0) ⟨300, _, _, rfl, xo_300⟩ rfl rfl trivial ?_
  repeat' (first | refine hK _ ?_ | simp only [w_aload, w_call, x_g1011_300, w_ireturn, a225_0, R32, List.getElem?_cons_zero, List.getElem?_cons_succ, List.set_cons_zero, List.set_cons_succ, List.cons_append, List.nil_append, List.replicate_succ, List.replicate_zero, List.take_succ_cons, List.take_zero, List.drop_succ_cons, List.drop_zero, List.reverse_cons, List.reverse_nil, List.length_cons, List.length_nil, Option.toList, true_and, and_true, eq_self, ↓reduceIte, not_true_eq_false, not_false_eq_true, true_or, or_true, tS_11, tS_12, tS_8, tS_9, tS_10, tS_13, tS_15, tS_16, tS_17, tS_18, tS_19, tS_301, tS_303, tS_305, tS_306, tS_u11, tS_u12, tS_tS] | refine q_221 hT ?_ (fun _ _ => ?_) | with_reducible refine And.intro ?_ ?_ | with_reducible intro _)
  all_goals (try (first | omega | contradiction | ((try clear hK); (try clear hK0); (try clear hB); (try clear h9); (try clear h8); (try clear h7); first | done | omega | omega)))
theorem k226_0 : pg.1 226 0 = [.aload 0, .getfield 1012, .bipush (-1), .if_icmp .eq 10, .bipush 0, .ireturn] := rfl
theorem a226_0 {tb : Tab} {d : Nat} {K : Out → AM → Prop} {ls st : List AV} {m : AM} : At tb d 226 K 0 ls st m = wpB tb (pg.2.1 226) (Runs tb pg d) K (At tb d 226 K) [.aload 0, .getfield 1012, .bipush (-1), .if_icmp .eq 10, .bipush 0, .ireturn] ls st m := At.eq k226_0
theorem k226_10 : pg.1 226 10 = [.aload 0, .invokeinterface 225 1, .istore 3, .bipush 0, .istore 4, .jsr 18] := rfl
theorem a226_10 {tb : Tab} {d : Nat} {K : Out → AM → Prop} {ls st : List AV} {m : AM} : At tb d 226 K 10 ls st m = wpB tb (pg.2.1 226) (Runs tb pg d) K (At tb d 226 K) [.aload 0, .invokeinterface 225 1, .istore 3, .bipush 0, .istore 4, .jsr 18] ls st m := At.eq k226_10
theorem k226_18 : pg.1 226 18 = [.aload 0, .getfield 1011, .aload 0, .getfield 1010, .if_icmp .ge 89, .aload 0, .aload 0, .getfield 1011, .invokeinterface 220 2, .bipush 48, .bipush 57, .invokeinterface 200 3, .ifCond .eq 89, .aload 0, .getfield 1011, .iload 3, .isub, .bipush 3, .if_icmp .gt 89, .bipush 10, .iload 4, .imul, .aload 0, .aload 0, .getfield 1011, .invokeinterface 220 2, .iadd, .bipush 48, .isub, .istore 4, .aload 0, .dup, .getfield 1011, .bipush 1, .iadd, .putfield 1011, .goto 18] := rfl
theorem a226_18 {tb : Tab} {d : Nat} {K : Out → AM → Prop} {ls st : List AV} {m : AM} : At tb d 226 K 18 ls st m = wpB tb (pg.2.1 226) (Runs tb pg d) K (At tb d 226 K) [.aload 0, .getfield 1011, .aload 0, .getfield 1010, .if_icmp .ge 89, .aload 0, .aload 0, .getfield 1011, .invokeinterface 220 2, .bipush 48, .bipush 57, .invokeinterface 200 3, .ifCond .eq 89, .aload 0, .getfield 1011, .iload 3, .isub, .bipush 3, .if_icmp .gt 89, .bipush 10, .iload 4, .imul, .aload 0, .aload 0, .getfield 1011, .invokeinterface 220 2, .iadd, .bipush 48, .isub, .istore 4, .aload 0, .dup, .getfield 1011, .bipush 1, .iadd, .putfield 1011, .goto 18] ls st m := At.eq k226_18
theorem k226_89 : pg.1 226 89 = [.aload 0, .getfield 1011, .iload 3, .if_icmp .eq 119, .aload 0, .getfield 1011, .iload 3, .isub, .bipush 3, .if_icmp .gt 119, .iload 4, .iload 1, .if_icmp .lt 119, .iload 4, .iload 2, .if_icmp .le 124, .jsr 119] := rfl
theorem a226_89 {tb : Tab} {d : Nat} {K : Out → AM → Prop} {ls st : List AV} {m : AM} : At tb d 226 K 89 ls st m = wpB tb (pg.2.1 226) (Runs tb pg d) K (At tb d 226 K) [.aload 0, .getfield 1011, .iload 3, .if_icmp .eq 119, .aload 0, .getfield 1011, .iload 3, .isub, .bipush 3, .if_icmp .gt 119, .iload 4, .iload 1, .if_icmp .lt 119, .iload 4, .iload 2, .if_icmp .le 124, .jsr 119] ls st m := At.eq k226_89
theorem k226_119 : pg.1 226 119 = [.aload 0, .iload 3, .invokeinterface 224 2, .jsr 124] := rfl
theorem a226_119 {tb : Tab} {d : Nat} {K : Out → AM → Prop} {ls st : List AV} {m : AM} : At tb d 226 K 119 ls st m = wpB tb (pg.2.1 226) (Runs tb pg d) K (At tb d 226 K) [.aload 0, .iload 3, .invokeinterface 224 2, .jsr 124] ls st m := At.eq k226_119
theorem k226_124 : pg.1 226 124 = [.iload 4, .ireturn] := rfl
theorem a226_124 {tb : Tab} {d : Nat} {K : Out → AM → Prop} {ls st : List AV} {m : AM} : At tb d 226 K 124 ls st m = wpB tb (pg.2.1 226) (Runs tb pg d) K (At tb d 226 K) [.iload 4, .ireturn] ls st m := At.eq k226_124
theorem q_226f {lo hi : Int} (hR : R32 f) (hf : f ≠ -1) (hK : K (.inl (some (vi 0))) (X (tS S a f) m)) : Runs tb pg (d + 4) 226 [vr 300, vi lo, vi hi] (X (tS S a f) m) K := by
  refine Runs.of (al := [vr 300, vi lo, vi hi]) (n := 2) ⟨300, _, _, rfl, xo_300⟩ rfl rfl trivial ?_
  unfold R32 at hR
  repeat' (first | refine hK _ ?_ | simp only [w_aload, x_g1012_300, w_iconst, w_ifc, cI, Int.reduceToNat, w_ireturn, w_call, w_istore, w_fall, x_g1011_300, x_g1010_300, w_if, w_iload, w_isub, w_imul, w_iadd, w_dupi, w_dupr, x_p1011_300, w_goto, a226_0, a226_10, a226_89, a226_119, a226_124, R32, List.getElem?_cons_zero, List.getElem?_cons_succ, List.set_cons_zero, List.set_cons_succ, List.cons_append, List.nil_append, List.replicate_succ, List.replicate_zero, List.take_succ_cons, List.take_zero, List.drop_succ_cons, List.drop_zero, List.reverse_cons, List.reverse_nil, List.length_cons, List.length_nil, Option.toList, true_and, and_true, eq_self, ↓reduceIte, not_true_eq_false, not_false_eq_true, true_or, or_true, tS_11, tS_12, tS_8, tS_9, tS_10, tS_13, tS_15, tS_16, tS_17, tS_18, tS_19, tS_301, tS_303, tS_305, tS_306, tS_u11, tS_u12, tS_tS] | with_reducible refine And.intro ?_ ?_ | with_reducible intro _)
  all_goals (try (first | omega | contradiction | ((try clear hK); (try clear hK0); (try clear hB); (try clear h9); (try clear h8); (try clear h7); first | done | omega | omega)))
theorem q_226 {lo hi : Int} (hT : TX t n S) (ha : 0 ≤ a ∧ a ≤ 1000) (hl : R32 lo ∧ R32 hi) (hN : ∀ v e b, numP t n lo hi a = .inl b → 0 ≤ e → e ≤ 1000 → 0 ≤ b → b ≤ 1000 → 0 ≤ v → v ≤ 9999 → K (.inl (some (vi v))) (X (tS S e b) m)) (hK : ∀ v e, numP t n lo hi a = .inr (v, e) → K (.inl (some (vi v))) (X (tS S e (-1)) m)) : Runs tb pg (d + 4) 226 [vr 300, vi lo, vi hi] (X (tS S a (-1)) m) K := by
  have hn := hT.1
  have hn2 := hT.2.1
  have ht := hT.2.2.1
  unfold R32 at hl
  have g0 := skp_ge (t := t) (n := n) (a := a)
  have g5 := skp_b (t := t) (n := n) (a := a) ha.2 (by omega)
  obtain ⟨b, hb⟩ : ∃ b, b = skp t n a := ⟨_, rfl⟩
  rw [← hb] at g0 g5
  obtain ⟨e, he⟩ : ∃ e, e = fgE t n b := ⟨_, rfl⟩
  have g1 := fgE_rg (t := t) (n := n) (a := b)
  have g2 := (scn_rg (c := fun j => (48 ≤ t j ∧ t j ≤ 57) ∧ j - b ≤ 3) (n := n) (i := b)).2.2.1
  rw [show scn (fun j => (48 ≤ t j ∧ t j ≤ 57) ∧ j - b ≤ 3) n b = e from he.symm] at g2
  rw [← he] at g1
  have hy : (b < e ∧ e - b ≤ 3) ∧ lo ≤ vlZ t b (e - b) ∧ vlZ t b (e - b) ≤ hi → numP t n lo hi a = .inr (vlZ t b (e - b), e) := fun z => by rw [he, hb]; exact numP_1 (by rw [← hb, okF, ← he]; exact z)
  have hz : ¬ ((b < e ∧ e - b ≤ 3) ∧ lo ≤ vlZ t b (e - b) ∧ vlZ t b (e - b) ≤ hi) → numP t n lo hi a = .inl b := fun z => by rw [hb]; exact numP_0 (by rw [← hb, okF, ← he]; exact z)
  have hv := vlZ_rg (t := t) (b := b) (i := e - b) (by omega) (by omega) (fun j j0 j1 => (g2 j j0 (by omega)).2.1)
  have h89 : ∀ v c, c = e → v = vlZ t b (c - b) → At tb (d + 3) 226 K 89 [vr 300, vi lo, vi hi, vi b, vi v] [] (X (tS S c (-1)) m) := by
    intro v c hc9 hv9
    rw [hc9] at hv9
    subst hc9
    rw [← hv9] at hy hz hv
    rw [a226_89]
    repeat' (first | refine hK _ _ (hy ?_) | refine hN _ _ _ (hz ?_) ?_ ?_ ?_ ?_ ?_ ?_ | simp only [w_aload, x_g1012_300, w_iconst, w_ifc, cI, Int.reduceToNat, w_ireturn, w_call, w_istore, w_fall, x_g1011_300, x_g1010_300, w_if, w_iload, w_isub, w_imul, w_iadd, w_dupi, w_dupr, x_p1011_300, w_goto, a226_0, a226_10, a226_119, a226_124, R32, List.getElem?_cons_zero, List.getElem?_cons_succ, List.set_cons_zero, List.set_cons_succ, List.cons_append, List.nil_append, List.replicate_succ, List.replicate_zero, List.take_succ_cons, List.take_zero, List.drop_succ_cons, List.drop_zero, List.reverse_cons, List.reverse_nil, List.length_cons, List.length_nil, Option.toList, true_and, and_true, eq_self, ↓reduceIte, not_true_eq_false, not_false_eq_true, true_or, or_true, tS_11, tS_12, tS_8, tS_9, tS_10, tS_13, tS_15, tS_16, tS_17, tS_18, tS_19, tS_301, tS_303, tS_305, tS_306, tS_u11, tS_u12, tS_tS] | refine q_224 (by unfold R32; omega) (fun b9 e9 => ?_) | (have e8 : b9 = b := e9.trans (if_pos rfl); clear e9; subst e8) | with_reducible refine And.intro ?_ ?_ | with_reducible intro _)
    all_goals (try (first | omega | contradiction | ((try clear hK); (try clear hK0); (try clear hB); (try clear h9); (try clear h8); (try clear h7); first | done | omega | omega)))
  have hL18 : (fun i : Int => ∀ (v : Int) (c : Int), v = vlZ t b i → c = b + i → (c ≤ e) → (i < 4 ∨ c = e) → (scn (fun j => (48 ≤ t j ∧ t j ≤ 57) ∧ j - b ≤ 3) n c = e) → At tb (d + 3) 226 K 18 [vr 300, vi lo, vi hi, vi b, vi v] [] (X (tS S c (-1)) m)) 0 := by
    refine loopZ (fun i : Int => ∀ (v : Int) (c : Int), v = vlZ t b i → c = b + i → (c ≤ e) → (i < 4 ∨ c = e) → (scn (fun j => (48 ≤ t j ∧ t j ≤ 57) ∧ j - b ≤ 3) n c = e) → At tb (d + 3) 226 K 18 [vr 300, vi lo, vi hi, vi b, vi v] [] (X (tS S c (-1)) m)) (4) (by omega) ?_ ?_
    · intro i h0 h1 h9 v c hv hc hq hq2 hq3
      have hvc : v = vlZ t b (c - b) := by rw [hv, hc, show b + i - b = i by omega]
      have hr := ht c
      have hcq : ¬ (c < n ∧ (48 ≤ t c ∧ t c ≤ 57) ∧ c - b ≤ 3) → c = e := fun z => by rw [← hq3]; exact (scn_n z).symm
      have hv2 := vlZ_rg (t := t) (b := b) (i := i) (by omega) (by omega) (fun j j0 j1 => (g2 j j0 (by omega)).2.1)
      have hcs : (c < n ∧ (48 ≤ t c ∧ t c ≤ 57) ∧ c - b ≤ 3) → scn (fun j => (48 ≤ t j ∧ t j ≤ 57) ∧ j - b ≤ 3) n (c + 1) = e := fun z => by rw [← hq3]; exact (scn_y z.1 z.2).symm
      have hcl : scn (fun j => (48 ≤ t j ∧ t j ≤ 57) ∧ j - b ≤ 3) n (c + 1) = e → c + 1 ≤ e := fun z => by rw [← z]; exact scn_rg.1
      rw [a226_18]
      repeat' (first | refine h9 _ _ ?_ ?_ ?_ ?_ ?_ | exact h89 _ _ (hcq (by omega)) hvc | simp only [w_aload, x_g1012_300, w_iconst, w_ifc, cI, Int.reduceToNat, w_ireturn, w_call, w_istore, w_fall, x_g1011_300, x_g1010_300, w_if, w_iload, w_isub, w_imul, w_iadd, w_dupi, w_dupr, x_p1011_300, w_goto, a226_0, a226_10, a226_119, a226_124, R32, List.getElem?_cons_zero, List.getElem?_cons_succ, List.set_cons_zero, List.set_cons_succ, List.cons_append, List.nil_append, List.replicate_succ, List.replicate_zero, List.take_succ_cons, List.take_zero, List.drop_succ_cons, List.drop_zero, List.reverse_cons, List.reverse_nil, List.length_cons, List.length_nil, Option.toList, true_and, and_true, eq_self, ↓reduceIte, not_true_eq_false, not_false_eq_true, true_or, or_true, tS_11, tS_12, tS_8, tS_9, tS_10, tS_13, tS_15, tS_16, tS_17, tS_18, tS_19, tS_301, tS_303, tS_305, tS_306, tS_u11, tS_u12, tS_tS] | refine q_200 ?_ ?_ ?_ ?_ | refine q_220 hT ?_ ?_ | refine q_224 ?_ (fun _ _ => ?_) | refine q_225 hT ?_ (fun _ _ => ?_) | refine q_220 hT ?_ ?_ | with_reducible refine And.intro ?_ ?_ | with_reducible intro _)
      all_goals (try (first | omega | contradiction | ((try clear hK); (try clear hK0); (try clear hB); (try clear h9); (try clear h8); (try clear h7); first | done | omega | (have z := hcs (by omega); have z2 := hcl z; first | exact z | omega) | (rw [vlZ_s (by omega), ← hc]; omega) | omega)))
    · intro v c hv hc hq hq2 hq3
      have hvc : v = vlZ t b (c - b) := by rw [hv, hc, show b + 4 - b = 4 by omega]
      have hr := ht c
      have hcq : ¬ (c < n ∧ (48 ≤ t c ∧ t c ≤ 57) ∧ c - b ≤ 3) → c = e := fun z => by rw [← hq3]; exact (scn_n z).symm
      rw [a226_18]
      repeat' (first | exact h89 _ _ (hcq (by omega)) hvc | simp only [w_aload, x_g1012_300, w_iconst, w_ifc, cI, Int.reduceToNat, w_ireturn, w_call, w_istore, w_fall, x_g1011_300, x_g1010_300, w_if, w_iload, w_isub, w_imul, w_iadd, w_dupi, w_dupr, x_p1011_300, w_goto, a226_0, a226_10, a226_119, a226_124, R32, List.getElem?_cons_zero, List.getElem?_cons_succ, List.set_cons_zero, List.set_cons_succ, List.cons_append, List.nil_append, List.replicate_succ, List.replicate_zero, List.take_succ_cons, List.take_zero, List.drop_succ_cons, List.drop_zero, List.reverse_cons, List.reverse_nil, List.length_cons, List.length_nil, Option.toList, true_and, and_true, eq_self, ↓reduceIte, not_true_eq_false, not_false_eq_true, true_or, or_true, tS_11, tS_12, tS_8, tS_9, tS_10, tS_13, tS_15, tS_16, tS_17, tS_18, tS_19, tS_301, tS_303, tS_305, tS_306, tS_u11, tS_u12, tS_tS] | refine q_200 ?_ ?_ ?_ ?_ | refine q_220 hT ?_ ?_ | refine q_224 ?_ (fun _ _ => ?_) | refine q_225 hT ?_ (fun _ _ => ?_) | refine q_220 hT ?_ ?_ | with_reducible refine And.intro ?_ ?_ | with_reducible intro _)
      all_goals (try (first | omega | contradiction | ((try clear hK); (try clear hK0); (try clear hB); (try clear h9); (try clear h8); (try clear h7); first | done | omega | grind)))
  refine Runs.of (al := [vr 300, vi lo, vi hi]) (n := 2) ⟨300, _, _, rfl, xo_300⟩ rfl rfl trivial ?_
  repeat' (first | refine hL18 _ b ?_ ?_ ?_ ?_ he.symm | simp only [w_aload, x_g1012_300, w_iconst, w_ifc, cI, Int.reduceToNat, w_ireturn, w_call, w_istore, w_fall, x_g1011_300, x_g1010_300, w_if, w_iload, w_isub, w_imul, w_iadd, w_dupi, w_dupr, x_p1011_300, w_goto, a226_0, a226_10, a226_89, a226_119, a226_124, R32, List.getElem?_cons_zero, List.getElem?_cons_succ, List.set_cons_zero, List.set_cons_succ, List.cons_append, List.nil_append, List.replicate_succ, List.replicate_zero, List.take_succ_cons, List.take_zero, List.drop_succ_cons, List.drop_zero, List.reverse_cons, List.reverse_nil, List.length_cons, List.length_nil, Option.toList, true_and, and_true, eq_self, ↓reduceIte, not_true_eq_false, not_false_eq_true, true_or, or_true, tS_11, tS_12, tS_8, tS_9, tS_10, tS_13, tS_15, tS_16, tS_17, tS_18, tS_19, tS_301, tS_303, tS_305, tS_306, tS_u11, tS_u12, tS_tS] | refine q_225 hT ?_ (fun b9 e9 => ?_) | (rw [← hb] at e9; have e8 := e9.symm; clear e9; subst e8) | with_reducible refine And.intro ?_ ?_ | with_reducible intro _)
  all_goals (try (first | omega | contradiction | ((try clear hK); (try clear hK0); (try clear hB); (try clear h9); (try clear h8); (try clear h7); first | done | omega | exact vlZ_0.symm | omega)))
theorem k227_0 : pg.1 227 0 = [.aload 0, .getfield 1012, .bipush (-1), .if_icmp .ne 24, .aload 0, .aload 1, .invokeinterface 223 2, .ifCond .ne 24, .aload 0, .aload 0, .getfield 1011, .invokeinterface 224 2, .jsr 24] := rfl
theorem a227_0 {tb : Tab} {d : Nat} {K : Out → AM → Prop} {ls st : List AV} {m : AM} : At tb d 227 K 0 ls st m = wpB tb (pg.2.1 227) (Runs tb pg d) K (At tb d 227 K) [.aload 0, .getfield 1012, .bipush (-1), .if_icmp .ne 24, .aload 0, .aload 1, .invokeinterface 223 2, .ifCond .ne 24, .aload 0, .aload 0, .getfield 1011, .invokeinterface 224 2, .jsr 24] ls st m := At.eq k227_0
theorem k227_24 : pg.1 227 24 = [.aload 0, .iload 2, .iload 3, .invokeinterface 226 3, .ireturn] := rfl
theorem a227_24 {tb : Tab} {d : Nat} {K : Out → AM → Prop} {ls st : List AV} {m : AM} : At tb d 227 K 24 ls st m = wpB tb (pg.2.1 227) (Runs tb pg d) K (At tb d 227 K) [.aload 0, .iload 2, .iload 3, .invokeinterface 226 3, .ireturn] ls st m := At.eq k227_24
theorem q_227f {lo hi : Int} {k : Nat} (hR : R32 f) (hf : f ≠ -1) (hK : K (.inl (some (vi 0))) (X (tS S a f) m)) : Runs tb pg (d + 6) 227 [vr 300, vx (2 * k + 2), vi lo, vi hi] (X (tS S a f) m) K := by
  refine Runs.of (al := [vr 300, vx (2 * k + 2), vi lo, vi hi]) (n := 0) ⟨300, _, _, rfl, xo_300⟩ rfl rfl trivial ?_
  have hR2 := hR
  unfold R32 at hR2
  repeat' (first | refine hK _ ?_ | simp only [w_aload, x_g1012_300, w_iconst, w_ifc, cI, Int.reduceToNat, w_call, w_if, x_g1011_300, w_fall, w_iload, w_ireturn, a227_0, a227_24, R32, List.getElem?_cons_zero, List.getElem?_cons_succ, List.set_cons_zero, List.set_cons_succ, List.cons_append, List.nil_append, List.replicate_succ, List.replicate_zero, List.take_succ_cons, List.take_zero, List.drop_succ_cons, List.drop_zero, List.reverse_cons, List.reverse_nil, List.length_cons, List.length_nil, Option.toList, true_and, and_true, eq_self, ↓reduceIte, not_true_eq_false, not_false_eq_true, true_or, or_true, tS_11, tS_12, tS_8, tS_9, tS_10, tS_13, tS_15, tS_16, tS_17, tS_18, tS_19, tS_301, tS_303, tS_305, tS_306, tS_u11, tS_u12, tS_tS] | refine q_226f hR hf ?_ | with_reducible refine And.intro ?_ ?_ | with_reducible intro _)
  all_goals (try (first | omega | contradiction | ((try clear hK); (try clear hK0); (try clear hB); (try clear h9); (try clear h8); (try clear h7); first | done | omega | omega | exact hR | exact hf)))
theorem q_227 {lo hi : Int} {k : Nat} (hX : tb.2.1 = strB) (hk : k < 39) (hT : TX t n S) (ha : 0 ≤ a ∧ a ≤ 1000) (hl : R32 lo ∧ R32 hi) (hN : ∀ v e b, aftP t n (strB k) lo hi a = .inl b → 0 ≤ e → e ≤ 1000 → 0 ≤ b → b ≤ 1000 → K (.inl (some (vi v))) (X (tS S e b) m)) (hK : ∀ v e, aftP t n (strB k) lo hi a = .inr (v, e) → K (.inl (some (vi v))) (X (tS S e (-1)) m)) : Runs tb pg (d + 6) 227 [vr 300, vx (2 * k + 2), vi lo, vi hi] (X (tS S a (-1)) m) K := by
  refine Runs.of (al := [vr 300, vx (2 * k + 2), vi lo, vi hi]) (n := 0) ⟨300, _, _, rfl, xo_300⟩ rfl rfl trivial ?_
  have hn := hT.1
  have hn2 := hT.2.1
  have ht := hT.2.2.1
  have g0 := skp_ge (t := t) (n := n) (a := a)
  have g5 := skp_b (t := t) (n := n) (a := a) ha.2 (by omega)
  have g6 := sm_strlen k
  have g7 : wdP t n (skp t n a) (strB k) → skp t n a + (strB k).length ≤ 1000 := fun z => by
    have z1 := z.1
    have z2 := ltE_rg (t := t) (n := n) (a := skp t n a)
    omega
  repeat' (first | refine hK _ _ ?_ | refine hN _ _ _ ?_ ?_ ?_ ?_ ?_ | simp only [w_aload, x_g1012_300, w_iconst, w_ifc, cI, Int.reduceToNat, w_call, w_if, x_g1011_300, w_fall, w_iload, w_ireturn, a227_0, a227_24, R32, List.getElem?_cons_zero, List.getElem?_cons_succ, List.set_cons_zero, List.set_cons_succ, List.cons_append, List.nil_append, List.replicate_succ, List.replicate_zero, List.take_succ_cons, List.take_zero, List.drop_succ_cons, List.drop_zero, List.reverse_cons, List.reverse_nil, List.length_cons, List.length_nil, Option.toList, true_and, and_true, eq_self, ↓reduceIte, not_true_eq_false, not_false_eq_true, true_or, or_true, tS_11, tS_12, tS_8, tS_9, tS_10, tS_13, tS_15, tS_16, tS_17, tS_18, tS_19, tS_301, tS_303, tS_305, tS_306, tS_u11, tS_u12, tS_tS] | refine q_223 hX hk hT ha (fun b9 e9 e8 => ?_) (fun b9 b8 e9 e8 e7 => ?_) | refine q_226 hT ?_ hl (fun v6 b6 f6 e6 e5 e4 e3 e2 => ?_) (fun v6 b6 e6 => ?_) | (refine q_224 (by unfold R32; omega) (fun b5 e4 => ?_); have e3 := e4.trans (if_pos rfl); clear e4; subst e3) | refine q_226f (by subst e9; unfold R32; omega) (by subst e9; omega) ?_ | with_reducible refine And.intro ?_ ?_ | with_reducible intro _)
  all_goals (try (first | omega | contradiction | ((try clear hK); (try clear hK0); (try clear hB); (try clear h9); (try clear h8); (try clear h7); first | done | omega | exact hl | exact (aftP_1 (by rw [← e9]; exact e8)).trans (by rw [← e9, ← e7]; exact e6) | (subst e9; omega) | (subst e9; have g8 := g7 e8; omega) | exact (aftP_0 (by rw [← e9]; exact e8)).trans (by rw [e9]) | omega)))
end Ref38
