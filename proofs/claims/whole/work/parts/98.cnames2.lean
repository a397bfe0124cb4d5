/-! ===== THE CLASS: changes from one to another one, safe names, two run together ===== -/
def FxE (c : Nat) (S T : Nat → Int → Int) : Prop := ∀ a, a ≠ c → T a = S a
theorem FxE_r {c : Nat} {S : Nat → Int → Int} : FxE c S S := fun _ _ => rfl
theorem FxE_u {c : Nat} {S T : Nat → Int → Int} {i v : Int} (h : FxE c S T) : FxE c S (upS T c i v) := fun a ha => (if_neg ha).trans (h a ha)
theorem up_lit {S : Nat → Int → Int} {a b : Nat} {i v : Int} (h : b ≠ a) : upS S a i v b = S b := if_neg h
def edA (P : Int → Int → Int) (p q n : Int) (T : Int → Int) (i : Int) : Prop := ∀ a b, 0 ≤ a → a < i → 0 ≤ b → b ≤ n → T (7 * a + b) = edZ P p q a b
def edB (P : Int → Int → Int) (p q : Int) (T : Int → Int) (i j : Int) : Prop := ∀ b, 0 ≤ b → b < j → T (7 * i + b) = edZ P p q i b
theorem edA_s {P : Int → Int → Int} {p q n i : Int} {T : Int → Int} (h : edA P p q n T i) (g : edB P p q T i (n + 1)) : edA P p q n T (i + 1) := fun a b a0 a1 b0 b1 => by
  by_cases z : a = i
  · subst z; exact g b b0 (by omega)
  · exact h a b a0 (by omega) b0 b1
theorem edB_s {P : Int → Int → Int} {p q i j v : Int} {T : Nat → Int → Int} (h : edB P p q (T 65) i j) (e : v = edZ P p q i j) : edB P p q (upS T 65 (7 * i + j) v 65) i (j + 1) := fun b b0 b1 => by
  rw [upS_at]
  by_cases z : b = j
  · rw [if_pos ⟨rfl, by omega⟩, z]; exact e
  · rw [if_neg (fun y => z (by omega))]; exact h b b0 (by omega)
theorem edA_u {P : Int → Int → Int} {p q n i j v : Int} {T : Nat → Int → Int} (hn : n ≤ 6) (j0 : 0 ≤ j) (h : edA P p q n (T 65) i) : edA P p q n (upS T 65 (7 * i + j) v 65) i := fun a b a0 a1 b0 b1 => by
  rw [upS_at, if_neg (by omega)]; exact h a b a0 a1 b0 b1
theorem mix_sym {P : Int → Int → Int} {p q : Int} (h : mixM P p q) : mixM P q p := by
  obtain ⟨h1, h2, h3⟩ := h
  refine ⟨h1.symm, ?_, fun k k0 k1 hk => ?_⟩
  · rw [← h1, ← h2]
    exact sumZ_congr fun k _ _ => by
      by_cases y : P p (2 + k) = P q (2 + k)
      · rw [if_pos y, if_pos y.symm]
      · rw [if_neg y, if_neg (fun z => y z.symm)]
  · have := h3 k k0 (by omega) (fun y => hk y.symm)
    unfold nxM at this ⊢
    omega
theorem mix_irr {P : Int → Int → Int} {p : Int} (hn : 0 ≤ P p 0) : ¬ mixM P p p := fun h => by
  obtain ⟨i, i0, i1, hi⟩ := dif_ex hn h.2.1
  exact hi rfl
theorem bt_hi0 : ∀ n : Fin 7, ∀ s : Fin 64, ∀ p : Fin 8, ((s : Nat) : Int) < pw (n : Nat) → (n : Nat) ≤ (p : Nat) → andI (shrI (s : Nat) (p : Nat)) 1 = 0 := by decide +kernel
theorem bit_top {n s p : Int} (n0 : 0 ≤ n) (n1 : n ≤ 6) (s0 : 0 ≤ s) (s1 : s < pw n) (p0 : n ≤ p) (p1 : p < 8) : ¬ bitB s p := by
  have q : pw n ≤ 64 := pw_le (q := 6) n0 n1
  have h := bt_hi0 ⟨n.toNat, by omega⟩ ⟨s.toNat, by omega⟩ ⟨p.toNat, by omega⟩
  simp only [Int.toNat_of_nonneg s0, Int.toNat_of_nonneg n0, Int.toNat_of_nonneg (show 0 ≤ p by omega)] at h
  have := h s1 (by omega)
  unfold bitB
  omega
def mxA (P : Int → Int → Int) (n : Int) (T : Int → Int) (i : Int) : Prop := ∀ p, 0 ≤ p → p < i → T p = setZ n (mixM P p)
theorem mxA_0 {P : Int → Int → Int} {n : Int} {T : Int → Int} : mxA P n T 0 := fun p p0 p1 => by omega
theorem mxA_s {P : Int → Int → Int} {n i : Int} {T : Int → Int} (h : mxA P n T i) (e : T i = setZ n (mixM P i)) : mxA P n T (i + 1) := fun p p0 p1 => by
  by_cases z : p = i
  · subst z; exact e
  · exact h p p0 (by omega)
theorem mxA_u {P : Int → Int → Int} {n i v : Int} {T : Nat → Int → Int} (h : mxA P n (T 67) i) : mxA P n (upS T 67 i v 67) i := fun p p0 p1 => by
  rw [upS_at, if_neg (by omega)]; exact h p p0 p1
theorem safe_is {P : Int → Int → Int} {n s : Int} {T : Int → Int} (n0 : 0 ≤ n ∧ n ≤ 6) (hz : ∀ p, 0 ≤ p → p < n → 0 ≤ P p 0) (h : mxA P n T n) (s0 : 0 ≤ s) (s1 : s < pw n) : noB (fun p => bitB s p ∧ andI (T p) s ≠ 0) 6 ↔ safeM P n s := by
  have q : pw n ≤ 64 := pw_le (q := 6) n0.1 n0.2
  have key : ∀ p, 0 ≤ p → p < n → (andI (T p) s ≠ 0 ↔ ∃ k, 0 ≤ k ∧ k < n ∧ mixM P p k ∧ bitB s k) := fun p p0 p1 => by
    have rg := setZ_lt (n := n) (c := mixM P p) n0.1
    rw [h p p0 p1, ne_eq, and_tell_i ⟨rg.1, by omega⟩ ⟨s0, by omega⟩]
    constructor
    · intro g
      refine Classical.byContradiction fun y => g fun k k0 k1 z => ?_
      have kn : k < n := by
        refine Decidable.byContradiction fun w => ?_
        exact bit_top n0.1 n0.2 s0 s1 (by omega : n ≤ k) (by omega) z.2
      exact y ⟨k, k0, kn, (bit_set (by omega) k0 kn).mp z.1, z.2⟩
    · intro ⟨k, k0, kn, m, b⟩ g
      exact g k k0 (by omega) ⟨(bit_set (by omega) k0 kn).mpr m, b⟩
  constructor
  · intro g p o o0 op pn ⟨b1, b2, m⟩
    exact g p (by omega) (by omega) ⟨b1, (key p (by omega) pn).mpr ⟨o, o0, by omega, m, b2⟩⟩
  · intro g p p0 p1 ⟨b, z⟩
    have pn : p < n := by
      refine Decidable.byContradiction fun w => ?_
      exact bit_top n0.1 n0.2 s0 s1 (by omega : n ≤ p) (by omega) b
    obtain ⟨k, k0, kn, m, bk⟩ := (key p p0 pn).mp z
    rcases Int.lt_trichotomy k p with y | y | y
    · exact g p k k0 y pn ⟨b, bk, m⟩
    · subst y; exact mix_irr (hz k k0 kn) m
    · exact g k p p0 y kn ⟨bk, b, mix_sym m⟩
theorem safe_0 {P : Int → Int → Int} {n : Int} (hn : n ≤ 6) : safeM P n 0 := fun p o o0 op pn ⟨b, _⟩ => by
  have := bt_0 ⟨p.toNat, by omega⟩
  simp only [Int.toNat_of_nonneg (show 0 ≤ p by omega)] at this
  unfold bitB at b
  omega
def apR (P : Int → Int → Int) (S T : Nat → Int → Int) (p b i : Int) : Prop := (∀ a, a ≠ 64 → a ≠ 66 → T a = S a) ∧ (∀ j, j ≠ 2 → T 64 j = S 64 j) ∧ T 64 2 = S 64 2 + i ∧ ∀ j, T 66 j = if S 64 2 ≤ j ∧ j < S 64 2 + i then P p (2 + (b + (j - S 64 2))) else S 66 j
theorem apR_0 {P : Int → Int → Int} {S : Nat → Int → Int} {p b : Int} : apR P S S p b 0 := ⟨fun _ _ _ => rfl, fun _ _ => rfl, by omega, fun j => by rw [if_neg (by omega)]⟩
theorem apR_s {P : Int → Int → Int} {S T : Nat → Int → Int} {p b i v x : Int} (h : apR P S T p b i) (i0 : 0 ≤ i) (hv : v = P p (2 + (b + i))) (hx : x = S 64 2 + i + 1) : apR P S (upS (upS T 66 (T 64 2) v) 64 2 x) p b (i + 1) := by
  obtain ⟨h1, h2, h3, h4⟩ := h
  refine ⟨fun a a1 a2 => ?_, fun j hj => ?_, ?_, fun j => ?_⟩
  · rw [up_lit a1, up_lit a2]; exact h1 a a1 a2
  · rw [upS_at, if_neg (fun y => hj y.2), up_lit (by decide)]; exact h2 j hj
  · rw [upS_at, if_pos ⟨rfl, rfl⟩, hx]; omega
  · rw [up_lit (by decide), upS_at, h3, h4]
    by_cases z : j = S 64 2 + i
    · rw [if_pos ⟨rfl, z⟩, if_pos (by omega), hv, z]
      exact congrArg (P p) (by omega)
    · rw [if_neg (fun y => z y.2)]
      by_cases y : S 64 2 ≤ j ∧ j < S 64 2 + i
      · rw [if_pos y, if_pos (by omega)]
      · rw [if_neg y, if_neg (by omega)]
/-- what two run together are -/
def tgO (P : Int → Int → Int) (S T : Nat → Int → Int) (p q : Int) : Prop := (∀ a, a ≠ 64 → a ≠ 66 → T a = S a) ∧ ∃ a b n, ((a = p ∧ b = q) ∨ (a = q ∧ b = p)) ∧ selA P p q a ∧ lenT P a b n ∧ (T 64 2 = n ∧ 0 ≤ n ∧ n ≤ 12) ∧ ∀ k, 0 ≤ k → k < n → T 66 k = if k < P a 0 then P a (2 + k) else P b (2 + k - n + P b 0)
theorem isOv_ex {P : Int → Int → Int} {p q : Int} : ∀ n : Nat, ∃ s, isOv P p q n s
  | 0 => ⟨0, Or.inl rfl, fun k k0 k1 k2 => by omega⟩
  | n + 1 => by
    obtain ⟨s, h1, h2⟩ := isOv_ex (P := P) (p := p) (q := q) n
    by_cases z : 0 < (n : Int) ∧ ovM P p q n n
    · exact ⟨n, Or.inr ⟨z.1, by omega, z.2⟩, fun k k0 k1 k2 => by omega⟩
    · refine ⟨s, ?_, fun k k0 k1 k2 => ?_⟩
      · rcases h1 with y | y
        · exact Or.inl y
        · exact Or.inr ⟨y.1, by omega, y.2.2⟩
      · by_cases w : k = n
        · subst w; exact fun x => z ⟨k2, x⟩
        · exact h2 k k0 (by omega) k2
theorem isOv_x {P : Int → Int → Int} {p q n : Int} (h : 0 ≤ n) : ∃ s, isOv P p q n s := by
  have := isOv_ex (P := P) (p := p) (q := q) n.toNat
  rw [Int.toNat_of_nonneg h] at this
  exact this
theorem mnM_sym {P : Int → Int → Int} {p q : Int} : mnM P p q = mnM P q p := by
  unfold mnM
  split <;> split <;> omega
theorem tg1 {P : Int → Int → Int} {S T : Nat → Int → Int} {p q : Int} (hp : 0 ≤ P p 0 ∧ P p 0 ≤ 6) (hq : 0 ≤ P q 0 ∧ P q 0 ≤ 6) (h : holdsM P p q 6) (g : apR P (upS S 64 2 0) T p 0 (P p 0)) : tgO P S T p q := by
  obtain ⟨g1, g2, g3, g4⟩ := g
  have e0 : upS S 64 2 0 64 2 = 0 := by rw [upS_at, if_pos ⟨rfl, rfl⟩]
  rw [e0] at g3 g4
  have mn : 0 ≤ mnM P q p + 1 := by unfold mnM; split <;> omega
  obtain ⟨s1, y1⟩ := isOv_x (P := P) (p := q) (q := p) mn
  obtain ⟨s2, y2⟩ := isOv_x (P := P) (p := p) (q := q) (n := mnM P p q + 1) (by rw [mnM_sym]; exact mn)
  refine ⟨fun a a1 a2 => (g1 a a1 a2).trans (up_lit a1), p, q, P p 0, Or.inl ⟨rfl, rfl⟩, ⟨s1, s2, y1, y2, Or.inl ⟨h, rfl⟩⟩, Or.inl ⟨h, rfl⟩, by omega, fun k k0 k1 => ?_⟩
  rw [g4, if_pos (by omega), if_pos k1]
  exact congrArg (P p) (by omega)
theorem tg2 {P : Int → Int → Int} {S T : Nat → Int → Int} {p q : Int} (hp : 0 ≤ P p 0 ∧ P p 0 ≤ 6) (hq : 0 ≤ P q 0 ∧ P q 0 ≤ 6) (h0 : ¬ holdsM P p q 6) (h : holdsM P q p 6) (g : apR P (upS S 64 2 0) T q 0 (P q 0)) : tgO P S T p q := by
  obtain ⟨g1, g2, g3, g4⟩ := g
  have e0 : upS S 64 2 0 64 2 = 0 := by rw [upS_at, if_pos ⟨rfl, rfl⟩]
  rw [e0] at g3 g4
  have mn : 0 ≤ mnM P q p + 1 := by unfold mnM; split <;> omega
  obtain ⟨s1, y1⟩ := isOv_x (P := P) (p := q) (q := p) mn
  obtain ⟨s2, y2⟩ := isOv_x (P := P) (p := p) (q := q) (n := mnM P p q + 1) (by rw [mnM_sym]; exact mn)
  refine ⟨fun a a1 a2 => (g1 a a1 a2).trans (up_lit a1), q, p, P q 0, Or.inr ⟨rfl, rfl⟩, ⟨s1, s2, y1, y2, Or.inr (Or.inl ⟨h0, h, rfl⟩)⟩, Or.inl ⟨h, rfl⟩, by omega, fun k k0 k1 => ?_⟩
  rw [g4, if_pos (by omega), if_pos k1]
  exact congrArg (P q) (by omega)
theorem isOv_rg {P : Int → Int → Int} {p q s : Int} (hp : 0 ≤ P p 0) (hq : 0 ≤ P q 0) (h : isOv P p q (mnM P p q + 1) s) : 0 ≤ s ∧ s ≤ P p 0 ∧ s ≤ P q 0 := by
  have m1 : mnM P p q ≤ P p 0 ∧ mnM P p q ≤ P q 0 := by unfold mnM; split <;> omega
  rcases h.1 with y | y <;> omega
theorem tg3 {P : Int → Int → Int} {S T U : Nat → Int → Int} {p q a b s s1 s2 : Int} (hp : 0 ≤ P p 0 ∧ P p 0 ≤ 6) (hq : 0 ≤ P q 0 ∧ P q 0 ≤ 6) (n1 : ¬ holdsM P p q 6) (n2 : ¬ holdsM P q p 6) (y1 : isOv P q p (mnM P q p + 1) s1) (y2 : isOv P p q (mnM P p q + 1) s2) (hab : (s2 < s1 ∧ a = q ∧ b = p ∧ s = s1) ∨ (s1 ≤ s2 ∧ a = p ∧ b = q ∧ s = s2)) (g : apR P (upS S 64 2 0) T a 0 (P a 0)) (k : apR P T U b s (P b 0 - s)) : tgO P S U p q := by
  obtain ⟨g1, g2, g3, g4⟩ := g
  obtain ⟨k1, k2, k3, k4⟩ := k
  have e0 : upS S 64 2 0 64 2 = 0 := by rw [upS_at, if_pos ⟨rfl, rfl⟩]
  rw [e0] at g3 g4
  have r1 := isOv_rg hq.1 hp.1 y1
  have r2 := isOv_rg hp.1 hq.1 y2
  have ra : 0 ≤ P a 0 ∧ P a 0 ≤ 6 ∧ 0 ≤ P b 0 ∧ P b 0 ≤ 6 ∧ 0 ≤ s ∧ s ≤ P a 0 ∧ s ≤ P b 0 := by
    rcases hab with ⟨_, ea, eb, es⟩ | ⟨_, ea, eb, es⟩ <;> rw [ea, eb, es] <;> omega
  refine ⟨fun c a1 a2 => (k1 c a1 a2).trans ((g1 c a1 a2).trans (up_lit a1)), a, b, P a 0 + P b 0 - s, ?_, ⟨s1, s2, y1, y2, Or.inr (Or.inr ⟨n1, n2, ?_⟩)⟩, Or.inr ⟨?_, s, ?_, by omega, by omega, by omega, rfl⟩, ⟨by omega, by omega, by omega⟩, fun c c0 c1 => ?_⟩
  · rcases hab with ⟨_, ea, eb, es⟩ | ⟨_, ea, eb, es⟩
    · exact Or.inr ⟨ea, eb⟩
    · exact Or.inl ⟨ea, eb⟩
  · rcases hab with ⟨y, ea, eb, es⟩ | ⟨y, ea, eb, es⟩
    · exact Or.inl ⟨y, ea⟩
    · exact Or.inr ⟨y, ea⟩
  · rcases hab with ⟨_, ea, eb, es⟩ | ⟨_, ea, eb, es⟩
    · rw [ea, eb]; exact n2
    · rw [ea, eb]; exact n1
  · rcases hab with ⟨_, ea, eb, es⟩ | ⟨_, ea, eb, es⟩
    · rw [ea, eb, es]; exact y1
    · rw [ea, eb, es]; exact y2
  · rw [k4, g4, g3]
    by_cases z : c < P a 0
    · rw [if_neg (by omega), if_pos (by omega), if_pos z]
      exact congrArg (P a) (by omega)
    · rw [if_pos (by omega), if_neg z]
      exact congrArg (P b) (by omega)
theorem yn_rg {x : Int} {c : Prop} (h : yn x c) : 0 ≤ x ∧ x ≤ 1 := by
  rcases h with ⟨y, _⟩ | ⟨y, _⟩ <;> omega
section Names6
variable {tb : Tab} {d : Nat} {m : AM} {K : Out → AM → Prop} {S : Nat → Int → Int} {w : Nat} {r : Int → Int}
theorem x_alen_66 {tb : Tab} {hs : Nat → Option (Nat × Nat)} {C : Nat → List AV → AM → (Out → AM → Prop) → Prop} {Q : Out → AM → Prop} {J : Nat → List AV → List AV → AM → Prop} {is : List Instr} {ls st : List AV} : wpB tb hs C Q J (.arraylength :: is) ls (vr 66 :: st) (X S m) = wpB tb hs C Q J is ls (vi 12 :: st) (X S m) := x_alen isA_66 (by decide)
theorem k66_0 : pg.1 66 0 = [.bipush 7, .istore 4, .bipush 0, .istore 5, .jsr 7] := rfl
theorem a66_0 {tb : Tab} {d : Nat} {K : Out → AM → Prop} {ls st : List AV} {m : AM} : At tb d 66 K 0 ls st m = wpB tb (pg.2.1 66) (Runs tb pg d) K (At tb d 66 K) [.bipush 7, .istore 4, .bipush 0, .istore 5, .jsr 7] ls st m := At.eq k66_0
theorem k66_7 : pg.1 66 7 = [.iload 5, .aload 1, .getfield 805, .iload 2, .iaload, .if_icmp .gt 196, .bipush 0, .istore 6, .jsr 21] := rfl
theorem a66_7 {tb : Tab} {d : Nat} {K : Out → AM → Prop} {ls st : List AV} {m : AM} : At tb d 66 K 7 ls st m = wpB tb (pg.2.1 66) (Runs tb pg d) K (At tb d 66 K) [.iload 5, .aload 1, .getfield 805, .iload 2, .iaload, .if_icmp .gt 196, .bipush 0, .istore 6, .jsr 21] ls st m := At.eq k66_7
theorem k66_21 : pg.1 66 21 = [.iload 6, .aload 1, .getfield 805, .iload 3, .iaload, .if_icmp .gt 190, .iload 5, .ifCond .ne 42, .iload 6, .goto 54] := rfl
theorem a66_21 {tb : Tab} {d : Nat} {K : Out → AM → Prop} {ls st : List AV} {m : AM} : At tb d 66 K 21 ls st m = wpB tb (pg.2.1 66) (Runs tb pg d) K (At tb d 66 K) [.iload 6, .aload 1, .getfield 805, .iload 3, .iaload, .if_icmp .gt 190, .iload 5, .ifCond .ne 42, .iload 6, .goto 54] ls st m := At.eq k66_21
theorem k66_42 : pg.1 66 42 = [.iload 6, .ifCond .ne 52, .iload 5, .goto 54] := rfl
theorem a66_42 {tb : Tab} {d : Nat} {K : Out → AM → Prop} {ls st : List AV} {m : AM} : At tb d 66 K 42 ls st m = wpB tb (pg.2.1 66) (Runs tb pg d) K (At tb d 66 K) [.iload 6, .ifCond .ne 52, .iload 5, .goto 54] ls st m := At.eq k66_42
theorem k66_52 : pg.1 66 52 = [.bipush 12, .jsr 54] := rfl
theorem a66_52 {tb : Tab} {d : Nat} {K : Out → AM → Prop} {ls st : List AV} {m : AM} : At tb d 66 K 52 ls st m = wpB tb (pg.2.1 66) (Runs tb pg d) K (At tb d 66 K) [.bipush 12, .jsr 54] ls st m := At.eq k66_52
theorem k66_54 : pg.1 66 54 = [.istore 7, .iload 5, .ifCond .le 169, .iload 6, .ifCond .le 169, .aload 1, .iload 2, .iload 5, .bipush 1, .isub, .invokeinterface 56 3, .aload 1, .iload 3, .iload 6, .bipush 1, .isub, .invokeinterface 56 3, .if_icmp .ne 91, .bipush 0, .goto 92] := rfl
theorem a66_54 {tb : Tab} {d : Nat} {K : Out → AM → Prop} {ls st : List AV} {m : AM} : At tb d 66 K 54 ls st m = wpB tb (pg.2.1 66) (Runs tb pg d) K (At tb d 66 K) [.istore 7, .iload 5, .ifCond .le 169, .iload 6, .ifCond .le 169, .aload 1, .iload 2, .iload 5, .bipush 1, .isub, .invokeinterface 56 3, .aload 1, .iload 3, .iload 6, .bipush 1, .isub, .invokeinterface 56 3, .if_icmp .ne 91, .bipush 0, .goto 92] ls st m := At.eq k66_54
theorem k66_91 : pg.1 66 91 = [.bipush 1, .jsr 92] := rfl
theorem a66_91 {tb : Tab} {d : Nat} {K : Out → AM → Prop} {ls st : List AV} {m : AM} : At tb d 66 K 91 ls st m = wpB tb (pg.2.1 66) (Runs tb pg d) K (At tb d 66 K) [.bipush 1, .jsr 92] ls st m := At.eq k66_91
theorem k66_92 : pg.1 66 92 = [.istore 8, .iload 7, .aload 0, .getfield 500, .iload 4, .iload 5, .bipush 1, .isub, .imul, .iload 6, .iadd, .bipush 1, .isub, .iaload, .iload 8, .iadd, .invokestatic 0, .istore 7, .iload 7, .aload 0, .getfield 500, .iload 4, .iload 5, .bipush 1, .isub, .imul, .iload 6, .iadd, .iaload, .bipush 1, .iadd, .invokestatic 0, .istore 7, .iload 7, .aload 0, .getfield 500, .iload 4, .iload 5, .imul, .iload 6, .iadd, .bipush 1, .isub, .iaload, .bipush 1, .iadd, .invokestatic 0, .istore 7, .jsr 169] := rfl
theorem a66_92 {tb : Tab} {d : Nat} {K : Out → AM → Prop} {ls st : List AV} {m : AM} : At tb d 66 K 92 ls st m = wpB tb (pg.2.1 66) (Runs tb pg d) K (At tb d 66 K) [.istore 8, .iload 7, .aload 0, .getfield 500, .iload 4, .iload 5, .bipush 1, .isub, .imul, .iload 6, .iadd, .bipush 1, .isub, .iaload, .iload 8, .iadd, .invokestatic 0, .istore 7, .iload 7, .aload 0, .getfield 500, .iload 4, .iload 5, .bipush 1, .isub, .imul, .iload 6, .iadd, .iaload, .bipush 1, .iadd, .invokestatic 0, .istore 7, .iload 7, .aload 0, .getfield 500, .iload 4, .iload 5, .imul, .iload 6, .iadd, .bipush 1, .isub, .iaload, .bipush 1, .iadd, .invokestatic 0, .istore 7, .jsr 169] ls st m := At.eq k66_92
theorem k66_169 : pg.1 66 169 = [.aload 0, .getfield 500, .iload 4, .iload 5, .imul, .iload 6, .iadd, .iload 7, .iastore, .iinc 6 1, .goto 21] := rfl
theorem a66_169 {tb : Tab} {d : Nat} {K : Out → AM → Prop} {ls st : List AV} {m : AM} : At tb d 66 K 169 ls st m = wpB tb (pg.2.1 66) (Runs tb pg d) K (At tb d 66 K) [.aload 0, .getfield 500, .iload 4, .iload 5, .imul, .iload 6, .iadd, .iload 7, .iastore, .iinc 6 1, .goto 21] ls st m := At.eq k66_169
theorem k66_190 : pg.1 66 190 = [.iinc 5 1, .goto 7] := rfl
theorem a66_190 {tb : Tab} {d : Nat} {K : Out → AM → Prop} {ls st : List AV} {m : AM} : At tb d 66 K 190 ls st m = wpB tb (pg.2.1 66) (Runs tb pg d) K (At tb d 66 K) [.iinc 5 1, .goto 7] ls st m := At.eq k66_190
theorem k66_196 : pg.1 66 196 = [.aload 0, .getfield 500, .iload 4, .aload 1, .getfield 805, .iload 2, .iaload, .imul, .aload 1, .getfield 805, .iload 3, .iaload, .iadd, .iaload, .ireturn] := rfl
theorem a66_196 {tb : Tab} {d : Nat} {K : Out → AM → Prop} {ls st : List AV} {m : AM} : At tb d 66 K 196 ls st m = wpB tb (pg.2.1 66) (Runs tb pg d) K (At tb d 66 K) [.aload 0, .getfield 500, .iload 4, .aload 1, .getfield 805, .iload 2, .iaload, .imul, .aload 1, .getfield 805, .iload 3, .iaload, .iadd, .iaload, .ireturn] ls st m := At.eq k66_196
theorem w_66 {p q : Int} (hw : isW w) (hR : RW S w r) (hA : AB r) (hV : GV r) (hp : 0 ≤ p ∧ p < r 4) (hq : 0 ≤ q ∧ q < r 4) (hK : ∀ T v, v = edZ (pr r) p q (pr r p 0) (pr r q 0) → FxE 65 S T → 0 ≤ v → v ≤ 12 → K (.inl (some (vi v))) (X T m)) : Runs tb pg (d + 2) 66 [vr 64, vr w, vi p, vi q] (X S m) K := by
  have b3 := hA.2.1.1
  have b4 := hA.2.1.2.1
  have b5 := hA.2.1.2.2.1
  have e0 := hR.1.1
  have e4 := hR.1.2.1
  have zp9 := AB_pp hA hp.1 hp.2
  have zq9 := AB_pp hA hq.1 hq.2
  have hL7 : (fun i : Int => ∀ (z6 : AV) (z7 : AV) (z8 : AV) (T : Nat → Int → Int), (FxE 65 S T) → (edA (pr r) p q (pr r q 0) (T 65) i) → At tb (d + 1) 66 K 7 [vr 64, vr w, vi p, vi q, vi 7, vi i, z6, z7, z8] [] (X T m)) 0 := by
    refine loopZ (fun i : Int => ∀ (z6 : AV) (z7 : AV) (z8 : AV) (T : Nat → Int → Int), (FxE 65 S T) → (edA (pr r) p q (pr r q 0) (T 65) i) → At tb (d + 1) 66 K 7 [vr 64, vr w, vi p, vi q, vi 7, vi i, z6, z7, z8] [] (X T m)) (pr r p 0 + 1) (by omega) ?_ ?_
    · intro i h0 h1 h9 z6 z7 z8 T hT hv
      have hW : RW T w r := RW_1 hw (by unfold scr; omega) hR hT
      have t4p : T (w + 4) p = pr r p 0 := (hW.2.2.1 p hp.1 hp.2).1
      have t4q : T (w + 4) q = pr r q 0 := (hW.2.2.1 q hq.1 hq.2).1
      have zp := AB_pp hA hp.1 hp.2
      have zq := AB_pp hA hq.1 hq.2

      have hL21 : (fun j : Int => ∀ (z7 : AV) (z8 : AV) (T : Nat → Int → Int), (FxE 65 S T) → (edA (pr r) p q (pr r q 0) (T 65) i) → (edB (pr r) p q (T 65) i j) → At tb (d + 1) 66 K 21 [vr 64, vr w, vi p, vi q, vi 7, vi i, vi j, z7, z8] [] (X T m)) 0 := by
        refine loopZ (fun j : Int => ∀ (z7 : AV) (z8 : AV) (T : Nat → Int → Int), (FxE 65 S T) → (edA (pr r) p q (pr r q 0) (T 65) i) → (edB (pr r) p q (T 65) i j) → At tb (d + 1) 66 K 21 [vr 64, vr w, vi p, vi q, vi 7, vi i, vi j, z7, z8] [] (X T m)) (pr r q 0 + 1) (by omega) ?_ ?_
        · intro j j0 j1 h8 z7 z8 T hT hv hu
          have hW : RW T w r := RW_1 hw (by unfold scr; omega) hR hT
          have t4p : T (w + 4) p = pr r p 0 := (hW.2.2.1 p hp.1 hp.2).1
          have t4q : T (w + 4) q = pr r q 0 := (hW.2.2.1 q hq.1 hq.2).1
          have zp := AB_pp hA hp.1 hp.2
          have zq := AB_pp hA hq.1 hq.2
          have el := edZ_le (P := pr r) (p := p) (o := q) h0 j0
          have e0 := edZ_0 (P := pr r) (p := p) (o := q) j0
          have e9 := fun (y : 0 < i) => edZ_1 (P := pr r) (p := p) (o := q) y
          have es := fun (y : 0 < i) (z : 0 < j) => edZ_s (P := pr r) (p := p) (o := q) y z
          have e1 : 0 < i → 0 < j → T 65 (7 * (i - 1) + j - 1) = edZ (pr r) p q (i - 1) (j - 1) := fun y z => by rw [show 7 * (i - 1) + j - 1 = 7 * (i - 1) + (j - 1) by omega]; exact hv _ _ (by omega) (by omega) (by omega) (by omega)
          have e2 : 0 < i → T 65 (7 * (i - 1) + j) = edZ (pr r) p q (i - 1) j := fun y => hv _ _ (by omega) (by omega) (by omega) (by omega)
          have e3 : 0 < j → T 65 (7 * i + j - 1) = edZ (pr r) p q i (j - 1) := fun y => by rw [show 7 * i + j - 1 = 7 * i + (j - 1) by omega]; exact hu _ (by omega) (by omega)
          have l1 := fun (y : 0 < i) (z : 0 < j) => edZ_le (P := pr r) (p := p) (o := q) (i := i - 1) (j := j - 1) (by omega) (by omega)
          have l2 := fun (y : 0 < i) => edZ_le (P := pr r) (p := p) (o := q) (i := i - 1) (j := j) (by omega) (by omega)
          have l3 := fun (z : 0 < j) => edZ_le (P := pr r) (p := p) (o := q) (i := i) (j := j - 1) (by omega) (by omega)
          rw [a66_21]
          repeat' (first | omega | with_reducible refine h8 _ _ _ ?_ ?_ ?_ | simp only [w_iconst, w_istore, w_fall, Int.reduceToNat, w_iload, w_aload, x_g805_w0, x_iald, w_ialoads, w_ialoadw, w_ifc, cI, w_if, w_goto, w_isub, w_call, x_g500_64, w_imul, w_iadd, w_min, x_iast, w_iinc, lgB, Nat.reduceSub, w_ireturn, isA_w1, isA_w2, isA_w3, isA_w4, isA_w5, isA_w6, isA_w7, isA_w8, isA_w10, isA_w11, isA_w12, isA_w14, isA_w15, isA_w16, len_w1, len_w2, len_w3, len_w4, len_w5, len_w6, len_w7, len_w8, len_w10, len_w11, len_w12, len_w14, len_w15, len_w16, isA_65, len_65, isA_66, len_66, isA_67, len_67, isA_68, len_68, isA_69, len_69, Int.cast_ofNat_Int, a66_0, a66_42, a66_52, a66_54, a66_91, a66_92, a66_169, a66_190, a66_196, R32, List.getElem?_cons_zero, List.getElem?_cons_succ, List.set_cons_zero, List.set_cons_succ, List.cons_append, List.nil_append, List.replicate_succ, List.replicate_zero, List.take_succ_cons, List.take_zero, List.drop_succ_cons, List.drop_zero, List.reverse_cons, List.reverse_nil, List.length_cons, List.length_nil, Option.toList, true_and, and_true, eq_self, ↓reduceIte, not_true_eq_false, not_false_eq_true, true_or, or_true, hw] | with_reducible refine w_56 hw hW hA hV hp ⟨?_, ?_⟩ (fun v1 x1 y1 u1 => ?_) | with_reducible refine w_56 hw hW hA hV hq ⟨?_, ?_⟩ (fun v2 x2 y2 u2 => ?_) | (have ya : 0 < i := (by omega); have yb : 0 < j := (by omega); have f1 := e1 ya yb; have f2 := e2 ya; have f3 := e3 yb; have g1 := l1 ya yb; have g2 := l2 ya; have g3 := l3 yb; have gs := es ya yb; rw [← x1, ← x2] at gs; clear e1 e2 e3 l1 l2 l3 es) | with_reducible refine And.intro ?_ ?_ | with_reducible intro _)
          all_goals (try (first | omega | contradiction | exact FxE_u hT | exact edA_u (by omega) j0 hv | (refine edB_s hu ?_; first | (rw [show i = 0 by omega, e0]) | (rw [show j = 0 by omega, e9 (by omega)]) | (rw [show i = 0 by omega, show j = 0 by omega, edZ_0 (by omega)]) | (rw [gs]; grind)) | grind))
        · intro z7 z8 T hT hv hu
          have hW : RW T w r := RW_1 hw (by unfold scr; omega) hR hT
          have t4p : T (w + 4) p = pr r p 0 := (hW.2.2.1 p hp.1 hp.2).1
          have t4q : T (w + 4) q = pr r q 0 := (hW.2.2.1 q hq.1 hq.2).1
          have zp := AB_pp hA hp.1 hp.2
          have zq := AB_pp hA hq.1 hq.2

          rw [a66_21]
          repeat' (first | omega | with_reducible refine h9 _ _ _ _ ?_ ?_ | simp only [w_iconst, w_istore, w_fall, Int.reduceToNat, w_iload, w_aload, x_g805_w0, x_iald, w_ialoads, w_ialoadw, w_ifc, cI, w_if, w_goto, w_isub, w_call, x_g500_64, w_imul, w_iadd, w_min, x_iast, w_iinc, lgB, Nat.reduceSub, w_ireturn, isA_w1, isA_w2, isA_w3, isA_w4, isA_w5, isA_w6, isA_w7, isA_w8, isA_w10, isA_w11, isA_w12, isA_w14, isA_w15, isA_w16, len_w1, len_w2, len_w3, len_w4, len_w5, len_w6, len_w7, len_w8, len_w10, len_w11, len_w12, len_w14, len_w15, len_w16, isA_65, len_65, isA_66, len_66, isA_67, len_67, isA_68, len_68, isA_69, len_69, Int.cast_ofNat_Int, a66_0, a66_42, a66_52, a66_54, a66_91, a66_92, a66_169, a66_190, a66_196, R32, List.getElem?_cons_zero, List.getElem?_cons_succ, List.set_cons_zero, List.set_cons_succ, List.cons_append, List.nil_append, List.replicate_succ, List.replicate_zero, List.take_succ_cons, List.take_zero, List.drop_succ_cons, List.drop_zero, List.reverse_cons, List.reverse_nil, List.length_cons, List.length_nil, Option.toList, true_and, and_true, eq_self, ↓reduceIte, not_true_eq_false, not_false_eq_true, true_or, or_true, hw] | with_reducible refine w_56 hw hW hA hV hp ⟨?_, ?_⟩ (fun v1 x1 y1 u1 => ?_) | with_reducible refine w_56 hw hW hA hV hq ⟨?_, ?_⟩ (fun v2 x2 y2 u2 => ?_) | (have ya : 0 < i := (by omega); have yb : 0 < j := (by omega); have f1 := e1 ya yb; have f2 := e2 ya; have f3 := e3 yb; have g1 := l1 ya yb; have g2 := l2 ya; have g3 := l3 yb; have gs := es ya yb; rw [← x1, ← x2] at gs; clear e1 e2 e3 l1 l2 l3 es) | with_reducible refine And.intro ?_ ?_ | with_reducible intro _)
          all_goals (try (first | omega | contradiction | exact hT | exact edA_s hv hu))
      rw [a66_7]
      repeat' (first | omega | with_reducible refine h9 _ _ _ _ ?_ ?_ | with_reducible refine hL21 _ _ _ ?_ ?_ ?_ | simp only [w_iconst, w_istore, w_fall, Int.reduceToNat, w_iload, w_aload, x_g805_w0, x_iald, w_ialoads, w_ialoadw, w_ifc, cI, w_if, w_goto, w_isub, w_call, x_g500_64, w_imul, w_iadd, w_min, x_iast, w_iinc, lgB, Nat.reduceSub, w_ireturn, isA_w1, isA_w2, isA_w3, isA_w4, isA_w5, isA_w6, isA_w7, isA_w8, isA_w10, isA_w11, isA_w12, isA_w14, isA_w15, isA_w16, len_w1, len_w2, len_w3, len_w4, len_w5, len_w6, len_w7, len_w8, len_w10, len_w11, len_w12, len_w14, len_w15, len_w16, isA_65, len_65, isA_66, len_66, isA_67, len_67, isA_68, len_68, isA_69, len_69, Int.cast_ofNat_Int, a66_0, a66_42, a66_52, a66_54, a66_91, a66_92, a66_169, a66_190, a66_196, R32, List.getElem?_cons_zero, List.getElem?_cons_succ, List.set_cons_zero, List.set_cons_succ, List.cons_append, List.nil_append, List.replicate_succ, List.replicate_zero, List.take_succ_cons, List.take_zero, List.drop_succ_cons, List.drop_zero, List.reverse_cons, List.reverse_nil, List.length_cons, List.length_nil, Option.toList, true_and, and_true, eq_self, ↓reduceIte, not_true_eq_false, not_false_eq_true, true_or, or_true, hw] | with_reducible refine And.intro ?_ ?_ | with_reducible intro _)
      all_goals (try (first | omega | contradiction | exact hT | exact hv | (intro b b0 b1; omega)))
    · intro z6 z7 z8 T hT hv
      have hW : RW T w r := RW_1 hw (by unfold scr; omega) hR hT
      have t4p : T (w + 4) p = pr r p 0 := (hW.2.2.1 p hp.1 hp.2).1
      have t4q : T (w + 4) q = pr r q 0 := (hW.2.2.1 q hq.1 hq.2).1
      have zp := AB_pp hA hp.1 hp.2
      have zq := AB_pp hA hq.1 hq.2
      have el := edZ_le (P := pr r) (p := p) (o := q) (i := pr r p 0) (j := pr r q 0) (by omega) (by omega)
      have ev := hv (pr r p 0) (pr r q 0) (by omega) (by omega) (by omega) (by omega)
      rw [a66_7]
      repeat' (first | omega | (refine hK _ _ ?_ hT ?_ ?_) | simp only [w_iconst, w_istore, w_fall, Int.reduceToNat, w_iload, w_aload, x_g805_w0, x_iald, w_ialoads, w_ialoadw, w_ifc, cI, w_if, w_goto, w_isub, w_call, x_g500_64, w_imul, w_iadd, w_min, x_iast, w_iinc, lgB, Nat.reduceSub, w_ireturn, isA_w1, isA_w2, isA_w3, isA_w4, isA_w5, isA_w6, isA_w7, isA_w8, isA_w10, isA_w11, isA_w12, isA_w14, isA_w15, isA_w16, len_w1, len_w2, len_w3, len_w4, len_w5, len_w6, len_w7, len_w8, len_w10, len_w11, len_w12, len_w14, len_w15, len_w16, isA_65, len_65, isA_66, len_66, isA_67, len_67, isA_68, len_68, isA_69, len_69, Int.cast_ofNat_Int, a66_0, a66_42, a66_52, a66_54, a66_91, a66_92, a66_169, a66_190, a66_196, R32, List.getElem?_cons_zero, List.getElem?_cons_succ, List.set_cons_zero, List.set_cons_succ, List.cons_append, List.nil_append, List.replicate_succ, List.replicate_zero, List.take_succ_cons, List.take_zero, List.drop_succ_cons, List.drop_zero, List.reverse_cons, List.reverse_nil, List.length_cons, List.length_nil, Option.toList, true_and, and_true, eq_self, ↓reduceIte, not_true_eq_false, not_false_eq_true, true_or, or_true, hw] | with_reducible refine And.intro ?_ ?_ | with_reducible intro _)
      all_goals (try (first | omega | contradiction | (rw [t4p, t4q]; omega)))
  refine Runs.of (al := [vr 64, vr w, vi p, vi q]) (n := 5) ⟨64, _, _, rfl, xo_64⟩ rfl rfl trivial ?_
  repeat' (first | omega | with_reducible refine hL7 _ _ _ _ ?_ ?_ | simp only [w_iconst, w_istore, w_fall, Int.reduceToNat, w_iload, w_aload, x_g805_w0, x_iald, w_ialoads, w_ialoadw, w_ifc, cI, w_if, w_goto, w_isub, w_call, x_g500_64, w_imul, w_iadd, w_min, x_iast, w_iinc, lgB, Nat.reduceSub, w_ireturn, isA_w1, isA_w2, isA_w3, isA_w4, isA_w5, isA_w6, isA_w7, isA_w8, isA_w10, isA_w11, isA_w12, isA_w14, isA_w15, isA_w16, len_w1, len_w2, len_w3, len_w4, len_w5, len_w6, len_w7, len_w8, len_w10, len_w11, len_w12, len_w14, len_w15, len_w16, isA_65, len_65, isA_66, len_66, isA_67, len_67, isA_68, len_68, isA_69, len_69, Int.cast_ofNat_Int, a66_0, a66_42, a66_52, a66_54, a66_91, a66_92, a66_169, a66_190, a66_196, R32, List.getElem?_cons_zero, List.getElem?_cons_succ, List.set_cons_zero, List.set_cons_succ, List.cons_append, List.nil_append, List.replicate_succ, List.replicate_zero, List.take_succ_cons, List.take_zero, List.drop_succ_cons, List.drop_zero, List.reverse_cons, List.reverse_nil, List.length_cons, List.length_nil, Option.toList, true_and, and_true, eq_self, ↓reduceIte, not_true_eq_false, not_false_eq_true, true_or, or_true, hw] | with_reducible refine And.intro ?_ ?_ | with_reducible intro _)
  all_goals (try (first | omega | (exfalso; assumption) | exact FxE_r | (intro a b a0 a1; omega)))
theorem k70_0 : pg.1 70 0 = [.bipush 0, .istore 2, .jsr 2] := rfl
theorem a70_0 {tb : Tab} {d : Nat} {K : Out → AM → Prop} {ls st : List AV} {m : AM} : At tb d 70 K 0 ls st m = wpB tb (pg.2.1 70) (Runs tb pg d) K (At tb d 70 K) [.bipush 0, .istore 2, .jsr 2] ls st m := At.eq k70_0
theorem k70_2 : pg.1 70 2 = [.iload 2, .bipush 6, .if_icmp .ge 36, .iload 1, .iload 2, .ishr, .bipush 1, .iand, .bipush 1, .if_icmp .ne 30, .aload 0, .getfield 503, .iload 2, .iaload, .iload 1, .iand, .ifCond .eq 30, .bipush 0, .freturn] := rfl
theorem a70_2 {tb : Tab} {d : Nat} {K : Out → AM → Prop} {ls st : List AV} {m : AM} : At tb d 70 K 2 ls st m = wpB tb (pg.2.1 70) (Runs tb pg d) K (At tb d 70 K) [.iload 2, .bipush 6, .if_icmp .ge 36, .iload 1, .iload 2, .ishr, .bipush 1, .iand, .bipush 1, .if_icmp .ne 30, .aload 0, .getfield 503, .iload 2, .iaload, .iload 1, .iand, .ifCond .eq 30, .bipush 0, .freturn] ls st m := At.eq k70_2
theorem k70_30 : pg.1 70 30 = [.iinc 2 1, .goto 2] := rfl
theorem a70_30 {tb : Tab} {d : Nat} {K : Out → AM → Prop} {ls st : List AV} {m : AM} : At tb d 70 K 30 ls st m = wpB tb (pg.2.1 70) (Runs tb pg d) K (At tb d 70 K) [.iinc 2 1, .goto 2] ls st m := At.eq k70_30
theorem k70_36 : pg.1 70 36 = [.bipush 1, .freturn] := rfl
theorem a70_36 {tb : Tab} {d : Nat} {K : Out → AM → Prop} {ls st : List AV} {m : AM} : At tb d 70 K 36 ls st m = wpB tb (pg.2.1 70) (Runs tb pg d) K (At tb d 70 K) [.bipush 1, .freturn] ls st m := At.eq k70_36
theorem w_70 {s : Int} (hs : 0 ≤ s ∧ s < 64) (hK : ∀ v, yn v (noB (fun p => bitB s p ∧ andI (S 67 p) s ≠ 0) 6) → K (.inl (some (vi v))) (X S m)) : Runs tb pg (d + 1) 70 [vr 64, vi s] (X S m) K := by
  have hL2 : (fun i : Int => (noB (fun p => bitB s p ∧ andI (S 67 p) s ≠ 0) i) → At tb d 70 K 2 [vr 64, vi s, vi i] [] (X S m)) 0 := by
    refine loopZ (fun i : Int => (noB (fun p => bitB s p ∧ andI (S 67 p) s ≠ 0) i) → At tb d 70 K 2 [vr 64, vi s, vi i] [] (X S m)) (6) (by omega) ?_ ?_
    · intro i h0 h1 h9  hn
      have ad := and_rg (shrI s i) 1
      have ad2 := and_rg (S 67 i) s
      have bb : bitB s i ↔ andI (shrI s i) 1 = 1 := Iff.rfl
      rw [a70_2]
      repeat' (first | omega | with_reducible refine h9  ?_ | with_reducible refine hK _ ?_ | simp only [w_iconst, w_istore, w_fall, Int.reduceToNat, w_iload, w_ifc, cI, w_ishr, w_iand, w_aload, x_g503_64, x_iald, w_ialoads, w_ialoadw, w_if, w_zreturn, w_iinc, lgB, Nat.reduceSub, w_goto, isA_w1, isA_w2, isA_w3, isA_w4, isA_w5, isA_w6, isA_w7, isA_w8, isA_w10, isA_w11, isA_w12, isA_w14, isA_w15, isA_w16, len_w1, len_w2, len_w3, len_w4, len_w5, len_w6, len_w7, len_w8, len_w10, len_w11, len_w12, len_w14, len_w15, len_w16, isA_65, len_65, isA_66, len_66, isA_67, len_67, isA_68, len_68, isA_69, len_69, Int.cast_ofNat_Int, a70_0, a70_30, a70_36, R32, List.getElem?_cons_zero, List.getElem?_cons_succ, List.set_cons_zero, List.set_cons_succ, List.cons_append, List.nil_append, List.replicate_succ, List.replicate_zero, List.take_succ_cons, List.take_zero, List.drop_succ_cons, List.drop_zero, List.reverse_cons, List.reverse_nil, List.length_cons, List.length_nil, Option.toList, true_and, and_true, eq_self, ↓reduceIte, not_true_eq_false, not_false_eq_true, true_or, or_true] | with_reducible refine And.intro ?_ ?_ | with_reducible intro _)
      all_goals (try (first | omega | contradiction | (exact noB_s hn (fun y => by have ya := bb.mp y.1; have yb := y.2; omega)) | (exact Or.inr ⟨rfl, fun y => y i h0 h1 ⟨bb.mpr (by omega), by omega⟩⟩)))
    · intro  hn
      rw [a70_2]
      repeat' (first | omega | (exact hK _ (Or.inl ⟨rfl, hn⟩)) | simp only [w_iconst, w_istore, w_fall, Int.reduceToNat, w_iload, w_ifc, cI, w_ishr, w_iand, w_aload, x_g503_64, x_iald, w_ialoads, w_ialoadw, w_if, w_zreturn, w_iinc, lgB, Nat.reduceSub, w_goto, isA_w1, isA_w2, isA_w3, isA_w4, isA_w5, isA_w6, isA_w7, isA_w8, isA_w10, isA_w11, isA_w12, isA_w14, isA_w15, isA_w16, len_w1, len_w2, len_w3, len_w4, len_w5, len_w6, len_w7, len_w8, len_w10, len_w11, len_w12, len_w14, len_w15, len_w16, isA_65, len_65, isA_66, len_66, isA_67, len_67, isA_68, len_68, isA_69, len_69, Int.cast_ofNat_Int, a70_0, a70_30, a70_36, R32, List.getElem?_cons_zero, List.getElem?_cons_succ, List.set_cons_zero, List.set_cons_succ, List.cons_append, List.nil_append, List.replicate_succ, List.replicate_zero, List.take_succ_cons, List.take_zero, List.drop_succ_cons, List.drop_zero, List.reverse_cons, List.reverse_nil, List.length_cons, List.length_nil, Option.toList, true_and, and_true, eq_self, ↓reduceIte, not_true_eq_false, not_false_eq_true, true_or, or_true] | with_reducible refine And.intro ?_ ?_ | with_reducible intro _)
      all_goals (try (first | omega | contradiction | omega))
  refine Runs.of (al := [vr 64, vi s]) (n := 1) ⟨64, _, _, rfl, xo_64⟩ rfl rfl trivial ?_
  repeat' (first | omega | with_reducible refine hL2 ?_ | simp only [w_iconst, w_istore, w_fall, Int.reduceToNat, w_iload, w_ifc, cI, w_ishr, w_iand, w_aload, x_g503_64, x_iald, w_ialoads, w_ialoadw, w_if, w_zreturn, w_iinc, lgB, Nat.reduceSub, w_goto, isA_w1, isA_w2, isA_w3, isA_w4, isA_w5, isA_w6, isA_w7, isA_w8, isA_w10, isA_w11, isA_w12, isA_w14, isA_w15, isA_w16, len_w1, len_w2, len_w3, len_w4, len_w5, len_w6, len_w7, len_w8, len_w10, len_w11, len_w12, len_w14, len_w15, len_w16, isA_65, len_65, isA_66, len_66, isA_67, len_67, isA_68, len_68, isA_69, len_69, Int.cast_ofNat_Int, a70_0, a70_30, a70_36, R32, List.getElem?_cons_zero, List.getElem?_cons_succ, List.set_cons_zero, List.set_cons_succ, List.cons_append, List.nil_append, List.replicate_succ, List.replicate_zero, List.take_succ_cons, List.take_zero, List.drop_succ_cons, List.drop_zero, List.reverse_cons, List.reverse_nil, List.length_cons, List.length_nil, Option.toList, true_and, and_true, eq_self, ↓reduceIte, not_true_eq_false, not_false_eq_true, true_or, or_true] | with_reducible refine And.intro ?_ ?_ | with_reducible intro _)
  all_goals (try (first | omega | (exfalso; assumption) | exact noB_0))
theorem k69_0 : pg.1 69 0 = [.bipush 0, .istore 2, .jsr 2] := rfl
theorem a69_0 {tb : Tab} {d : Nat} {K : Out → AM → Prop} {ls st : List AV} {m : AM} : At tb d 69 K 0 ls st m = wpB tb (pg.2.1 69) (Runs tb pg d) K (At tb d 69 K) [.bipush 0, .istore 2, .jsr 2] ls st m := At.eq k69_0
theorem k69_2 : pg.1 69 2 = [.iload 2, .aload 1, .getfield 804, .if_icmp .ge 60, .aload 0, .getfield 503, .iload 2, .bipush 0, .iastore, .bipush 0, .istore 3, .jsr 19] := rfl
theorem a69_2 {tb : Tab} {d : Nat} {K : Out → AM → Prop} {ls st : List AV} {m : AM} : At tb d 69 K 2 ls st m = wpB tb (pg.2.1 69) (Runs tb pg d) K (At tb d 69 K) [.iload 2, .aload 1, .getfield 804, .if_icmp .ge 60, .aload 0, .getfield 503, .iload 2, .bipush 0, .iastore, .bipush 0, .istore 3, .jsr 19] ls st m := At.eq k69_2
theorem k69_19 : pg.1 69 19 = [.iload 3, .aload 1, .getfield 804, .if_icmp .ge 54, .aload 1, .iload 2, .iload 3, .invokeinterface 68 3, .ifCond .eq 48, .aload 0, .getfield 503, .iload 2, .dup2, .iaload, .bipush 1, .iload 3, .ishl, .ior, .iastore, .jsr 48] := rfl
theorem a69_19 {tb : Tab} {d : Nat} {K : Out → AM → Prop} {ls st : List AV} {m : AM} : At tb d 69 K 19 ls st m = wpB tb (pg.2.1 69) (Runs tb pg d) K (At tb d 69 K) [.iload 3, .aload 1, .getfield 804, .if_icmp .ge 54, .aload 1, .iload 2, .iload 3, .invokeinterface 68 3, .ifCond .eq 48, .aload 0, .getfield 503, .iload 2, .dup2, .iaload, .bipush 1, .iload 3, .ishl, .ior, .iastore, .jsr 48] ls st m := At.eq k69_19
theorem k69_48 : pg.1 69 48 = [.iinc 3 1, .goto 19] := rfl
theorem a69_48 {tb : Tab} {d : Nat} {K : Out → AM → Prop} {ls st : List AV} {m : AM} : At tb d 69 K 48 ls st m = wpB tb (pg.2.1 69) (Runs tb pg d) K (At tb d 69 K) [.iinc 3 1, .goto 19] ls st m := At.eq k69_48
theorem k69_54 : pg.1 69 54 = [.iinc 2 1, .goto 2] := rfl
theorem a69_54 {tb : Tab} {d : Nat} {K : Out → AM → Prop} {ls st : List AV} {m : AM} : At tb d 69 K 54 ls st m = wpB tb (pg.2.1 69) (Runs tb pg d) K (At tb d 69 K) [.iinc 2 1, .goto 2] ls st m := At.eq k69_54
theorem k69_60 : pg.1 69 60 = [.bipush 0, .istore 2, .bipush 1, .istore 3, .jsr 64] := rfl
theorem a69_60 {tb : Tab} {d : Nat} {K : Out → AM → Prop} {ls st : List AV} {m : AM} : At tb d 69 K 60 ls st m = wpB tb (pg.2.1 69) (Runs tb pg d) K (At tb d 69 K) [.bipush 0, .istore 2, .bipush 1, .istore 3, .jsr 64] ls st m := At.eq k69_60
theorem k69_64 : pg.1 69 64 = [.iload 3, .bipush 1, .aload 1, .getfield 804, .ishl, .if_icmp .ge 101, .iload 3, .invokeinterface 382 1, .iload 2, .invokeinterface 382 1, .if_icmp .le 95, .aload 0, .iload 3, .invokeinterface 70 2, .ifCond .eq 95, .iload 3, .istore 2, .jsr 95] := rfl
theorem a69_64 {tb : Tab} {d : Nat} {K : Out → AM → Prop} {ls st : List AV} {m : AM} : At tb d 69 K 64 ls st m = wpB tb (pg.2.1 69) (Runs tb pg d) K (At tb d 69 K) [.iload 3, .bipush 1, .aload 1, .getfield 804, .ishl, .if_icmp .ge 101, .iload 3, .invokeinterface 382 1, .iload 2, .invokeinterface 382 1, .if_icmp .le 95, .aload 0, .iload 3, .invokeinterface 70 2, .ifCond .eq 95, .iload 3, .istore 2, .jsr 95] ls st m := At.eq k69_64
theorem k69_95 : pg.1 69 95 = [.iinc 3 1, .goto 64] := rfl
theorem a69_95 {tb : Tab} {d : Nat} {K : Out → AM → Prop} {ls st : List AV} {m : AM} : At tb d 69 K 95 ls st m = wpB tb (pg.2.1 69) (Runs tb pg d) K (At tb d 69 K) [.iinc 3 1, .goto 64] ls st m := At.eq k69_95
theorem k69_101 : pg.1 69 101 = [.iload 2, .ireturn] := rfl
theorem a69_101 {tb : Tab} {d : Nat} {K : Out → AM → Prop} {ls st : List AV} {m : AM} : At tb d 69 K 101 ls st m = wpB tb (pg.2.1 69) (Runs tb pg d) K (At tb d 69 K) [.iload 2, .ireturn] ls st m := At.eq k69_101
theorem w_69 (hw : isW w) (hR : RW S w r) (hA : AB r) (hV : GV r) (hK : ∀ T v, isMinP (safeM (pr r) (r 4)) (fun s => - bitsM s 31) (pw (r 4)) v → FxE 67 S T → 0 ≤ v → K (.inl (some (vi v))) (X T m)) : Runs tb pg (d + 4) 69 [vr 64, vr w] (X S m) K := by
  have b3 := hA.2.1.1
  have b4 := hA.2.1.2.1
  have b5 := hA.2.1.2.2.1
  have e0 := hR.1.1
  have e4 := hR.1.2.1
  have h64 : ∀ T, FxE 67 S T → mxA (pr r) (r 4) (T 67) (r 4) → At tb (d + 3) 69 K 64 [vr 64, vr w, vi 0, vi 1] [] (X T m) := by
    intro T hT hx
    have hW : RW T w r := RW_1 hw (by unfold scr; omega) hR hT
    have t4 : T w 4 = r 4 := hW.1.2.1
    have hsh : shlI 1 (r 4) = pw (r 4) := shl_eq b4.1 (by omega)
    have pl : pw (r 4) ≤ 64 := pw_le (q := 6) b4.1 b4.2
    have p1 : 1 ≤ pw (r 4) := pw_pos _
    have hL64 : (fun i : Int => ∀ (a : Int), (isMinP (safeM (pr r) (r 4)) (fun s => - bitsM s 31) (i + 1) a) → (a ≠ -1) → At tb (d + 3) 69 K 64 [vr 64, vr w, vi a, vi (i + 1)] [] (X T m)) 0 := by
      refine loopZ (fun i : Int => ∀ (a : Int), (isMinP (safeM (pr r) (r 4)) (fun s => - bitsM s 31) (i + 1) a) → (a ≠ -1) → At tb (d + 3) 69 K 64 [vr 64, vr w, vi a, vi (i + 1)] [] (X T m)) (pw (r 4) - 1) (by omega) ?_ ?_
      · intro i h0 h1 h9 a hm ha
        have ag := isMinP_rg hm
        have b1 := bits_le (i + 1)
        have b2 := bits_le a
        have si := safe_is (s := i + 1) b4 (fun p p0 p1 => by have := AB_pp hA p0 p1; omega) hx (by omega) (by omega)
        rw [a69_64]
        repeat' (first | omega | with_reducible refine h9 _ ?_ ?_ | simp only [w_iconst, w_istore, w_fall, Int.reduceToNat, w_iload, w_aload, x_g804_w0, w_ifc, cI, x_g503_64, x_iast, w_call, w_if, w_dup2, x_iald, w_ialoads, w_ialoadw, w_ishl, w_ior, w_iinc, lgB, Nat.reduceSub, w_goto, w_ireturn, isA_w1, isA_w2, isA_w3, isA_w4, isA_w5, isA_w6, isA_w7, isA_w8, isA_w10, isA_w11, isA_w12, isA_w14, isA_w15, isA_w16, len_w1, len_w2, len_w3, len_w4, len_w5, len_w6, len_w7, len_w8, len_w10, len_w11, len_w12, len_w14, len_w15, len_w16, isA_65, len_65, isA_66, len_66, isA_67, len_67, isA_68, len_68, isA_69, len_69, Int.cast_ofNat_Int, a69_0, a69_48, a69_54, a69_60, a69_95, a69_101, R32, List.getElem?_cons_zero, List.getElem?_cons_succ, List.set_cons_zero, List.set_cons_succ, List.cons_append, List.nil_append, List.replicate_succ, List.replicate_zero, List.take_succ_cons, List.take_zero, List.drop_succ_cons, List.drop_zero, List.reverse_cons, List.reverse_nil, List.length_cons, List.length_nil, Option.toList, true_and, and_true, eq_self, ↓reduceIte, not_true_eq_false, not_false_eq_true, true_or, or_true, hw, t4, hsh] | with_reducible refine w_382 (s := i + 1) ⟨by omega, by omega⟩ (fun v1 x1 => ?_) | with_reducible refine w_382 (s := a) ⟨by omega, by omega⟩ (fun v2 x2 => ?_) | with_reducible refine w_70 (s := i + 1) ⟨by omega, by omega⟩ (fun v3 x3 => ?_) | with_reducible refine And.intro ?_ ?_ | with_reducible intro _)
        all_goals (try (first | omega | contradiction | (rw [hsh]; unfold R32; omega) | (unfold yn at x3; rcases x3 with ⟨xa, xb⟩ | ⟨xa, xb⟩; all_goals first | omega | (exact isMinP_y (by omega) hm (si.mp xb) (by omega)) | (exact isMinP_n hm (Or.inl (fun y => xb (si.mpr y))))) | (exact isMinP_n hm (Or.inr ⟨by omega, by omega⟩))))
      · intro a hm ha
        have ag := isMinP_rg hm
        rw [show pw (r 4) - 1 + 1 = pw (r 4) by omega] at hm
        rw [a69_64]
        repeat' (first | omega | (refine hK _ _ ?_ hT ?_) | simp only [w_iconst, w_istore, w_fall, Int.reduceToNat, w_iload, w_aload, x_g804_w0, w_ifc, cI, x_g503_64, x_iast, w_call, w_if, w_dup2, x_iald, w_ialoads, w_ialoadw, w_ishl, w_ior, w_iinc, lgB, Nat.reduceSub, w_goto, w_ireturn, isA_w1, isA_w2, isA_w3, isA_w4, isA_w5, isA_w6, isA_w7, isA_w8, isA_w10, isA_w11, isA_w12, isA_w14, isA_w15, isA_w16, len_w1, len_w2, len_w3, len_w4, len_w5, len_w6, len_w7, len_w8, len_w10, len_w11, len_w12, len_w14, len_w15, len_w16, isA_65, len_65, isA_66, len_66, isA_67, len_67, isA_68, len_68, isA_69, len_69, Int.cast_ofNat_Int, a69_0, a69_48, a69_54, a69_60, a69_95, a69_101, R32, List.getElem?_cons_zero, List.getElem?_cons_succ, List.set_cons_zero, List.set_cons_succ, List.cons_append, List.nil_append, List.replicate_succ, List.replicate_zero, List.take_succ_cons, List.take_zero, List.drop_succ_cons, List.drop_zero, List.reverse_cons, List.reverse_nil, List.length_cons, List.length_nil, Option.toList, true_and, and_true, eq_self, ↓reduceIte, not_true_eq_false, not_false_eq_true, true_or, or_true, hw, t4, hsh] | with_reducible refine w_382 (s := i + 1) ⟨by omega, by omega⟩ (fun v1 x1 => ?_) | with_reducible refine w_382 (s := a) ⟨by omega, by omega⟩ (fun v2 x2 => ?_) | with_reducible refine w_70 (s := i + 1) ⟨by omega, by omega⟩ (fun v3 x3 => ?_) | with_reducible refine And.intro ?_ ?_ | with_reducible intro _)
        all_goals (try (first | omega | contradiction | (exact hm)))
    refine hL64 _ ?_ (by omega)
    exact isMinP_y (i := 0) (by omega) isMinP_0 (safe_0 b4.2) (Or.inl rfl)
  have hL2 : (fun i : Int => ∀ (z3 : AV) (T : Nat → Int → Int), (FxE 67 S T) → (mxA (pr r) (r 4) (T 67) i) → At tb (d + 3) 69 K 2 [vr 64, vr w, vi i, z3] [] (X T m)) 0 := by
    refine loopZ (fun i : Int => ∀ (z3 : AV) (T : Nat → Int → Int), (FxE 67 S T) → (mxA (pr r) (r 4) (T 67) i) → At tb (d + 3) 69 K 2 [vr 64, vr w, vi i, z3] [] (X T m)) (r 4) (by omega) ?_ ?_
    · intro i h0 h1 h9 z3 T hT hx
      have hW : RW T w r := RW_1 hw (by unfold scr; omega) hR hT
      have t4 : T w 4 = r 4 := hW.1.2.1
      have hL19 : (fun j : Int => ∀ (T : Nat → Int → Int), (FxE 67 S T) → (mxA (pr r) (r 4) (T 67) i) → (T 67 i = setZ j (mixM (pr r) i)) → At tb (d + 3) 69 K 19 [vr 64, vr w, vi i, vi j] [] (X T m)) 0 := by
        refine loopZ (fun j : Int => ∀ (T : Nat → Int → Int), (FxE 67 S T) → (mxA (pr r) (r 4) (T 67) i) → (T 67 i = setZ j (mixM (pr r) i)) → At tb (d + 3) 69 K 19 [vr 64, vr w, vi i, vi j] [] (X T m)) (r 4) (by omega) ?_ ?_
        · intro j j0 j1 h8 T hT hx hi
          have hW : RW T w r := RW_1 hw (by unfold scr; omega) hR hT
          have t4 : T w 4 = r 4 := hW.1.2.1
          rw [a69_19]
          repeat' (first | omega | with_reducible refine h8 _ ?_ ?_ ?_ | simp only [w_iconst, w_istore, w_fall, Int.reduceToNat, w_iload, w_aload, x_g804_w0, w_ifc, cI, x_g503_64, x_iast, w_call, w_if, w_dup2, x_iald, w_ialoads, w_ialoadw, w_ishl, w_ior, w_iinc, lgB, Nat.reduceSub, w_goto, w_ireturn, isA_w1, isA_w2, isA_w3, isA_w4, isA_w5, isA_w6, isA_w7, isA_w8, isA_w10, isA_w11, isA_w12, isA_w14, isA_w15, isA_w16, len_w1, len_w2, len_w3, len_w4, len_w5, len_w6, len_w7, len_w8, len_w10, len_w11, len_w12, len_w14, len_w15, len_w16, isA_65, len_65, isA_66, len_66, isA_67, len_67, isA_68, len_68, isA_69, len_69, Int.cast_ofNat_Int, a69_0, a69_48, a69_54, a69_60, a69_95, a69_101, R32, List.getElem?_cons_zero, List.getElem?_cons_succ, List.set_cons_zero, List.set_cons_succ, List.cons_append, List.nil_append, List.replicate_succ, List.replicate_zero, List.take_succ_cons, List.take_zero, List.drop_succ_cons, List.drop_zero, List.reverse_cons, List.reverse_nil, List.length_cons, List.length_nil, Option.toList, true_and, and_true, eq_self, ↓reduceIte, not_true_eq_false, not_false_eq_true, true_or, or_true, hw] | with_reducible refine w_68 hw hW hA hV ⟨h0, h1⟩ ⟨j0, j1⟩ (fun v1 x1 => ?_) | with_reducible refine And.intro ?_ ?_ | with_reducible intro _)
          all_goals (try (first | omega | contradiction | exact FxE_u hT | exact hT | exact hx | exact mxA_u hx | (unfold yn at x1; rcases x1 with ⟨xa, xb⟩ | ⟨xa, xb⟩; all_goals first | omega | (rw [upS_at, if_pos ⟨rfl, rfl⟩]; exact setZ_yes j0 (by omega) hi xb) | (exact setZ_no j0 hi xb))))
        · intro T hT hx hi
          have hW : RW T w r := RW_1 hw (by unfold scr; omega) hR hT
          have t4 : T w 4 = r 4 := hW.1.2.1
          rw [a69_19]
          repeat' (first | omega | with_reducible refine h9 _ _ ?_ ?_ | simp only [w_iconst, w_istore, w_fall, Int.reduceToNat, w_iload, w_aload, x_g804_w0, w_ifc, cI, x_g503_64, x_iast, w_call, w_if, w_dup2, x_iald, w_ialoads, w_ialoadw, w_ishl, w_ior, w_iinc, lgB, Nat.reduceSub, w_goto, w_ireturn, isA_w1, isA_w2, isA_w3, isA_w4, isA_w5, isA_w6, isA_w7, isA_w8, isA_w10, isA_w11, isA_w12, isA_w14, isA_w15, isA_w16, len_w1, len_w2, len_w3, len_w4, len_w5, len_w6, len_w7, len_w8, len_w10, len_w11, len_w12, len_w14, len_w15, len_w16, isA_65, len_65, isA_66, len_66, isA_67, len_67, isA_68, len_68, isA_69, len_69, Int.cast_ofNat_Int, a69_0, a69_48, a69_54, a69_60, a69_95, a69_101, R32, List.getElem?_cons_zero, List.getElem?_cons_succ, List.set_cons_zero, List.set_cons_succ, List.cons_append, List.nil_append, List.replicate_succ, List.replicate_zero, List.take_succ_cons, List.take_zero, List.drop_succ_cons, List.drop_zero, List.reverse_cons, List.reverse_nil, List.length_cons, List.length_nil, Option.toList, true_and, and_true, eq_self, ↓reduceIte, not_true_eq_false, not_false_eq_true, true_or, or_true, hw] | with_reducible refine w_68 hw hW hA hV ⟨h0, h1⟩ ⟨j0, j1⟩ (fun v1 x1 => ?_) | with_reducible refine And.intro ?_ ?_ | with_reducible intro _)
          all_goals (try (first | omega | contradiction | exact hT | exact mxA_s hx hi))
      rw [a69_2]
      repeat' (first | omega | with_reducible refine h9 _ _ ?_ ?_ | with_reducible refine hL19 _ ?_ ?_ ?_ | simp only [w_iconst, w_istore, w_fall, Int.reduceToNat, w_iload, w_aload, x_g804_w0, w_ifc, cI, x_g503_64, x_iast, w_call, w_if, w_dup2, x_iald, w_ialoads, w_ialoadw, w_ishl, w_ior, w_iinc, lgB, Nat.reduceSub, w_goto, w_ireturn, isA_w1, isA_w2, isA_w3, isA_w4, isA_w5, isA_w6, isA_w7, isA_w8, isA_w10, isA_w11, isA_w12, isA_w14, isA_w15, isA_w16, len_w1, len_w2, len_w3, len_w4, len_w5, len_w6, len_w7, len_w8, len_w10, len_w11, len_w12, len_w14, len_w15, len_w16, isA_65, len_65, isA_66, len_66, isA_67, len_67, isA_68, len_68, isA_69, len_69, Int.cast_ofNat_Int, a69_0, a69_48, a69_54, a69_60, a69_95, a69_101, R32, List.getElem?_cons_zero, List.getElem?_cons_succ, List.set_cons_zero, List.set_cons_succ, List.cons_append, List.nil_append, List.replicate_succ, List.replicate_zero, List.take_succ_cons, List.take_zero, List.drop_succ_cons, List.drop_zero, List.reverse_cons, List.reverse_nil, List.length_cons, List.length_nil, Option.toList, true_and, and_true, eq_self, ↓reduceIte, not_true_eq_false, not_false_eq_true, true_or, or_true, hw] | with_reducible refine And.intro ?_ ?_ | with_reducible intro _)
      all_goals (try (first | omega | contradiction | exact FxE_u hT | exact mxA_u hx | (rw [upS_at, if_pos ⟨rfl, rfl⟩]; rfl)))
    · intro z3 T hT hx
      have hW : RW T w r := RW_1 hw (by unfold scr; omega) hR hT
      have t4 : T w 4 = r 4 := hW.1.2.1
      rw [a69_2]
      repeat' (first | omega | (exact h64 _ hT hx) | simp only [w_iconst, w_istore, w_fall, Int.reduceToNat, w_iload, w_aload, x_g804_w0, w_ifc, cI, x_g503_64, x_iast, w_call, w_if, w_dup2, x_iald, w_ialoads, w_ialoadw, w_ishl, w_ior, w_iinc, lgB, Nat.reduceSub, w_goto, w_ireturn, isA_w1, isA_w2, isA_w3, isA_w4, isA_w5, isA_w6, isA_w7, isA_w8, isA_w10, isA_w11, isA_w12, isA_w14, isA_w15, isA_w16, len_w1, len_w2, len_w3, len_w4, len_w5, len_w6, len_w7, len_w8, len_w10, len_w11, len_w12, len_w14, len_w15, len_w16, isA_65, len_65, isA_66, len_66, isA_67, len_67, isA_68, len_68, isA_69, len_69, Int.cast_ofNat_Int, a69_0, a69_48, a69_54, a69_60, a69_95, a69_101, R32, List.getElem?_cons_zero, List.getElem?_cons_succ, List.set_cons_zero, List.set_cons_succ, List.cons_append, List.nil_append, List.replicate_succ, List.replicate_zero, List.take_succ_cons, List.take_zero, List.drop_succ_cons, List.drop_zero, List.reverse_cons, List.reverse_nil, List.length_cons, List.length_nil, Option.toList, true_and, and_true, eq_self, ↓reduceIte, not_true_eq_false, not_false_eq_true, true_or, or_true, hw] | with_reducible refine And.intro ?_ ?_ | with_reducible intro _)
      all_goals (try (first | omega | contradiction | omega))
  refine Runs.of (al := [vr 64, vr w]) (n := 2) ⟨64, _, _, rfl, xo_64⟩ rfl rfl trivial ?_
  repeat' (first | omega | with_reducible refine hL2 _ _ ?_ ?_ | simp only [w_iconst, w_istore, w_fall, Int.reduceToNat, w_iload, w_aload, x_g804_w0, w_ifc, cI, x_g503_64, x_iast, w_call, w_if, w_dup2, x_iald, w_ialoads, w_ialoadw, w_ishl, w_ior, w_iinc, lgB, Nat.reduceSub, w_goto, w_ireturn, isA_w1, isA_w2, isA_w3, isA_w4, isA_w5, isA_w6, isA_w7, isA_w8, isA_w10, isA_w11, isA_w12, isA_w14, isA_w15, isA_w16, len_w1, len_w2, len_w3, len_w4, len_w5, len_w6, len_w7, len_w8, len_w10, len_w11, len_w12, len_w14, len_w15, len_w16, isA_65, len_65, isA_66, len_66, isA_67, len_67, isA_68, len_68, isA_69, len_69, Int.cast_ofNat_Int, a69_0, a69_48, a69_54, a69_60, a69_95, a69_101, R32, List.getElem?_cons_zero, List.getElem?_cons_succ, List.set_cons_zero, List.set_cons_succ, List.cons_append, List.nil_append, List.replicate_succ, List.replicate_zero, List.take_succ_cons, List.take_zero, List.drop_succ_cons, List.drop_zero, List.reverse_cons, List.reverse_nil, List.length_cons, List.length_nil, Option.toList, true_and, and_true, eq_self, ↓reduceIte, not_true_eq_false, not_false_eq_true, true_or, or_true, hw] | with_reducible refine And.intro ?_ ?_ | with_reducible intro _)
  all_goals (try (first | omega | (exfalso; assumption) | exact FxE_r | exact mxA_0))
theorem k72_0 : pg.1 72 0 = [.iload 3, .istore 4, .jsr 3] := rfl
theorem a72_0 {tb : Tab} {d : Nat} {K : Out → AM → Prop} {ls st : List AV} {m : AM} : At tb d 72 K 0 ls st m = wpB tb (pg.2.1 72) (Runs tb pg d) K (At tb d 72 K) [.iload 3, .istore 4, .jsr 3] ls st m := At.eq k72_0
theorem k72_3 : pg.1 72 3 = [.iload 4, .aload 1, .getfield 805, .iload 2, .iaload, .if_icmp .ge 58, .aload 0, .getfield 502, .aload 0, .getfield 501, .arraylength, .if_icmp .ge 58, .aload 0, .getfield 501, .aload 0, .getfield 502, .aload 1, .iload 2, .iload 4, .invokeinterface 56 3, .iastore, .aload 0, .dup, .getfield 502, .bipush 1, .iadd, .putfield 502, .iinc 4 1, .goto 3] := rfl
theorem a72_3 {tb : Tab} {d : Nat} {K : Out → AM → Prop} {ls st : List AV} {m : AM} : At tb d 72 K 3 ls st m = wpB tb (pg.2.1 72) (Runs tb pg d) K (At tb d 72 K) [.iload 4, .aload 1, .getfield 805, .iload 2, .iaload, .if_icmp .ge 58, .aload 0, .getfield 502, .aload 0, .getfield 501, .arraylength, .if_icmp .ge 58, .aload 0, .getfield 501, .aload 0, .getfield 502, .aload 1, .iload 2, .iload 4, .invokeinterface 56 3, .iastore, .aload 0, .dup, .getfield 502, .bipush 1, .iadd, .putfield 502, .iinc 4 1, .goto 3] ls st m := At.eq k72_3
theorem k72_58 : pg.1 72 58 = [.return_] := rfl
theorem a72_58 {tb : Tab} {d : Nat} {K : Out → AM → Prop} {ls st : List AV} {m : AM} : At tb d 72 K 58 ls st m = wpB tb (pg.2.1 72) (Runs tb pg d) K (At tb d 72 K) [.return_] ls st m := At.eq k72_58
theorem w_72 {p b : Int} (hw : isW w) (hR : RW S w r) (hA : AB r) (hV : GV r) (hp : 0 ≤ p ∧ p < r 4) (hb : 0 ≤ b ∧ b ≤ pr r p 0) (hs : 0 ≤ S 64 2 ∧ S 64 2 + (pr r p 0 - b) ≤ 12) (hK : ∀ T, apR (pr r) S T p b (pr r p 0 - b) → K (.inl none) (X T m)) : Runs tb pg (d + 2) 72 [vr 64, vr w, vi p, vi b] (X S m) K := by
  have b3 := hA.2.1.1
  have b4 := hA.2.1.2.1
  have b5 := hA.2.1.2.2.1
  have e0 := hR.1.1
  have e4 := hR.1.2.1
  have zp9 := AB_pp hA hp.1 hp.2
  have hL3 : (fun i : Int => ∀ (z : Int) (T : Nat → Int → Int), z = b + i → (apR (pr r) S T p b i) → At tb (d + 1) 72 K 3 [vr 64, vr w, vi p, vi b, vi z] [] (X T m)) 0 := by
    refine loopZ (fun i : Int => ∀ (z : Int) (T : Nat → Int → Int), z = b + i → (apR (pr r) S T p b i) → At tb (d + 1) 72 K 3 [vr 64, vr w, vi p, vi b, vi z] [] (X T m)) (pr r p 0 - b) (by omega) ?_ ?_
    · intro i h0 h1 h9 z T hz hT
      subst hz
      have hW : RW T w r := RW_k hR (fun k hk => hT.1 _ (scr_w hw (a := 64) (by unfold scr; omega) hk) (scr_w hw (a := 66) (by unfold scr; omega) hk))
      have t4p : T (w + 4) p = pr r p 0 := (hW.2.2.1 p hp.1 hp.2).1
      have zp := AB_pp hA hp.1 hp.2
      have t2 := hT.2.2.1
      rw [a72_3]
      repeat' (first | omega | with_reducible refine h9 _ _ ?_ ?_ | simp only [w_iload, w_istore, w_fall, Int.reduceToNat, w_aload, x_g805_w0, x_iald, w_ialoads, w_ialoadw, w_ifc, cI, x_g502_64, x_g501_64, x_alen, w_alens, w_alenw, w_alenx, w_call, x_iast, w_dupi, w_dupr, w_iconst, w_iadd, x_p502_64, w_iinc, lgB, Nat.reduceSub, w_goto, w_return, isA_w1, isA_w2, isA_w3, isA_w4, isA_w5, isA_w6, isA_w7, isA_w8, isA_w10, isA_w11, isA_w12, isA_w14, isA_w15, isA_w16, len_w1, len_w2, len_w3, len_w4, len_w5, len_w6, len_w7, len_w8, len_w10, len_w11, len_w12, len_w14, len_w15, len_w16, isA_65, len_65, isA_66, len_66, isA_67, len_67, isA_68, len_68, isA_69, len_69, Int.cast_ofNat_Int, a72_0, a72_58, R32, List.getElem?_cons_zero, List.getElem?_cons_succ, List.set_cons_zero, List.set_cons_succ, List.cons_append, List.nil_append, List.replicate_succ, List.replicate_zero, List.take_succ_cons, List.take_zero, List.drop_succ_cons, List.drop_zero, List.reverse_cons, List.reverse_nil, List.length_cons, List.length_nil, Option.toList, true_and, and_true, eq_self, ↓reduceIte, not_true_eq_false, not_false_eq_true, true_or, or_true, hw, x_alen_66, up_lit, ne_eq, Nat.reduceEqDiff, not_false_eq_true] | with_reducible refine w_56 hw hW hA hV hp ⟨?_, ?_⟩ (fun v1 x1 y1 u1 => ?_) | with_reducible refine And.intro ?_ ?_ | with_reducible intro _)
      all_goals (try (first | omega | contradiction | (exact apR_s hT h0 x1 (by omega))))
    · intro z T hz hT
      subst hz
      have hW : RW T w r := RW_k hR (fun k hk => hT.1 _ (scr_w hw (a := 64) (by unfold scr; omega) hk) (scr_w hw (a := 66) (by unfold scr; omega) hk))
      have t4p : T (w + 4) p = pr r p 0 := (hW.2.2.1 p hp.1 hp.2).1
      have zp := AB_pp hA hp.1 hp.2
      rw [a72_3]
      repeat' (first | omega | (exact hK _ hT) | simp only [w_iload, w_istore, w_fall, Int.reduceToNat, w_aload, x_g805_w0, x_iald, w_ialoads, w_ialoadw, w_ifc, cI, x_g502_64, x_g501_64, x_alen, w_alens, w_alenw, w_alenx, w_call, x_iast, w_dupi, w_dupr, w_iconst, w_iadd, x_p502_64, w_iinc, lgB, Nat.reduceSub, w_goto, w_return, isA_w1, isA_w2, isA_w3, isA_w4, isA_w5, isA_w6, isA_w7, isA_w8, isA_w10, isA_w11, isA_w12, isA_w14, isA_w15, isA_w16, len_w1, len_w2, len_w3, len_w4, len_w5, len_w6, len_w7, len_w8, len_w10, len_w11, len_w12, len_w14, len_w15, len_w16, isA_65, len_65, isA_66, len_66, isA_67, len_67, isA_68, len_68, isA_69, len_69, Int.cast_ofNat_Int, a72_0, a72_58, R32, List.getElem?_cons_zero, List.getElem?_cons_succ, List.set_cons_zero, List.set_cons_succ, List.cons_append, List.nil_append, List.replicate_succ, List.replicate_zero, List.take_succ_cons, List.take_zero, List.drop_succ_cons, List.drop_zero, List.reverse_cons, List.reverse_nil, List.length_cons, List.length_nil, Option.toList, true_and, and_true, eq_self, ↓reduceIte, not_true_eq_false, not_false_eq_true, true_or, or_true, hw, x_alen_66, up_lit, ne_eq, Nat.reduceEqDiff, not_false_eq_true] | with_reducible refine w_56 hw hW hA hV hp ⟨?_, ?_⟩ (fun v1 x1 y1 u1 => ?_) | with_reducible refine And.intro ?_ ?_ | with_reducible intro _)
      all_goals (try (first | omega | contradiction | omega))
  refine Runs.of (al := [vr 64, vr w, vi p, vi b]) (n := 1) ⟨64, _, _, rfl, xo_64⟩ rfl rfl trivial ?_
  repeat' (first | omega | with_reducible refine hL3 _ _ ?_ ?_ | simp only [w_iload, w_istore, w_fall, Int.reduceToNat, w_aload, x_g805_w0, x_iald, w_ialoads, w_ialoadw, w_ifc, cI, x_g502_64, x_g501_64, x_alen, w_alens, w_alenw, w_alenx, w_call, x_iast, w_dupi, w_dupr, w_iconst, w_iadd, x_p502_64, w_iinc, lgB, Nat.reduceSub, w_goto, w_return, isA_w1, isA_w2, isA_w3, isA_w4, isA_w5, isA_w6, isA_w7, isA_w8, isA_w10, isA_w11, isA_w12, isA_w14, isA_w15, isA_w16, len_w1, len_w2, len_w3, len_w4, len_w5, len_w6, len_w7, len_w8, len_w10, len_w11, len_w12, len_w14, len_w15, len_w16, isA_65, len_65, isA_66, len_66, isA_67, len_67, isA_68, len_68, isA_69, len_69, Int.cast_ofNat_Int, a72_0, a72_58, R32, List.getElem?_cons_zero, List.getElem?_cons_succ, List.set_cons_zero, List.set_cons_succ, List.cons_append, List.nil_append, List.replicate_succ, List.replicate_zero, List.take_succ_cons, List.take_zero, List.drop_succ_cons, List.drop_zero, List.reverse_cons, List.reverse_nil, List.length_cons, List.length_nil, Option.toList, true_and, and_true, eq_self, ↓reduceIte, not_true_eq_false, not_false_eq_true, true_or, or_true, hw] | with_reducible refine And.intro ?_ ?_ | with_reducible intro _)
  all_goals (try (first | omega | (exfalso; assumption) | exact apR_0))
theorem k71_0 : pg.1 71 0 = [.aload 0, .bipush 0, .putfield 502, .aload 1, .iload 3, .iload 2, .invokeinterface 73 3, .ifCond .eq 24, .aload 0, .aload 1, .iload 2, .bipush 0, .invokeinterface 72 4, .goto 101] := rfl
theorem a71_0 {tb : Tab} {d : Nat} {K : Out → AM → Prop} {ls st : List AV} {m : AM} : At tb d 71 K 0 ls st m = wpB tb (pg.2.1 71) (Runs tb pg d) K (At tb d 71 K) [.aload 0, .bipush 0, .putfield 502, .aload 1, .iload 3, .iload 2, .invokeinterface 73 3, .ifCond .eq 24, .aload 0, .aload 1, .iload 2, .bipush 0, .invokeinterface 72 4, .goto 101] ls st m := At.eq k71_0
theorem k71_24 : pg.1 71 24 = [.aload 1, .iload 2, .iload 3, .invokeinterface 73 3, .ifCond .eq 43, .aload 0, .aload 1, .iload 3, .bipush 0, .invokeinterface 72 4, .goto 101] := rfl
theorem a71_24 {tb : Tab} {d : Nat} {K : Out → AM → Prop} {ls st : List AV} {m : AM} : At tb d 71 K 24 ls st m = wpB tb (pg.2.1 71) (Runs tb pg d) K (At tb d 71 K) [.aload 1, .iload 2, .iload 3, .invokeinterface 73 3, .ifCond .eq 43, .aload 0, .aload 1, .iload 3, .bipush 0, .invokeinterface 72 4, .goto 101] ls st m := At.eq k71_24
theorem k71_43 : pg.1 71 43 = [.aload 1, .iload 2, .iload 3, .invokeinterface 74 3, .istore 4, .aload 1, .iload 3, .iload 2, .invokeinterface 74 3, .istore 5, .aload 0, .aload 1, .iload 5, .iload 4, .if_icmp .le 72, .iload 3, .goto 73] := rfl
theorem a71_43 {tb : Tab} {d : Nat} {K : Out → AM → Prop} {ls st : List AV} {m : AM} : At tb d 71 K 43 ls st m = wpB tb (pg.2.1 71) (Runs tb pg d) K (At tb d 71 K) [.aload 1, .iload 2, .iload 3, .invokeinterface 74 3, .istore 4, .aload 1, .iload 3, .iload 2, .invokeinterface 74 3, .istore 5, .aload 0, .aload 1, .iload 5, .iload 4, .if_icmp .le 72, .iload 3, .goto 73] ls st m := At.eq k71_43
theorem k71_72 : pg.1 71 72 = [.iload 2, .jsr 73] := rfl
theorem a71_72 {tb : Tab} {d : Nat} {K : Out → AM → Prop} {ls st : List AV} {m : AM} : At tb d 71 K 72 ls st m = wpB tb (pg.2.1 71) (Runs tb pg d) K (At tb d 71 K) [.iload 2, .jsr 73] ls st m := At.eq k71_72
theorem k71_73 : pg.1 71 73 = [.bipush 0, .invokeinterface 72 4, .aload 0, .aload 1, .iload 5, .iload 4, .if_icmp .le 90, .iload 2, .goto 91] := rfl
theorem a71_73 {tb : Tab} {d : Nat} {K : Out → AM → Prop} {ls st : List AV} {m : AM} : At tb d 71 K 73 ls st m = wpB tb (pg.2.1 71) (Runs tb pg d) K (At tb d 71 K) [.bipush 0, .invokeinterface 72 4, .aload 0, .aload 1, .iload 5, .iload 4, .if_icmp .le 90, .iload 2, .goto 91] ls st m := At.eq k71_73
theorem k71_90 : pg.1 71 90 = [.iload 3, .jsr 91] := rfl
theorem a71_90 {tb : Tab} {d : Nat} {K : Out → AM → Prop} {ls st : List AV} {m : AM} : At tb d 71 K 90 ls st m = wpB tb (pg.2.1 71) (Runs tb pg d) K (At tb d 71 K) [.iload 3, .jsr 91] ls st m := At.eq k71_90
theorem k71_91 : pg.1 71 91 = [.iload 4, .iload 5, .invokestatic 1, .invokeinterface 72 4, .jsr 101] := rfl
theorem a71_91 {tb : Tab} {d : Nat} {K : Out → AM → Prop} {ls st : List AV} {m : AM} : At tb d 71 K 91 ls st m = wpB tb (pg.2.1 71) (Runs tb pg d) K (At tb d 71 K) [.iload 4, .iload 5, .invokestatic 1, .invokeinterface 72 4, .jsr 101] ls st m := At.eq k71_91
theorem k71_101 : pg.1 71 101 = [.return_] := rfl
theorem a71_101 {tb : Tab} {d : Nat} {K : Out → AM → Prop} {ls st : List AV} {m : AM} : At tb d 71 K 101 ls st m = wpB tb (pg.2.1 71) (Runs tb pg d) K (At tb d 71 K) [.return_] ls st m := At.eq k71_101
theorem w_71 {p q : Int} (hw : isW w) (hR : RW S w r) (hA : AB r) (hV : GV r) (hp : 0 ≤ p ∧ p < r 4) (hq : 0 ≤ q ∧ q < r 4) (hK : ∀ T, tgO (pr r) S T p q → K (.inl none) (X T m)) : Runs tb pg (d + 4) 71 [vr 64, vr w, vi p, vi q] (X S m) K := by
  have b3 := hA.2.1.1
  have b4 := hA.2.1.2.1
  have b5 := hA.2.1.2.2.1
  have e0 := hR.1.1
  have e4 := hR.1.2.1
  have hR0 : RW (upS S 64 2 0) w r := RW_k hR (fun k hk => up_lit (scr_w hw (a := 64) (by unfold scr; omega) hk))
  have zp := AB_pp hA hp.1 hp.2
  have zq := AB_pp hA hq.1 hq.2
  have s0 : upS S 64 2 0 64 2 = 0 := by rw [upS_at, if_pos ⟨rfl, rfl⟩]
  have hRT : ∀ T a b i, apR (pr r) (upS S 64 2 0) T a b i → RW T w r := fun T a b i h => RW_k hR0 (fun k hk => h.1 _ (scr_w hw (a := 64) (by unfold scr; omega) hk) (scr_w hw (a := 66) (by unfold scr; omega) hk))
  refine Runs.of (al := [vr 64, vr w, vi p, vi q]) (n := 2) ⟨64, _, _, rfl, xo_64⟩ rfl rfl trivial ?_
  repeat' (first | omega | (exact hK _ (tg1 ⟨by omega, by omega⟩ ⟨by omega, by omega⟩ h1 (by rw [← i1]; exact A1))) | (exact hK _ (tg2 ⟨by omega, by omega⟩ ⟨by omega, by omega⟩ h1 h2 (by rw [← i2]; exact A1))) | (exact hK _ (tg3 ⟨by omega, by omega⟩ ⟨by omega, by omega⟩ h1 h2 x4 x3 (Or.inl ⟨by omega, rfl, rfl, by split <;> omega⟩) (by rw [Int.sub_zero] at A1; exact A1) A2)) | (exact hK _ (tg3 ⟨by omega, by omega⟩ ⟨by omega, by omega⟩ h1 h2 x4 x3 (Or.inr ⟨by omega, rfl, rfl, by split <;> omega⟩) (by rw [Int.sub_zero] at A1; exact A1) A2)) | simp only [w_aload, w_iconst, x_p502_64, w_iload, w_call, w_if, cI, Int.reduceToNat, w_goto, w_istore, w_ifc, w_fall, w_max, w_return, a71_0, a71_24, a71_43, a71_72, a71_73, a71_90, a71_91, a71_101, R32, List.getElem?_cons_zero, List.getElem?_cons_succ, List.set_cons_zero, List.set_cons_succ, List.cons_append, List.nil_append, List.replicate_succ, List.replicate_zero, List.take_succ_cons, List.take_zero, List.drop_succ_cons, List.drop_zero, List.reverse_cons, List.reverse_nil, List.length_cons, List.length_nil, Option.toList, true_and, and_true, eq_self, ↓reduceIte, not_true_eq_false, not_false_eq_true, true_or, or_true, hw] | (have h1 : holdsM (pr r) p q 6 := (by unfold yn at x1; rcases x1 with ⟨xa, xb⟩ | ⟨xa, xb⟩; exact xb; exfalso; omega); (with_reducible refine w_72 hw hR0 hA hV hp ⟨?_, ?_⟩ ⟨?_, ?_⟩ (fun T1 A1 => ?_)); rotate_right; have i1 : pr r p 0 - 0 = pr r p 0 := Int.sub_zero _) | (have h1 : ¬ holdsM (pr r) p q 6 := (by unfold yn at x1; rcases x1 with ⟨xa, xb⟩ | ⟨xa, xb⟩; exfalso; omega; exact xb); have h2 : holdsM (pr r) q p 6 := (by unfold yn at x2; rcases x2 with ⟨xa, xb⟩ | ⟨xa, xb⟩; exact xb; exfalso; omega); (with_reducible refine w_72 hw hR0 hA hV hq ⟨?_, ?_⟩ ⟨?_, ?_⟩ (fun T1 A1 => ?_)); rotate_right; have i2 : pr r q 0 - 0 = pr r q 0 := Int.sub_zero _) | ((with_reducible refine w_73 hw hR0 hA hV hq hp (fun v1 x1 => ?_)); have gy1 := yn_rg x1) | ((with_reducible refine w_73 hw hR0 hA hV hp hq (fun v2 x2 => ?_)); have gy2 := yn_rg x2) | (have h1 : ¬ holdsM (pr r) p q 6 := (by unfold yn at x1; rcases x1 with ⟨xa, xb⟩ | ⟨xa, xb⟩; exfalso; omega; exact xb); have h2 : ¬ holdsM (pr r) q p 6 := (by unfold yn at x2; rcases x2 with ⟨xa, xb⟩ | ⟨xa, xb⟩; exfalso; omega; exact xb); (with_reducible refine w_74 hw hR0 hA hV hp hq (fun v3 x3 => ?_)); have g3 := isOv_rg (by omega) (by omega) x3) | ((with_reducible refine w_74 hw hR0 hA hV hq hp (fun v4 x4 => ?_)); have g4 := isOv_rg (by omega) (by omega) x4) | with_reducible refine w_72 hw hR0 hA hV hp ⟨?_, ?_⟩ ⟨?_, ?_⟩ (fun T1 A1 => ?_) | with_reducible refine w_72 hw hR0 hA hV hq ⟨?_, ?_⟩ ⟨?_, ?_⟩ (fun T1 A1 => ?_) | (have e1 := A1.2.2.1; rw [s0] at e1; with_reducible refine w_72 hw (hRT _ _ _ _ A1) hA hV hp ⟨?_, ?_⟩ ⟨?_, ?_⟩ (fun T2 A2 => ?_)) | (have e1 := A1.2.2.1; rw [s0] at e1; with_reducible refine w_72 hw (hRT _ _ _ _ A1) hA hV hq ⟨?_, ?_⟩ ⟨?_, ?_⟩ (fun T2 A2 => ?_)) | with_reducible refine And.intro ?_ ?_ | with_reducible intro _)
  all_goals (try (first | omega | (exfalso; assumption) | (split <;> omega) | (unfold R32; omega)))
theorem k76_0 : pg.1 76 0 = [.aload 0, .getfield 502, .ireturn] := rfl
theorem a76_0 {tb : Tab} {d : Nat} {K : Out → AM → Prop} {ls st : List AV} {m : AM} : At tb d 76 K 0 ls st m = wpB tb (pg.2.1 76) (Runs tb pg d) K (At tb d 76 K) [.aload 0, .getfield 502, .ireturn] ls st m := At.eq k76_0
theorem w_76 (hK : K (.inl (some (vi (S 64 2)))) (X S m)) : Runs tb pg (d + 1) 76 [vr 64] (X S m) K := by
  refine Runs.of (al := [vr 64]) (n := 0) ⟨64, _, _, rfl, xo_64⟩ rfl rfl trivial ?_
  repeat' (first | omega | with_reducible exact hK | simp only [w_aload, x_g502_64, w_ireturn, a76_0, R32, List.getElem?_cons_zero, List.getElem?_cons_succ, List.set_cons_zero, List.set_cons_succ, List.cons_append, List.nil_append, List.replicate_succ, List.replicate_zero, List.take_succ_cons, List.take_zero, List.drop_succ_cons, List.drop_zero, List.reverse_cons, List.reverse_nil, List.length_cons, List.length_nil, Option.toList, true_and, and_true, eq_self, ↓reduceIte, not_true_eq_false, not_false_eq_true, true_or, or_true] | with_reducible refine And.intro ?_ ?_ | with_reducible intro _)
  all_goals (try (first | omega | (exfalso; assumption) | skip))
theorem k77_0 : pg.1 77 0 = [.iload 1, .ifCond .lt 12, .iload 1, .aload 0, .getfield 502, .if_icmp .lt 16, .jsr 12] := rfl
theorem a77_0 {tb : Tab} {d : Nat} {K : Out → AM → Prop} {ls st : List AV} {m : AM} : At tb d 77 K 0 ls st m = wpB tb (pg.2.1 77) (Runs tb pg d) K (At tb d 77 K) [.iload 1, .ifCond .lt 12, .iload 1, .aload 0, .getfield 502, .if_icmp .lt 16, .jsr 12] ls st m := At.eq k77_0
theorem k77_12 : pg.1 77 12 = [.bipush (-1), .goto 22] := rfl
theorem a77_12 {tb : Tab} {d : Nat} {K : Out → AM → Prop} {ls st : List AV} {m : AM} : At tb d 77 K 12 ls st m = wpB tb (pg.2.1 77) (Runs tb pg d) K (At tb d 77 K) [.bipush (-1), .goto 22] ls st m := At.eq k77_12
theorem k77_16 : pg.1 77 16 = [.aload 0, .getfield 501, .iload 1, .iaload, .jsr 22] := rfl
theorem a77_16 {tb : Tab} {d : Nat} {K : Out → AM → Prop} {ls st : List AV} {m : AM} : At tb d 77 K 16 ls st m = wpB tb (pg.2.1 77) (Runs tb pg d) K (At tb d 77 K) [.aload 0, .getfield 501, .iload 1, .iaload, .jsr 22] ls st m := At.eq k77_16
theorem k77_22 : pg.1 77 22 = [.ireturn] := rfl
theorem a77_22 {tb : Tab} {d : Nat} {K : Out → AM → Prop} {ls st : List AV} {m : AM} : At tb d 77 K 22 ls st m = wpB tb (pg.2.1 77) (Runs tb pg d) K (At tb d 77 K) [.ireturn] ls st m := At.eq k77_22
theorem w_77 {k : Int} (hk : R32 k) (hs : 0 ≤ S 64 2 ∧ S 64 2 ≤ 12) (hK : ∀ v, v = (if 0 ≤ k ∧ k < S 64 2 then S 66 k else -1) → K (.inl (some (vi v))) (X S m)) : Runs tb pg (d + 1) 77 [vr 64, vi k] (X S m) K := by
  refine Runs.of (al := [vr 64, vi k]) (n := 0) ⟨64, _, _, rfl, xo_64⟩ rfl rfl trivial ?_
  unfold R32 at hk
  repeat' (first | omega | with_reducible refine hK _ ?_ | simp only [w_iload, w_if, cI, Int.reduceToNat, w_aload, x_g502_64, w_ifc, w_fall, w_iconst, w_goto, x_g501_64, x_iald, w_ialoads, w_ialoadw, w_ireturn, isA_w1, isA_w2, isA_w3, isA_w4, isA_w5, isA_w6, isA_w7, isA_w8, isA_w10, isA_w11, isA_w12, isA_w14, isA_w15, isA_w16, len_w1, len_w2, len_w3, len_w4, len_w5, len_w6, len_w7, len_w8, len_w10, len_w11, len_w12, len_w14, len_w15, len_w16, isA_65, len_65, isA_66, len_66, isA_67, len_67, isA_68, len_68, isA_69, len_69, Int.cast_ofNat_Int, a77_0, a77_12, a77_16, a77_22, R32, List.getElem?_cons_zero, List.getElem?_cons_succ, List.set_cons_zero, List.set_cons_succ, List.cons_append, List.nil_append, List.replicate_succ, List.replicate_zero, List.take_succ_cons, List.take_zero, List.drop_succ_cons, List.drop_zero, List.reverse_cons, List.reverse_nil, List.length_cons, List.length_nil, Option.toList, true_and, and_true, eq_self, ↓reduceIte, not_true_eq_false, not_false_eq_true, true_or, or_true] | with_reducible refine And.intro ?_ ?_ | with_reducible intro _)
  all_goals (try (first | omega | (exfalso; assumption) | (rw [if_pos (by omega)]) | (rw [if_neg (by omega)])))
end Names6
