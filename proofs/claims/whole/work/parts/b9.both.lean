/-! ===== BOTH SIDES TOGETHER: what always holds ===== -/
/-- the cells that what always holds speaks of -/
def CL (a : Nat) : Prop := a < 18 ∨ (36 ≤ a ∧ a < 52) ∨ (96 ≤ a ∧ a < 300) ∨ a = 301 ∨ a = 302 ∨ a = 304 ∨ a = 305 ∨ a = 312
/-- the row that is remembered at a place -/
def rkR (S : Nat → Int → Int) (k : Int) : Int → Int := fun j => if 0 ≤ j ∧ j < 415 then S 304 (415 * k + j) else S 301 j
/-- the World that is remembered at a place -/
def slW (o k : Int) : Nat := 96 + 17 * ((o + k) % 12).toNat
def LM (m m1 : AM) : Prop := (∀ a D, LWm m a D → LWm m1 a D) ∧ m.2.1 ≤ m1.2.1
def memI (r : Int → Int) (S : Nat → Int → Int) : Prop := ∀ k, 0 ≤ k → k < S 300 6 → RI (rkR S k) ∧ LQ r (rkR S k) ∧ RW S (slW (S 0 8) k) (rkR S k) ∧ S (slW (S 0 8) k) 15 = S 2 15
def imgI (S : Nat → Int → Int) (m : AM) : Prop := S 300 3 = 1 → RI (S 302) ∧ RW S 36 (S 302) ∧ LWo m (S 36 15) (lawD (S 302))
def OUT (r : Int → Int) : Prop := ∀ j, j < 0 ∨ 815 ≤ j → r j = 0
/-- what always holds between two calls -/
def TOP (r : Int → Int) (S : Nat → Int → Int) (m : AM) : Prop :=
  (S 301 = r ∧ RI r ∧ RW S 2 r ∧ LWo m (S 2 15) (lawD r)) ∧
  (S 0 1 = S 300 8 ∧ (0 ≤ S 300 8 ∧ S 300 8 ≤ 400) ∧ S 1 = S 305 ∧ TB S) ∧
  S 0 2 = S 300 12 ∧
  (S 0 6 = S 300 3 ∧ (S 300 3 = 0 ∨ S 300 3 = 1) ∧ imgI S m ∧ OUT r ∧ OUT (S 302)) ∧
  (S 0 9 = S 300 6 ∧ (0 ≤ S 300 6 ∧ S 300 6 ≤ 12) ∧ (0 ≤ S 0 8 ∧ S 0 8 < 12) ∧ memI r S) ∧
  GR S ∧ 317 ≤ m.2.1
theorem slW_rg {o k : Int} : 96 ≤ slW o k ∧ slW o k + 17 ≤ 300 := by
  unfold slW
  have h0 : 0 ≤ (o + k) % 12 := Int.emod_nonneg _ (by decide)
  have h1 : (o + k) % 12 < 12 := Int.emod_lt_of_pos _ (by decide)
  omega
theorem slW_isW {o k : Int} : isW (slW o k) := by
  have h := slW_rg (o := o) (k := k)
  refine Or.inr (Or.inr (Or.inr (Or.inr ⟨h.1, by omega, ?_⟩)))
  unfold slW
  omega
theorem LM_r {m : AM} : LM m m := ⟨fun _ _ h => h, Nat.le_refl _⟩
theorem LM_t {m m1 m2 : AM} (h : LM m m1) (g : LM m1 m2) : LM m m2 := ⟨fun a D x => g.1 a D (h.1 a D x), Nat.le_trans h.2 g.2⟩
theorem LM_S {m m1 : AM} (h : MS m m1) : LM m m1 := ⟨h.2, by rw [h.1]; exact Nat.le_refl _⟩
theorem LM_th {m : AM} : LM m (mthrow m) := ⟨fun _ _ h => h, Nat.le_refl _⟩
theorem LM_N {m m1 : AM} {q : List LL} (h : NW m m1 q) : LM m m1 := ⟨h.2.1, by rw [h.1.1]; show m.2.1 ≤ m.2.1 + 6; omega⟩
theorem LWo_M {m m1 : AM} (h : LM m m1) {x : Int} {D : LawD} (g : LWo m x D) : LWo m1 x D := by
  rcases g with g | ⟨g0, g1⟩
  · exact Or.inl g
  · exact Or.inr ⟨g0, h.1 _ _ g1⟩
/-- a World whose cells but the facts are the same -/
theorem RW_c {S T : Nat → Int → Int} {w : Nat} {r : Int → Int} (hR : RW S w r) (h : ∀ a, w ≤ a → a < w + 16 → T a = S a) : RW T w r := by
  have g : RW (fun b => if b = w + 16 then S b else T b) w r := RW_k hR (fun k hk => by
    show (if w + k = w + 16 then S (w + k) else T (w + k)) = S (w + k)
    by_cases z : w + k = w + 16
    · rw [if_pos z]
    · rw [if_neg z]; exact h _ (by omega) (by omega))
  exact RW_F g (fun b hb => (if_neg hb).symm)
theorem CL_W {a : Nat} (h : (2 ≤ a ∧ a < 18) ∨ (36 ≤ a ∧ a < 52) ∨ (96 ≤ a ∧ a < 300)) : CL a := by unfold CL; omega
theorem memI_q {r : Int → Int} {S T : Nat → Int → Int} (h : memI r S) (hq : ∀ a, CL a → T a = S a) (h6 : T 300 6 = S 300 6) : memI r T := by
  have e8 : T 0 8 = S 0 8 := congrFun (hq 0 (by unfold CL; omega)) 8
  have ek : ∀ k, rkR T k = rkR S k := fun k => by
    funext j
    unfold rkR
    rw [hq 304 (by unfold CL; omega), hq 301 (by unfold CL; omega)]
  intro k k0 k1
  rw [h6] at k1
  obtain ⟨a, b, c, e⟩ := h k k0 k1
  have sr := slW_rg (o := S 0 8) (k := k)
  rw [ek, e8]
  exact ⟨a, b, RW_c c (fun x x0 x1 => hq x (CL_W (by omega))), by rw [hq _ (CL_W (by omega)), hq 2 (CL_W (by omega))]; exact e⟩
theorem imgI_q {S T : Nat → Int → Int} {m m1 : AM} (h : imgI S m) (hq : ∀ a, CL a → T a = S a) (h3 : T 300 3 = S 300 3) (hL : LM m m1) : imgI T m1 := by
  intro z
  rw [h3] at z
  obtain ⟨a, b, c⟩ := h z
  rw [hq 302 (by unfold CL; omega)]
  exact ⟨a, RW_c b (fun x x0 x1 => hq x (CL_W (by omega))), by rw [hq 36 (CL_W (by omega))]; exact LWo_M hL c⟩
theorem GR_q {S T : Nat → Int → Int} (h : GR S) (e : T 312 = S 312) : GR T := fun i i0 i1 => by rw [e]; exact h i i0 i1
theorem TOP_q {r : Int → Int} {S T : Nat → Int → Int} {m m1 : AM} (h : TOP r S m) (hq : ∀ a, CL a → T a = S a) (h3 : ∀ j, j = 3 ∨ j = 6 ∨ j = 8 ∨ j = 12 → T 300 j = S 300 j) (hL : LM m m1) : TOP r T m1 := by
  obtain ⟨⟨a1, a2, a3, a4⟩, ⟨b1, b2, b3, b4⟩, c1, ⟨d1, d2, d3, d4, d5⟩, ⟨e1, e2, e3, e4⟩, f1, f2⟩ := h
  have e0 : ∀ j, T 0 j = S 0 j := fun j => congrFun (hq 0 (by unfold CL; omega)) j
  have e305 : T 305 = S 305 := hq 305 (by unfold CL; omega)
  refine ⟨⟨(hq 301 (by unfold CL; omega)).trans a1, a2, RW_c a3 (fun x x0 x1 => hq x (CL_W (by omega))), by rw [hq 2 (CL_W (by omega))]; exact LWo_M hL a4⟩, ⟨?_, ?_, ?_, ?_⟩, ?_, ⟨?_, ?_, imgI_q d3 hq (h3 3 (by omega)) hL, d4, by rw [hq 302 (by unfold CL; omega)]; exact d5⟩, ⟨?_, ?_, ?_, memI_q e4 hq (h3 6 (by omega))⟩, GR_q f1 (hq 312 (by unfold CL; omega)), Nat.le_trans f2 hL.2⟩
  · rw [e0, h3 8 (by omega)]; exact b1
  · rw [h3 8 (by omega)]; exact b2
  · rw [hq 1 (by unfold CL; omega), e305]; exact b3
  · intro j j0 j1; rw [e305]; exact b4 j j0 j1
  · rw [e0, h3 12 (by omega)]; exact c1
  · rw [e0, h3 3 (by omega)]; exact d1
  · rw [h3 3 (by omega)]; exact d2
  · rw [e0, h3 6 (by omega)]; exact e1
  · rw [h3 6 (by omega)]; exact e2
  · rw [e0]; exact e3
/-- the class changed nothing of it -/
theorem TOP_c {r : Int → Int} {S T : Nat → Int → Int} {m m1 : AM} (h : TOP r S m) (hq : ∀ a, a < 18 ∨ (36 ≤ a ∧ a < 52) ∨ 96 ≤ a → T a = S a) (hL : LM m m1) : TOP r T m1 := TOP_q h (fun a ha => hq a (by unfold CL at ha; omega)) (fun j _ => congrFun (hq 300 (by omega)) j) hL
theorem TOP_316 {r : Int → Int} {S T : Nat → Int → Int} {m : AM} (h : TOP r S m) (hq : ∀ a, a ≠ 316 → T a = S a) : TOP r T m := TOP_q h (fun a ha => hq a (by unfold CL at ha; omega)) (fun j _ => congrFun (hq 300 (by omega)) j) LM_r
/-- the reference's end: what always holds, what is thrown -/
def EN (r : Int → Int) (S2 T : Nat → Int → Int) (m : AM) (th : Int) : Prop := TOP r T m ∧ T 316 = S2 316 ∧ T 300 0 = th
theorem EN_th {r : Int → Int} {S : Nat → Int → Int} {m : AM} (h : TOP r S m) (c : Int) : EN r S (upS S 300 0 c) m c := ⟨TOP_q h (fun a ha => up_lit (by unfold CL at ha; omega)) (fun j hj => by rw [upS_at, if_neg (by omega)]) LM_r, up_lit (by decide), by rw [upS_at, if_pos ⟨rfl, rfl⟩]⟩
theorem EN_f {r : Int → Int} {S T : Nat → Int → Int} {m : AM} {c : Int} (h : TOP r S m) (h1 : ∀ a, CL a ∨ a = 316 → T a = upS S 300 0 c a) (h2 : ∀ j, j = 0 ∨ j = 3 ∨ j = 6 ∨ j = 8 ∨ j = 12 → T 300 j = upS S 300 0 c 300 j) : EN r S T m c := by
  have g := EN_th h c
  refine ⟨TOP_q g.1 (fun a ha => h1 a (Or.inl ha)) (fun j hj => h2 j (by omega)) LM_r, (h1 316 (Or.inr rfl)).trans g.2.1, (h2 0 (by omega)).trans g.2.2⟩
theorem EN_R {r : Int → Int} {S T : Nat → Int → Int} {m : AM} {c : Int} (h : TOP r S m) (x : SR (upS S 300 0 c) T) : EN r S T m c := EN_f h (fun a ha => x.1 a (by unfold CL at ha; omega) (by unfold CL at ha; omega)) x.2
theorem EN_Q {r : Int → Int} {S T : Nat → Int → Int} {m : AM} {c : Int} (h : TOP r S m) (x : SQ (upS S 300 0 c) T) : EN r S T m c := EN_f h (fun a ha => x.1 a (by unfold CL at ha; omega) (by unfold CL at ha; omega) (by unfold CL at ha; omega)) x.2
theorem EN_V {r : Int → Int} {S T : Nat → Int → Int} {m : AM} {c : Int} (h : TOP r S m) (x : SV (upS S 300 0 c) T) : EN r S T m c := EN_f h (fun a ha => x.1 a (by unfold CL at ha; omega) (by unfold CL at ha; omega) (by unfold CL at ha; omega)) x.2
/-- the reference runs on from here to what always holds, with P of what is thrown and of its answer -/
def NEXT0 (tb : Tab) (N : Nat) (bs : List AV) (S1 : Nat → Int → Int) (m1 : AM) (P : Int → Int → Prop) : Prop := ∀ (d : Nat) (K : Out → AM → Prop), (∀ T b r2 th, EN r2 S1 T m1 th → P th b → K (.inl (some (vi b))) (X T m1)) → Runs tb pg (d + 70) N bs (X S1 m1) K
def NEXT (tb : Tab) (N : Nat) (bs : List AV) (S1 : Nat → Int → Int) (m1 : AM) (P : Int → Int → Prop) : Prop := ∀ S2, (∀ a, a ≠ 316 → S2 a = S1 a) → NEXT0 tb N bs S2 m1 P
theorem NX {tb : Tab} {N : Nat} {bs : List AV} {r : Int → Int} {S1 : Nat → Int → Int} {m1 : AM} {P : Int → Int → Prop} (h : TOP r S1 m1) (g : ∀ S2, TOP r S2 m1 → NEXT0 tb N bs S2 m1 P) : NEXT tb N bs S1 m1 P := fun S2 h2 => g S2 (TOP_316 h h2)
def GRW (m m1 : AM) : Prop := m1.2.2.1 ≤ m.2.2.1 + 7 ∧ m1.2.2.2 ≤ m.2.2.2 + 600
theorem GRW_r {m : AM} : GRW m m := ⟨by omega, by omega⟩
theorem GRW_S {m m1 : AM} (h : MS m m1) : GRW m m1 := by unfold GRW; rw [h.1]; omega
theorem GRW_th {m : AM} : GRW m (mthrow m) := ⟨by show m.2.2.1 + 1 ≤ _; omega, by show m.2.2.2 + 6 ≤ _; omega⟩
theorem GRW_St {m m1 : AM} (h : MS m m1) : GRW m (mthrow m1) := by
  unfold GRW mthrow
  rw [h.1]
  refine ⟨?_, ?_⟩ <;> simp only <;> omega
/-- class and reference together: one call of each -/
def JT (tb : Tab) (M N : Nat) (as bs : List AV) (wr : Prop) (es : List (Nat × Int)) (S : Nat → Int → Int) (m : AM) : Prop := ∀ (d : Nat) (K : Out → AM → Prop),
  (∀ v S1 m1, (wr → R32 v) → GRW m m1 → NEXT tb N bs S1 m1 (fun th b => th = 0 ∧ b = v) → K (.inl (some (vi v))) (X S1 m1)) →
  (∀ E c S1 m1, (E, c) ∈ es → GRW m m1 → NEXT tb N bs S1 m1 (fun th _ => th = c) → K (.inr E) (X S1 m1)) → Runs tb pg (d + 70) M as (X S m) K
theorem R32_of {v : Int} (h : -1000000 ≤ v ∧ v ≤ 1000000) : R32 v := by unfold R32; omega
theorem R32_set {v n : Int} {c : Int → Prop} (hn : 0 ≤ n ∧ n ≤ 6) (h : v = setZ n c) : R32 v := by
  have a := setZ_lt (c := c) hn.1
  have b := pw_le64 hn.1 hn.2
  unfold R32
  omega
theorem yn_uq {x y : Int} {c : Prop} (h : yn x c) (g : yn y c) : x = y := by
  rcases h with ⟨h, h1⟩ | ⟨h, h1⟩ <;> rcases g with ⟨g, g1⟩ | ⟨g, g1⟩
  · omega
  · exact absurd h1 g1
  · exact absurd g1 h1
  · omega
theorem perM_uq {S : Nat → Int → Int} {p w v u : Int} (hw : 0 ≤ w ∧ w ≤ 8) (h : perM evL S p w v) (g : perM evL S p w u) : u = v := by
  obtain ⟨a1, a2, a3, a4, a5, a6, a7, a8, a9⟩ := h
  obtain ⟨b1, b2, b3, b4, b5, b6, b7, b8, b9⟩ := g
  have c : w < 2 ∨ w = 2 ∨ w = 3 ∨ w = 4 ∨ w = 5 ∨ w = 6 ∨ w = 7 ∨ w = 8 := by omega
  rcases c with c | c | c | c | c | c | c | c
  · rw [a1 c, b1 c]
  · rw [a2 c, b2 c]
  · exact yn_uq (b3 c) (a3 c)
  · rcases a4 c with ⟨x, y⟩ | ⟨x, y⟩ <;> rcases b4 c with ⟨x2, y2⟩ | ⟨x2, y2⟩
    · omega
    · exact absurd x x2
    · exact absurd x2 x
    · exact isFst_uq y2 y (fun _ _ _ => Iff.rfl)
  · obtain ⟨n, x, y⟩ := a5 c
    obtain ⟨n2, x2, y2⟩ := b5 c
    have := isLst_uq x x2
    subst this
    rw [y, y2]
  · exact isMinP_uq (b6 c) (a6 c) (fun _ _ _ => Iff.rfl) (fun _ _ _ => rfl)
  · rw [a7 c, b7 c]
  · by_cases z : sumZ (S 301 5) (fun k => dR S k 2) = 0
    · rw [a8 c z, b8 c z]
    · rw [a9 c z, b9 c z]
theorem isFst_rg {c : Int → Prop} {n r : Int} (h : isFst c n r) : -1 ≤ r ∧ (r < n ∨ r = -1) := by
  rcases h with ⟨h, -⟩ | ⟨h, h1, -⟩ <;> omega
theorem perM_R {r : Int → Int} {p w v : Int} (hA : AB r) (hS : DS r) (hp : 0 ≤ p ∧ p < r 4) (hw : 0 ≤ w ∧ w ≤ 8) (h : perM evL (fun _ => r) p w v) : R32 v := by
  obtain ⟨a1, a2, a3, a4, a5, a6, a7, a8, a9⟩ := h
  have b3 := hA.2.1.1
  have b4 := hA.2.1.2.1
  have pp := AB_pp hA hp.1 hp.2
  have c : (w = 0 ∨ w = 1) ∨ w = 2 ∨ w = 3 ∨ w = 4 ∨ w = 5 ∨ w = 6 ∨ w = 7 ∨ w = 8 := by omega
  refine R32_of ?_
  rcases c with c | c | c | c | c | c | c | c
  · have e : v = pr r p w := a1 (by omega)
    rcases c with c | c <;> rw [c] at e <;> omega
  · have e : v = leftM (pr r) p (pr r p 0) := a2 c
    have := leftM_le (P := pr r) (p := p) (n := pr r p 0) (by omega)
    omega
  · have := yn_rg (a3 c); omega
  · rcases a4 c with ⟨x, y⟩ | ⟨x, y⟩
    · omega
    · have := isFst_rg y
      have e : (fun _ => r : Nat → Int → Int) 301 4 = r 4 := rfl
      omega
  · obtain ⟨n, x, y⟩ := a5 c
    have := x.1
    split at y <;> omega
  · have := isMinP_rg (a6 c)
    have e : (fun _ => r : Nat → Int → Int) 301 3 = r 3 := rfl
    omega
  · have e : v = owesM (dr r) (r 5) p := a7 c
    have := owes_rg hA (p := p)
    omega
  · by_cases z : sumZ (r 5) (fun k => dr r k 2) = 0
    · have := a8 c z; omega
    · have e : v = 100 * owedByM (dr r) (r 5) p / sumZ (r 5) (fun k => dr r k 2) := a9 c z
      have sd := sum_DS hA hS
      have od := owed_DS hA hS (p := p)
      have h0 : 0 ≤ 100 * owedByM (dr r) (r 5) p / sumZ (r 5) (fun k => dr r k 2) := Int.ediv_nonneg (by omega) (by omega)
      have h1 : 100 * owedByM (dr r) (r 5) p / sumZ (r 5) (fun k => dr r k 2) ≤ 100 * owedByM (dr r) (r 5) p := Int.ediv_le_self _ (by omega)
      omega
theorem letV_uq {P : Int → Int → Int} {p k w v u : Int} (h : letV P p k w v) (g : letV P p k w u) : u = v := by
  rcases h with ⟨h, h1⟩ | ⟨h, h1⟩ <;> rcases g with ⟨g, g1⟩ | ⟨g, g1⟩
  · omega
  · exact absurd g h
  · exact absurd h g
  · rcases h1 with ⟨a, b⟩ | ⟨a, b, c⟩ | ⟨a, b, h1⟩ <;> rcases g1 with ⟨a2, b2⟩ | ⟨a2, b2, c2⟩ | ⟨a2, b2, g1⟩ <;> (try omega)
    all_goals first
      | (rw [b, b2])
      | (exfalso; exact absurd b b2)
      | (exfalso; exact absurd b2 b)
      | (rcases h1 with ⟨u1, u2⟩ | ⟨u1, u2⟩ | ⟨u1, q, u2, u3⟩ <;> rcases g1 with ⟨t1, t2⟩ | ⟨t1, t2⟩ | ⟨t1, q2, t2, t3⟩ <;> first | (exfalso; omega) | (rw [u2, t2]) | (rw [isFst_uq t2 u2 (fun _ _ _ => Iff.rfl)] at t3; rw [u3, t3]))
theorem letV_R {r : Int → Int} {p k w v : Int} (hA : AB r) (hp : 0 ≤ p ∧ p < r 4) (h : letV (pr r) p k w v) : R32 v := by
  have b0 := hA.1
  have b4 := hA.2.1.2.1
  have pp := AB_pp hA hp.1 hp.2
  have g : ∀ j, 0 ≤ j → -1 ≤ pr r p j ∧ pr r p j ≤ 10000 := fun j hj => b0 (31 + 20 * p + j) (by omega)
  refine R32_of ?_
  rcases h with ⟨h, h1⟩ | ⟨h, h1⟩
  · omega
  · rcases h1 with ⟨a, b⟩ | ⟨a, b, c⟩ | ⟨a, b, ⟨a, b⟩ | ⟨a, b⟩ | ⟨a, q, b, c⟩⟩
    · have := g (2 + k) (by omega); omega
    · omega
    · have := g (8 + k) (by omega); omega
    · have := g (14 + k) (by omega); omega
    · have := isFst_rg b
      split at c
      · omega
      · have := g (8 + q) (by omega); omega
theorem fieldV_R {r : Int → Int} {f w v : Int} (hA : AB r) (hf : 0 ≤ f ∧ f < r 3) (hw : 0 ≤ w ∧ w ≤ 4) (h : v = fieldV (pr r) (fr r) (r 4) f w) : R32 v := by
  have b3 := hA.2.1.1
  have b4 := hA.2.1.2.1
  have b0 := hA.1
  unfold fieldV at h
  split at h
  · have := b0 (13 + 3 * f + w) (by omega)
    have e : v = r (13 + 3 * f + w) := h
    exact R32_of (by omega)
  · split at h
    · have := used_r hA (f := f)
      exact R32_of (by omega)
    · exact R32_set b4 h
theorem trM_R {x : Int → Int} {n : Int} (hn : 1 ≤ n ∧ n ≤ 9) : ∀ k : Nat, (∀ i, 0 ≤ i → i < k → 0 ≤ x i ∧ x i ≤ 9) → 0 ≤ trM x n k ∧ trM x n k ≤ 9
  | 0, _ => ⟨by show (0 : Int) ≤ 0; omega, by show (0 : Int) ≤ 9; omega⟩
  | k + 1, h => by
    have ih := trM_R hn k (fun i i0 i1 => h i i0 (by omega))
    have g := h k (by omega) (by omega)
    have e : 0 ≤ trV n (x k) ∧ trV n (x k) ≤ 9 := by
      unfold trV
      split
      · split <;> omega
      · omega
    show 0 ≤ (if trV n (x k) < trM x n k then trM x n k else trV n (x k)) ∧ (if trV n (x k) < trM x n k then trM x n k else trV n (x k)) ≤ 9
    split <;> omega
theorem shH_R {F : Int → Int → Int} {nf : Int} : ∀ (k : Nat) (f : Int), 0 ≤ shH F nf k f ∧ shH F nf k f ≤ k
  | 0, f => ⟨by show (0 : Int) ≤ 0; omega, by show (0 : Int) ≤ 0; omega⟩
  | k + 1, f => by
    have ih := shH_R (F := F) (nf := nf) k f
    show 0 ≤ (if f = nxZ F (shH F nf k) (nf - 1) then shH F nf k f + 1 else shH F nf k f) ∧ (if f = nxZ F (shH F nf k) (nf - 1) then shH F nf k f + 1 else shH F nf k f) ≤ _
    split <;> omega
theorem lookM_uq {P : Int → Int → Int} {n s v u : Int} (h : lookM P n s v) (g : lookM P n s u) : u = v := by
  rcases h with ⟨h, h1⟩ | ⟨h, h1⟩ <;> rcases g with ⟨g, g1⟩ | ⟨g, g1⟩
  · exact isMinP_uq g1 h1 (fun _ _ _ => Iff.rfl) (fun _ _ _ => rfl)
  · exact absurd h g
  · exact absurd g h
  · omega
theorem lookM_R {P : Int → Int → Int} {n s v : Int} (h : lookM P n s v) : R32 v := by
  refine R32_of ?_
  rcases h with ⟨h, h1⟩ | ⟨h, h1⟩
  · have := isMinP_rg h1; omega
  · omega
theorem isMinP_R {c : Int → Prop} {v : Int → Int} {n r : Int} (hn : n ≤ 600) (h : isMinP c v n r) : R32 r := R32_of (by have := isMinP_rg h; omega)
theorem isMax_R {v : Int → Int} {n r : Int} (hn : 0 ≤ n ∧ n ≤ 600) (h : isMax v n r) : R32 r := R32_of (by have := isMax_rg hn.1 h; omega)
theorem dcN_rg {P : Int → Int → Int} {n one : Int} {f : Int → Int} (hn : 0 ≤ n ∧ n ≤ 6) : ∀ (k : Nat) (l : Int), 0 ≤ l → l < pw n → -1 ≤ dcN P n f one k l ∧ dcN P n f one k l ≤ 8
  | 0, _, _, _ => ⟨by show (-1 : Int) ≤ -1; omega, by show (-1 : Int) ≤ 8; omega⟩
  | k + 1, l, h0, h1 => by
    have q : pw n ≤ 64 := pw_le (q := 6) hn.1 hn.2
    by_cases y : l = 0
    · have e : dcN P n f one (k + 1) l = -1 := by
        show (if l = 0 then _ else _) = _
        rw [if_pos y]
      rw [e]; omega
    · obtain ⟨p, hp⟩ := isLow_ex (s := l) (by omega) (by omega)
      obtain ⟨w, hw⟩ := wi_ex (P := P) (n := n) (f := f) (l := l) hp.1.1
      have wl := wi_less hn (by omega) hp hw
      have r := wi_rg hw hp.1.1 hn.2
      have p8 := hp.1
      rw [dcN_s y hp hw]
      split
      · rcases r.2 with z | ⟨z0, z1, z2⟩ <;> omega
      · split
        · omega
        · exact dcN_rg hn k _ wl.1 (by omega)
theorem isOv_uq {P : Int → Int → Int} {p o n a b : Int} (h : isOv P p o n a) (g : isOv P p o n b) : a = b := by
  obtain ⟨h1, h2⟩ := h
  obtain ⟨g1, g2⟩ := g
  rcases Int.lt_trichotomy a b with y | y | y
  · rcases g1 with g1 | ⟨g1, g3, g4⟩
    · rcases h1 with h1 | ⟨h1, h3, h4⟩ <;> omega
    · exact absurd g4 (h2 b y g3 (by omega))
  · exact y
  · rcases h1 with h1 | ⟨h1, h3, h4⟩
    · rcases g1 with g1 | ⟨g1, g3, g4⟩ <;> omega
    · exact absurd h4 (g2 a y h3 (by omega))
theorem selA_uq {P : Int → Int → Int} {p o a b : Int} (h : selA P p o a) (g : selA P p o b) : a = b := by
  obtain ⟨s1, s2, x1, x2, h⟩ := h
  obtain ⟨t1, t2, y1, y2, g⟩ := g
  have e1 := isOv_uq x1 y1
  have e2 := isOv_uq x2 y2
  subst e1; subst e2
  rcases h with ⟨h1, h⟩ | ⟨h1, h2, h⟩ | ⟨h1, h2, ⟨h3, h⟩ | ⟨h3, h⟩⟩ <;> rcases g with ⟨g1, g⟩ | ⟨g1, g2, g⟩ | ⟨g1, g2, ⟨g3, g⟩ | ⟨g3, g⟩⟩ <;> first | omega | exact absurd h1 g1 | exact absurd g1 h1 | exact absurd h2 g2 | exact absurd g2 h2
theorem lenT_uq {P : Int → Int → Int} {a b n k : Int} (h : lenT P a b n) (g : lenT P a b k) : n = k := by
  rcases h with ⟨h, h1⟩ | ⟨h, s, h1, h2, h3, h4, h5⟩ <;> rcases g with ⟨g, g1⟩ | ⟨g, t, g1, g2, g3, g4, g5⟩
  · omega
  · exact absurd h g
  · exact absurd g h
  · have := isOv_uq h1 g1; omega
theorem od_le : ∀ n k : Fin 6, ∀ h : Fin 101, odR (n : Nat) (k : Nat) (h : Nat) ≤ odW (n : Nat) := by decide +kernel
theorem od_R {n k h v : Int} (hn : 0 ≤ n ∧ n ≤ 5) (hk : 0 ≤ k ∧ k ≤ 5) (hh : 0 ≤ h ∧ h ≤ 100) (e : v = 10000 * odR n k h / odW n) : R32 v := by
  have a := od_b hn hk hh
  have b := ow_b hn
  have c := od_le ⟨n.toNat, by omega⟩ ⟨k.toNat, by omega⟩ ⟨h.toNat, by omega⟩
  dsimp only at c
  rw [Int.toNat_of_nonneg hn.1, Int.toNat_of_nonneg hk.1, Int.toNat_of_nonneg hh.1] at c
  have h0 : 0 ≤ 10000 * odR n k h / odW n := Int.ediv_nonneg (by omega) (by omega)
  have h1 : 10000 * odR n k h / odW n ≤ 10000 := by
    have : 10000 * odR n k h / odW n ≤ 10000 * odW n / odW n := Int.ediv_le_ediv (by omega) (by omega)
    rw [Int.mul_ediv_cancel _ (by omega)] at this
    exact this
  exact R32_of (by omega)
theorem spN_R {c : Int → Int} {w : Int} (hc : ∀ i, -1 ≤ c i ∧ c i ≤ 31) : ∀ k : Nat, -1 ≤ spN c w k ∧ spN c w k ≤ 31
  | 0 => ⟨by show (-1 : Int) ≤ -1; omega, by show (-1 : Int) ≤ 31; omega⟩
  | k + 1 => by
    have ih := spN_R (w := w) hc k
    have g := hc (k + 1)
    show -1 ≤ (if spN c w k = -1 then c (k + 1) else if w = 0 then (if spN c w k < c (k + 1) then spN c w k else c (k + 1)) else (if c (k + 1) < spN c w k then spN c w k else c (k + 1))) ∧ (if spN c w k = -1 then c (k + 1) else if w = 0 then (if spN c w k < c (k + 1) then spN c w k else c (k + 1)) else (if c (k + 1) < spN c w k then spN c w k else c (k + 1))) ≤ 31
    split
    · exact g
    · split
      · split <;> omega
      · split <;> omega
