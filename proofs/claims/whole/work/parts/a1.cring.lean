/-! ===== THE CLASS: a ring of debts; the fewest payments ===== -/
/-- debts are from and to people that are there -/
def DN (r : Int → Int) : Prop := ∀ k, 0 ≤ k → k < r 5 → dr r k 0 < r 4 ∧ dr r k 1 < r 4
def rgM (c : Int → Int → Prop) (M a b r : Int) : Prop := (r = -1 ∧ ∀ p k, 0 ≤ p → 0 < k → ((p < a ∧ k ≤ M) ∨ (p = a ∧ k < b)) → ¬ c p k) ∨ ((0 < r ∧ ∃ p, 0 ≤ p ∧ ((p < a ∧ r ≤ M) ∨ (p = a ∧ r < b)) ∧ c p r) ∧ ∀ p k, 0 ≤ p → 0 < k → ((p < a ∧ k ≤ M) ∨ (p = a ∧ k < b)) → c p k → r ≤ k)
section rg
variable {c : Int → Int → Prop} {M a b r : Int}
theorem rgM_0 : rgM c M 0 1 (-1) := Or.inl ⟨rfl, fun p k h0 h1 h2 => by omega⟩
theorem rgM_next (h : rgM c M a (M + 1) r) : rgM c M (a + 1) 1 r := by
  rcases h with ⟨h1, h2⟩ | ⟨⟨h1, p, p0, p1, p2⟩, h3⟩
  · exact Or.inl ⟨h1, fun p k p0 k0 hk => h2 p k p0 k0 (by omega)⟩
  · exact Or.inr ⟨⟨h1, p, p0, by omega, p2⟩, fun p k p0 k0 hk => h3 p k p0 k0 (by omega)⟩
theorem rgM_n (h : rgM c M a b r) (z : ¬ c a b ∨ (r ≠ -1 ∧ r ≤ b)) : rgM c M a (b + 1) r := by
  rcases h with ⟨h1, h2⟩ | ⟨⟨h1, p, p0, p1, p2⟩, h3⟩
  · refine Or.inl ⟨h1, fun p k p0 k0 hk => ?_⟩
    by_cases y : p = a ∧ k = b
    · rw [y.1, y.2]; rcases z with z | z
      · exact z
      · exact absurd h1 z.1
    · exact h2 p k p0 k0 (by omega)
  · refine Or.inr ⟨⟨h1, p, p0, by omega, p2⟩, fun p k p0 k0 hk hc => ?_⟩
    by_cases y : p = a ∧ k = b
    · rw [y.1, y.2] at hc
      rcases z with z | z
      · exact absurd hc z
      · omega
    · exact h3 p k p0 k0 (by omega) hc
theorem rgM_y (ha : 0 ≤ a) (hb : 0 < b) (h : rgM c M a b r) (hc : c a b) (z : r = -1 ∨ b < r) : rgM c M a (b + 1) b := by
  refine Or.inr ⟨⟨hb, a, ha, Or.inr ⟨rfl, by omega⟩, hc⟩, fun p k p0 k0 hk hk2 => ?_⟩
  by_cases y : p = a ∧ k = b
  · omega
  · rcases h with ⟨h1, h2⟩ | ⟨_, h3⟩
    · exact absurd hk2 (h2 p k p0 k0 (by omega))
    · have := h3 p k p0 k0 (by omega) hk2
      omega
theorem rgM_skip (hr : r ≠ -1) : ∀ j : Nat, r ≤ b → rgM c M a b r → rgM c M a (b + j) r
  | 0, _, h => by rw [show b + ((0 : Nat) : Int) = b by omega]; exact h
  | j + 1, hb, h => by
    have ih := rgM_skip hr j hb h
    rw [show b + ((j + 1 : Nat) : Int) = (b + j) + 1 by omega]
    exact rgM_n ih (Or.inr ⟨hr, by omega⟩)
theorem rgM_to (hr : r ≠ -1) (hb : r ≤ b) (hM : b ≤ M + 1) (h : rgM c M a b r) : rgM c M (a + 1) 1 r := by
  have := rgM_skip hr (M + 1 - b).toNat hb h
  rw [show b + ((M + 1 - b).toNat : Int) = M + 1 by omega] at this
  exact rgM_next this
theorem rgM_rg (h : rgM c M a b r) : r = -1 ∨ 0 < r := by
  rcases h with h | h
  · exact Or.inl h.1
  · exact Or.inr h.1.1
end rg
theorem rgM_rg2 {c : Int → Int → Prop} {M a b r : Int} (h : rgM c M a b r) (hb : b ≤ M + 1) (hM : 0 ≤ M) : -1 ≤ r ∧ r ≤ M := by
  rcases h with ⟨h1, h2⟩ | ⟨⟨h1, p, p0, p1, p2⟩, h3⟩ <;> omega
/-- one owes another one -/
def edg (D : Int → Int → Int) (n a b : Int) : Prop := ∃ j, 0 ≤ j ∧ j < n ∧ D j 0 = a ∧ D j 1 = b
/-- a way of debts -/
def wlk (D : Int → Int → Int) (n p : Int) : Nat → Int → Prop
  | 0, q => q = p
  | k + 1, q => ∃ x, wlk D n p k x ∧ edg D n x q
theorem bt_one : ∀ p : Fin 6, ∀ q : Fin 8, (andI (shrI (shlI 1 (p : Nat)) (q : Nat)) 1 = 1 ↔ (q : Nat) = (p : Nat)) := by decide +kernel
theorem bit_one {p q : Int} (p0 : 0 ≤ p) (p1 : p < 6) (q0 : 0 ≤ q) (q1 : q < 8) : bitB (shlI 1 p) q ↔ q = p := by
  have h := bt_one ⟨p.toNat, by omega⟩ ⟨q.toNat, by omega⟩
  simp only [Int.toNat_of_nonneg p0, Int.toNat_of_nonneg q0] at h
  unfold bitB
  rw [h]
  omega
theorem it_walk {D : Int → Int → Int} {n p : Int} (p0 : 0 ≤ p) (p1 : p < 6) (hD : ∀ j, 0 ≤ j → j < n → 0 ≤ D j 0 ∧ D j 0 < 6) : ∀ (k : Nat) (q : Int), 0 ≤ q → q < 8 → (bitB (itD D n (shlI 1 p) k) q ↔ wlk D n p k q)
  | 0, q, q0, q1 => bit_one p0 p1 q0 q1
  | k + 1, q, q0, q1 => by
    show bitB (dbF D n (itD D n (shlI 1 p) k)) q ↔ _
    unfold dbF
    rw [bit_set (by decide) q0 q1]
    constructor
    · intro ⟨j, j0, j1, j2, j3⟩
      exact ⟨D j 0, (it_walk p0 p1 hD k _ (hD j j0 j1).1 (by have := (hD j j0 j1).2; omega)).mp j2, j, j0, j1, rfl, j3⟩
    · intro ⟨x, x1, j, j0, j1, j2, j3⟩
      refine ⟨j, j0, j1, ?_, j3⟩
      rw [j2]
      have := hD j j0 j1
      rw [j2] at this
      exact (it_walk p0 p1 hD k _ this.1 (by omega)).mpr x1
theorem walk_path {D : Int → Int → Int} {n p : Int} : ∀ (k : Nat) (q : Int), wlk D n p k q → ∃ x : Nat → Int, x 0 = p ∧ x k = q ∧ ∀ i, i < k → edg D n (x i) (x (i + 1))
  | 0, q, h => ⟨fun _ => p, rfl, h.symm, fun i hi => by omega⟩
  | k + 1, q, ⟨y, h1, h2⟩ => by
    obtain ⟨x, x0, xk, hx⟩ := walk_path k y h1
    obtain ⟨X, hX⟩ : ∃ X : Nat → Int, ∀ i, X i = if i ≤ k then x i else q := ⟨_, fun _ => rfl⟩
    refine ⟨X, ?_, ?_, fun i hi => ?_⟩
    · rw [hX, if_pos (Nat.zero_le _)]; exact x0
    · rw [hX, if_neg (by omega)]
    · by_cases z : i < k
      · rw [hX, hX, if_pos (by omega), if_pos (by omega)]; exact hx i z
      · have : i = k := by omega
        subst this
        rw [hX, hX, if_pos (Nat.le_refl _), if_neg (by omega), xk]; exact h2
theorem path_walk {D : Int → Int → Int} {n : Int} {x : Nat → Int} {i : Nat} : ∀ j : Nat, (∀ l, i ≤ l → l < i + j → edg D n (x l) (x (l + 1))) → wlk D n (x i) j (x (i + j))
  | 0, _ => rfl
  | j + 1, h => ⟨x (i + j), path_walk j (fun l l0 l1 => h l l0 (by omega)), h (i + j) (by omega) (by omega)⟩
/-- more things than places: two at one place -/
theorem pigeon : ∀ (n m : Nat) (x : Nat → Int), (∀ i, i < m → 0 ≤ x i ∧ x i < n) → n < m → ∃ i j, i < j ∧ j < m ∧ x i = x j
  | 0, m, x, h, hm => by have := h 0 hm; omega
  | n + 1, m, x, h, hm => by
    refine Classical.byContradiction fun g => ?_
    have inj : ∀ i j, i < j → j < m → x i ≠ x j := fun i j h1 h2 e => g ⟨i, j, h1, h2, e⟩
    have hv := h (m - 1) (by omega)
    obtain ⟨i, j, i1, i2, i3⟩ := pigeon n (m - 1) (fun i => if x i = n then x (m - 1) else x i) (fun i hi => by
      have a := h i (by omega)
      have b := inj i (m - 1) (by omega) (by omega)
      split <;> omega) (by omega)
    have a := inj i (m - 1) (by omega) (by omega)
    have b := inj j (m - 1) (by omega) (by omega)
    have c := inj i j i1 (by omega)
    split at i3 <;> split at i3 <;> omega
theorem ring_short {D : Int → Int → Int} {n np : Int} (hD : ∀ j, 0 ≤ j → j < n → (0 ≤ D j 0 ∧ D j 0 < np) ∧ (0 ≤ D j 1 ∧ D j 1 < np)) : ∀ (k : Nat) (p : Int), 0 < k → wlk D n p k p → ∃ (p2 : Int) (k2 : Nat), (0 ≤ p2 ∧ p2 < np) ∧ (0 < k2 ∧ (k2 : Int) ≤ np ∧ k2 ≤ k) ∧ wlk D n p2 k2 p2 := by
  intro k
  induction k using Nat.strongRecOn with
  | _ k ih =>
    intro p hk h
    obtain ⟨x, x0, xk, hx⟩ := walk_path k p h
    have rg : ∀ i, i < k → 0 ≤ x i ∧ x i < np := fun i hi => by
      obtain ⟨j, j0, j1, j2, j3⟩ := hx i hi
      have := (hD j j0 j1).1
      omega
    have r0 := rg 0 hk
    by_cases z : (k : Int) ≤ np
    · exact ⟨p, k, by rw [← x0]; exact r0, ⟨hk, z, Nat.le_refl _⟩, h⟩
    · obtain ⟨i, j, i1, i2, i3⟩ := pigeon np.toNat k x (fun i hi => by have := rg i hi; omega) (by omega)
      have w := path_walk (D := D) (n := n) (x := x) (i := i) (j - i) (fun l l0 l1 => hx l (by omega))
      rw [show i + (j - i) = j by omega, ← i3] at w
      obtain ⟨p2, k2, a, b, c⟩ := ih (j - i) (by omega) (x i) (by omega) w
      exact ⟨p2, k2, a, ⟨b.1, b.2.1, by omega⟩, c⟩
theorem way_walk {D : Int → Int → Int} {n p k : Int} (p0 : 0 ≤ p) (p1 : p < 6) (k0 : 0 ≤ k) (hD : ∀ j, 0 ≤ j → j < n → 0 ≤ D j 0 ∧ D j 0 < 6) : wayM D n p k ↔ wlk D n p k.toNat p := it_walk p0 p1 hD k.toNat p p0 (by omega)
theorem ring_is {r : Int → Int} (hA : AB r) (hN : DN r) {v : Int} (h : rgM (wayM (dr r) (r 5)) (r 4) (r 4) 1 v) : isRing (wayM (dr r) (r 5)) (r 4) 1 v := by
  have q4 := hA.2.1.2.1
  have hd6 : ∀ j, 0 ≤ j → j < r 5 → 0 ≤ dr r j 0 ∧ dr r j 0 < 6 := fun j j0 j1 => (AB_dd hA j0 j1).1
  have hd : ∀ j, 0 ≤ j → j < r 5 → (0 ≤ dr r j 0 ∧ dr r j 0 < r 4) ∧ (0 ≤ dr r j 1 ∧ dr r j 1 < r 4) := fun j j0 j1 => by
    have a := AB_dd hA j0 j1
    have b := hN j j0 j1
    omega
  have key : ∀ p k, 0 ≤ p → p < r 4 → 0 < k → wayM (dr r) (r 5) p k → ∃ p2 k2, (0 ≤ p2 ∧ p2 < r 4) ∧ (0 < k2 ∧ k2 ≤ r 4 ∧ k2 ≤ k) ∧ wayM (dr r) (r 5) p2 k2 := fun p k p0 p1 k0 hw => by
    obtain ⟨p2, k2, a, b, c⟩ := ring_short hd k.toNat p (by omega) ((way_walk p0 (by omega) (by omega) hd6).mp hw)
    refine ⟨p2, k2, a, by omega, (way_walk a.1 (by omega) (by omega) hd6).mpr ?_⟩
    exact c
  rcases h with ⟨h1, h2⟩ | ⟨⟨h1, p, p0, p1, p2⟩, h3⟩
  · refine Or.inl ⟨h1, fun p k p0 k0 hk hw => ?_⟩
    obtain ⟨p2, k2, a, b, c⟩ := key p k p0 (by omega) k0 hw
    exact h2 p2 k2 a.1 b.1 (Or.inl ⟨a.2, b.2.1⟩) c
  · refine Or.inr ⟨⟨h1, by omega, p, p0, by omega, p2⟩, fun p k p0 k0 hk hw => ?_⟩
    obtain ⟨p2, k2, a, b, c⟩ := key p k p0 (by omega) k0 hw
    have := h3 p2 k2 a.1 b.1 (Or.inl ⟨a.2, b.2.1⟩) c
    omega
theorem isRing_uq {c : Int → Int → Prop} {a v u : Int} (h : isRing c a 1 v) (g : isRing c a 1 u) : v = u := by
  rcases h with ⟨h1, h2⟩ | ⟨⟨h1, h4, p, p0, p1, p2⟩, h3⟩
  · rcases g with ⟨g1, g2⟩ | ⟨⟨g1, g4, q, q0, q1, q2⟩, g3⟩
    · omega
    · exact absurd q2 (h2 q u q0 g1 (by omega))
  · rcases g with ⟨g1, g2⟩ | ⟨⟨g1, g4, q, q0, q1, q2⟩, g3⟩
    · exact absurd p2 (g2 p v p0 h1 (by omega))
    · have a := h3 q u q0 g1 (by omega) q2
      have b := g3 p v p0 h1 (by omega) p2
      omega
/-! THE CLASS: the fewest payments -/
def st93 (T : Nat → Int → Int) (ok : Int → Prop) (k n : Int) : Prop := isSt ok k (T 93) n ∧ ∀ s, 0 ≤ s → s < n → 0 ≤ T 93 s ∧ T 93 s ≤ s
theorem st93_1 {T : Nat → Int → Int} {ok : Int → Prop} {k : Int} : st93 (upS T 93 0 0) ok k 1 := by
  have e : upS T 93 0 0 93 0 = 0 := by rw [upS_at]; rfl
  refine ⟨⟨e, fun s h1 h2 => by omega⟩, fun s h0 h1 => ?_⟩
  have : s = 0 := by omega
  subst this
  omega
theorem st93_s {T : Nat → Int → Int} {ok : Int → Prop} {n k x y : Int} (h : st93 T ok k n) (hk : k ≤ 6) (hn : 1 ≤ n ∧ n < 64) (hx : isMxS (T 93) n k x) (hb : x < n) (hy : (ok n ∧ y = x + 1) ∨ (¬ ok n ∧ y = x)) : st93 (upS T 93 n y) ok k (n + 1) := by
  have e : ∀ j, j ≠ n → T 93 j = upS T 93 n y 93 j := fun j hj => by rw [upS_at, if_neg (fun z => hj z.2)]
  have e2 : upS T 93 n y 93 n = y := by rw [upS_at, if_pos ⟨rfl, rfl⟩]
  have h0 := hx.1
  refine ⟨⟨?_, fun s h1 h2 => ?_⟩, fun s h1 h2 => ?_⟩
  · rw [← e 0 (by omega)]; exact h.1.1
  · by_cases q : s = n
    · subst q
      exact ⟨x, isMxS_congr hx (by omega) hk (fun j j0 j1 => e j (by omega)), by rw [e2]; exact hy⟩
    · obtain ⟨z, z1, z2⟩ := h.1.2 s h1 (by omega)
      exact ⟨z, isMxS_congr z1 (by omega) hk (fun j j0 j1 => e j (by omega)), by rw [← e s q]; exact z2⟩
  · by_cases q : s = n
    · subst q; rw [e2]; omega
    · rw [← e s q]; exact h.2 s h1 (by omega)
theorem st93_lt {T : Nat → Int → Int} {ok : Int → Prop} {k n j x : Int} (h : st93 T ok k n) (hn : 1 ≤ n ∧ n < 64) (hj : j ≤ 6) (hx : isMxS (T 93) n j x) : 0 ≤ x ∧ x < n := by
  refine ⟨hx.1, ?_⟩
  rcases hx.2.2 with y | ⟨p, p0, p1, p2, p3⟩
  · omega
  · have c := clr_eq (s := n) (p := p) (by omega) hn.2 p0 (by omega) p2
    have pp := pw_pos p
    have := h.2 (n - pw p) (by omega) (by omega)
    omega
theorem isMxS_is {f : Int → Int} {s n x y : Int} (h : isMxS f s n x) (g : isMxS f s n y) : x = y := by
  obtain ⟨h1, h2, h3⟩ := h
  obtain ⟨g1, g2, g3⟩ := g
  rcases h3 with a | ⟨p, p0, p1, p2, p3⟩
  · rcases g3 with b | ⟨q, q0, q1, q2, q3⟩
    · omega
    · have := h2 q q0 q1 q2; omega
  · rcases g3 with b | ⟨q, q0, q1, q2, q3⟩
    · have := g2 p p0 p1 p2; omega
    · have := h2 q q0 q1 q2
      have := g2 p p0 p1 p2
      omega
theorem bt_sub : ∀ s : Fin 64, ∀ p : Fin 6, ∀ j : Fin 8, andI (shrI (s : Nat) (p : Nat)) 1 = 1 → (andI (shrI (((s : Nat) : Int) - pw (p : Nat)) (j : Nat)) 1 = 1 ↔ andI (shrI (s : Nat) (j : Nat)) 1 = 1 ∧ (j : Nat) ≠ (p : Nat)) := by decide +kernel
theorem bit_sub {s p j : Int} (s0 : 0 ≤ s) (s1 : s < 64) (p0 : 0 ≤ p) (p1 : p < 6) (hb : bitB s p) (j0 : 0 ≤ j) (j1 : j < 8) : bitB (s - pw p) j ↔ bitB s j ∧ j ≠ p := by
  have h := bt_sub ⟨s.toNat, by omega⟩ ⟨p.toNat, by omega⟩ ⟨j.toNat, by omega⟩
  simp only [Int.toNat_of_nonneg s0, Int.toNat_of_nonneg p0, Int.toNat_of_nonneg j0] at h
  have := h hb
  unfold bitB at *
  rw [this]
  omega
theorem bt_ex : ∀ s : Fin 64, 0 < (s : Nat) → ∃ j : Fin 6, andI (shrI (s : Nat) (j : Nat)) 1 = 1 := by decide +kernel
theorem bit_ex6 {s : Int} (s0 : 0 < s) (s1 : s < 64) : ∃ j, 0 ≤ j ∧ j < 6 ∧ bitB s j := by
  obtain ⟨j, h⟩ := bt_ex ⟨s.toNat, by omega⟩ (by show 0 < s.toNat; omega)
  rw [show ((⟨s.toNat, by omega⟩ : Fin 64) : Nat) = s.toNat from rfl, Int.toNat_of_nonneg (by omega)] at h
  exact ⟨j, by omega, by omega, h⟩
section settle
variable {D : Int → Int → Int} {k n : Int} {f g : Int → Int}
theorem bal_sub {s p N : Int} (s0 : 0 ≤ s) (s1 : s < 64) (p0 : 0 ≤ p) (p1 : p < 6) (hN : N ≤ 8) (hb : bitB s p) (hz : owesM D k p = 0) : balM D k N (s - pw p) = balM D k N s := sumZ_congr fun j j0 j1 => by
  have e := bit_sub s0 s1 p0 p1 hb j0 (by omega)
  by_cases y : bitB s j
  · by_cases z : j = p
    · rw [if_neg (fun w => (e.mp w).2 z), if_pos y, z, hz]
    · rw [if_pos (e.mpr ⟨y, z⟩), if_pos y]
  · rw [if_neg (fun w => y (e.mp w).1), if_neg y]
/-- one whose balance is none is a group alone -/
theorem st_zero {ok : Int → Prop} (hn : 0 ≤ n ∧ n ≤ 6) (hf : isSt ok n f (pw n)) (hok : ∀ s p, 0 ≤ s → s < pw n → bitB s p → 0 ≤ p → p < n → owesM D k p = 0 → (ok (s - pw p) ↔ ok s)) (hok0 : ok 0) {p : Int} (p0 : 0 ≤ p) (p1 : p < n) (hz : owesM D k p = 0) : ∀ m : Nat, ∀ s : Int, s = m → s < pw n → bitB s p → f s = f (s - pw p) + 1 := by
  have q : pw n ≤ 64 := pw_le (q := 6) hn.1 hn.2
  intro m
  induction m using Nat.strongRecOn with
  | _ m ih =>
    intro s hs s1 hb
    have c := clr_eq (s := s) (p := p) (by omega) (by omega) p0 (by omega) hb
    have pp := pw_pos p
    have ho := hok s p (by omega) s1 hb p0 p1 hz
    obtain ⟨x, x1, x2⟩ := hf.2 s (by omega) s1
    obtain ⟨m0, m1, m2⟩ := x1
    have a := m1 p p0 p1 hb
    by_cases y : s - pw p = 0
    · rw [y] at ho a ⊢
      have os : ok s := ho.mp hok0
      have f0 := hf.1
      have xs : x = 0 := by
        rcases m2 with w | ⟨t, t0, t1, t2, t3⟩
        · exact w
        · have ct := clr_eq (s := s) (p := t) (by omega) (by omega) t0 (by omega) t2
          have bs := bit_sub (s := s) (p := p) (j := t) (by omega) (by omega) p0 (by omega) hb t0 (by omega)
          have : t = p := Decidable.byContradiction fun z => by
            have : bitB (s - pw p) t := bs.mpr ⟨t2, z⟩
            rw [y] at this
            exact bit_0 t0 (by omega) this
          subst this
          rw [y] at t3
          omega
      rcases x2 with w | w
      · omega
      · exact absurd os w.1
    · have ge : 0 < s - pw p := by omega
      have gl : s - pw p < 64 := by omega
      obtain ⟨u, u1, u2⟩ := hf.2 (s - pw p) (by omega) (by omega)
      obtain ⟨v0, v1, v2⟩ := u1
      have sub : ∀ t, 0 ≤ t → t < n → t ≠ p → bitB s t → f (s - pw t) = f (s - pw p - pw t) + 1 := fun t t0 t1 tp tb => by
        have ct := clr_eq (s := s) (p := t) (by omega) (by omega) t0 (by omega) tb
        have pt := pw_pos t
        have := ih (s - pw t).toNat (by omega) (s - pw t) (by omega) (by omega) ((bit_sub (by omega) (by omega) t0 (by omega) tb p0 (by omega)).mpr ⟨hb, fun e => tp e.symm⟩)
        rw [this, show s - pw t - pw p = s - pw p - pw t by omega]
      have xu : x ≤ u + 1 ∨ x ≤ f (s - pw p) := by
        rcases m2 with w | ⟨t, t0, t1, t2, t3⟩
        · left; omega
        · by_cases tp : t = p
          · right; rw [← t3, tp]; exact Int.le_refl _
          · left
            have e1 := sub t t0 t1 tp t2
            have e2 := v1 t t0 t1 ((bit_sub (by omega) (by omega) p0 (by omega) hb t0 (by omega)).mpr ⟨t2, tp⟩)
            omega
      have ux : u + 1 ≤ x ∨ u = 0 := by
        rcases v2 with w | ⟨t, t0, t1, t2, t3⟩
        · exact Or.inr w
        · left
          have bt := (bit_sub (s := s) (p := p) (j := t) (by omega) (by omega) p0 (by omega) hb t0 (by omega)).mp t2
          have e1 := sub t t0 t1 bt.2 bt.1
          have e2 := m1 t t0 t1 bt.1
          omega
      obtain ⟨t, t0, t1, t2⟩ := bit_ex6 ge gl
      have bt := (bit_sub (s := s) (p := p) (j := t) (by omega) (by omega) p0 (by omega) hb t0 (by omega)).mp t2
      have tn : t < n := Decidable.byContradiction fun z => bit_top hn.1 hn.2 (by omega) s1 (by omega : n ≤ t) (by omega) bt.1
      have e1 := sub t t0 tn bt.2 bt.1
      have e2 := m1 t t0 tn bt.1
      have e3 := v1 t t0 tn t2
      have f0 : 0 ≤ f (s - pw p - pw t) := by
        by_cases w : s - pw p - pw t = 0
        · rw [w, hf.1]; exact Int.le_refl _
        · have ct := clr_eq (s := s - pw p) (p := t) (by omega) (by omega) t0 (by omega) t2
          have pt := pw_pos t
          obtain ⟨y9, z1, z2⟩ := hf.2 (s - pw p - pw t) (by omega) (by omega)
          have := z1.1
          rcases z2 with w | w <;> omega
      rcases x2 with w | w <;> rcases u2 with z | z
      · omega
      · exact absurd (ho.mpr w.1) z.1
      · exact absurd (ho.mp z.1) w.1
      · omega
theorem st_same {ok ok2 : Int → Prop} {all : Int} (hn : 0 ≤ n ∧ n ≤ 6) (hf : isSt ok n f (pw n)) (hg : isSt ok2 6 g 64) (hok : ∀ s, 0 ≤ s → s < pw n → (∀ j, 0 ≤ j → j < 8 → bitB s j → bitB all j) → (ok s ↔ ok2 s)) : ∀ m : Nat, ∀ s : Int, s = m → s < pw n → (∀ j, 0 ≤ j → j < 8 → bitB s j → bitB all j) → f s = g s := by
  have q : pw n ≤ 64 := pw_le (q := 6) hn.1 hn.2
  intro m
  induction m using Nat.strongRecOn with
  | _ m ih =>
    intro s hs s1 ha
    by_cases z : s = 0
    · rw [z, hf.1, hg.1]
    · obtain ⟨x, x1, x2⟩ := hf.2 s (by omega) s1
      obtain ⟨u, u1, u2⟩ := hg.2 s (by omega) (by omega)
      have ho := hok s (by omega) s1 ha
      have sub : ∀ t, 0 ≤ t → t < 6 → bitB s t → f (s - pw t) = g (s - pw t) := fun t t0 t1 tb => by
        have ct := clr_eq (s := s) (p := t) (by omega) (by omega) t0 t1 tb
        have pt := pw_pos t
        exact ih (s - pw t).toNat (by omega) (s - pw t) (by omega) (by omega) (fun j j0 j1 hj => ha j j0 j1 ((bit_sub (by omega) (by omega) t0 t1 tb j0 j1).mp hj).1)
      have top : ∀ t, 0 ≤ t → t < 6 → bitB s t → t < n := fun t t0 t1 tb => Decidable.byContradiction fun w => bit_top hn.1 hn.2 (by omega) s1 (by omega : n ≤ t) (by omega) tb
      have xu : x = u := by
        refine isMxS_is (f := g) (s := s) (n := 6) ⟨x1.1, fun t t0 t1 tb => ?_, ?_⟩ u1
        · rw [← sub t t0 t1 tb]; exact x1.2.1 t t0 (top t t0 t1 tb) tb
        · rcases x1.2.2 with w | ⟨t, t0, t1, t2, t3⟩
          · exact Or.inl w
          · exact Or.inr ⟨t, t0, by omega, t2, by rw [← sub t t0 (by omega) t2]; exact t3⟩
      rcases x2 with w | w <;> rcases u2 with y | y
      · omega
      · exact absurd (ho.mp w.1) y.1
      · exact absurd (ho.mpr y.1) w.1
      · omega
end settle
theorem bt_full : ∀ n : Fin 7, ∀ j : Fin 8, (andI (shrI (pw (n : Nat) - 1) (j : Nat)) 1 = 1 ↔ (j : Nat) < (n : Nat)) := by decide +kernel
theorem bt_fulln : ∀ n : Fin 7, bitsM (pw (n : Nat) - 1) 31 = (n : Nat) := by decide +kernel
theorem bt_less : ∀ s : Fin 64, ∀ p : Fin 6, andI (shrI (s : Nat) (p : Nat)) 1 = 1 → bitsM (((s : Nat) : Int) - pw (p : Nat)) 31 = bitsM (s : Nat) 31 - 1 := by decide +kernel
theorem bt_subset : ∀ s a : Fin 64, (∀ j : Fin 6, andI (shrI (s : Nat) (j : Nat)) 1 = 1 → andI (shrI (a : Nat) (j : Nat)) 1 = 1) → andI (s : Nat) (xorI (a : Nat) (-1)) = 0 := by decide +kernel
theorem bit_full {n j : Int} (hn : 0 ≤ n ∧ n ≤ 6) (j0 : 0 ≤ j) (j1 : j < 8) : bitB (pw n - 1) j ↔ j < n := by
  have h := bt_full ⟨n.toNat, by omega⟩ ⟨j.toNat, by omega⟩
  simp only [Int.toNat_of_nonneg hn.1, Int.toNat_of_nonneg j0] at h
  unfold bitB
  rw [h]
  omega
theorem bits_full {n : Int} (hn : 0 ≤ n ∧ n ≤ 6) : bitsM (pw n - 1) 31 = n := by
  have h := bt_fulln ⟨n.toNat, by omega⟩
  simp only [Int.toNat_of_nonneg hn.1] at h
  exact h
theorem bits_less {s p : Int} (s0 : 0 ≤ s) (s1 : s < 64) (p0 : 0 ≤ p) (p1 : p < 6) (hb : bitB s p) : bitsM (s - pw p) 31 = bitsM s 31 - 1 := by
  have h := bt_less ⟨s.toNat, by omega⟩ ⟨p.toNat, by omega⟩
  simp only [Int.toNat_of_nonneg s0, Int.toNat_of_nonneg p0] at h
  exact h hb
theorem sub_and {s a : Int} (s0 : 0 ≤ s) (s1 : s < 64) (a0 : 0 ≤ a) (a1 : a < 64) (h : ∀ j, 0 ≤ j → j < 8 → bitB s j → bitB a j) : andI s (xorI a (-1)) = 0 := by
  have g := bt_subset ⟨s.toNat, by omega⟩ ⟨a.toNat, by omega⟩
  simp only [Int.toNat_of_nonneg s0, Int.toNat_of_nonneg a0] at g
  exact g (fun j hj => h j (by omega) (by omega) hj)
/-- all but those without a balance below i -/
noncomputable def rzN (D : Int → Int → Int) (k n : Int) : Nat → Int
  | 0 => pw n - 1
  | i + 1 => if owesM D k i = 0 then rzN D k n i - pw i else rzN D k n i
section settle2
variable {D : Int → Int → Int} {k n : Int} {f g : Int → Int}
theorem rz_is (hn : 0 ≤ n ∧ n ≤ 6) : ∀ i : Nat, (i : Int) ≤ n → (0 ≤ rzN D k n i ∧ rzN D k n i < pw n) ∧ ∀ j, 0 ≤ j → j < 8 → (bitB (rzN D k n i) j ↔ j < n ∧ (j < i → owesM D k j ≠ 0))
  | 0, _ => by
    have := pw_pos n
    refine ⟨⟨by show 0 ≤ pw n - 1; omega, by show pw n - 1 < pw n; omega⟩, fun j j0 j1 => ?_⟩
    show bitB (pw n - 1) j ↔ _
    rw [bit_full hn j0 j1]
    exact ⟨fun y => ⟨y, fun z => by omega⟩, fun y => y.1⟩
  | i + 1, h => by
    obtain ⟨a, b⟩ := rz_is hn i (by omega)
    have q : pw n ≤ 64 := pw_le (q := 6) hn.1 hn.2
    show (0 ≤ (if owesM D k i = 0 then rzN D k n i - pw i else rzN D k n i) ∧ (if owesM D k i = 0 then rzN D k n i - pw i else rzN D k n i) < pw n) ∧ ∀ j, 0 ≤ j → j < 8 → (bitB (if owesM D k i = 0 then rzN D k n i - pw i else rzN D k n i) j ↔ _)
    by_cases y : owesM D k i = 0
    · rw [if_pos y]
      have hb : bitB (rzN D k n i) i := (b i (by omega) (by omega)).mpr ⟨by omega, fun z => by omega⟩
      have c := clr_eq a.1 (by omega) (by omega : (0 : Int) ≤ i) (by omega) hb
      have pp := pw_pos (i : Int)
      refine ⟨by omega, fun j j0 j1 => ?_⟩
      rw [bit_sub a.1 (by omega) (by omega) (by omega) hb j0 j1, b j j0 j1]
      constructor
      · intro ⟨⟨z1, z2⟩, z3⟩
        exact ⟨z1, fun w => z2 (by omega)⟩
      · intro ⟨z1, z2⟩
        refine ⟨⟨z1, fun w => z2 (by omega)⟩, fun e => ?_⟩
        subst e
        exact z2 (by omega) y
    · rw [if_neg y]
      refine ⟨a, fun j j0 j1 => ?_⟩
      rw [b j j0 j1]
      constructor
      · intro ⟨z1, z2⟩
        refine ⟨z1, fun w => ?_⟩
        by_cases e : j = i
        · rw [e]; exact y
        · exact z2 (by omega)
      · intro ⟨z1, z2⟩
        exact ⟨z1, fun w => z2 (by omega)⟩
theorem rz_f (hn : 0 ≤ n ∧ n ≤ 6) (hf : isSt (fun s => balM D k 6 s = 0) n f (pw n)) : ∀ i : Nat, (i : Int) ≤ n → f (pw n - 1) - bitsM (pw n - 1) 31 = f (rzN D k n i) - bitsM (rzN D k n i) 31
  | 0, _ => rfl
  | i + 1, h => by
    have ih := rz_f hn hf i (by omega)
    obtain ⟨a, b⟩ := rz_is (D := D) (k := k) hn i (by omega)
    have q : pw n ≤ 64 := pw_le (q := 6) hn.1 hn.2
    rw [ih]
    show _ = f (if owesM D k i = 0 then rzN D k n i - pw i else rzN D k n i) - bitsM (if owesM D k i = 0 then rzN D k n i - pw i else rzN D k n i) 31
    by_cases y : owesM D k i = 0
    · rw [if_pos y]
      have hb : bitB (rzN D k n i) i := (b i (by omega) (by omega)).mpr ⟨by omega, fun z => by omega⟩
      rw [bits_less a.1 (by omega) (by omega) (by omega) hb]
      have b0 : balM D k 6 0 = 0 := by
        have := sumZ_le (n := 6) (a := 0) (b := 0) (f := fun p => if bitB 0 p then owesM D k p else 0) (by decide) (fun p p0 p1 => by rw [if_neg (bit_0 p0 (by omega))]; omega)
        unfold balM
        omega
      have := st_zero (D := D) (k := k) hn hf (fun s p s0 s1 hb p0 p1 hz => by
        show balM D k 6 (s - pw p) = 0 ↔ balM D k 6 s = 0
        rw [bal_sub s0 (by omega) p0 (by omega) (by decide) hb hz]) b0 (p := i) (by omega) (by omega) y (rzN D k n i).toNat (rzN D k n i) (by omega) a.2 hb
      omega
    · rw [if_neg y]
theorem settle_eq (hn : 0 ≤ n ∧ n ≤ 6) (hf : isSt (fun s => balM D k 6 s = 0) n f (pw n)) (hg : isSt (okSt D k n (setZ n (fun p => owesM D k p ≠ 0))) 6 g 64) : n - f (pw n - 1) = bitsM (setZ n (fun p => owesM D k p ≠ 0)) 31 - g (setZ n (fun p => owesM D k p ≠ 0)) := by
  have q : pw n ≤ 64 := pw_le (q := 6) hn.1 hn.2
  obtain ⟨a, b⟩ := rz_is (D := D) (k := k) hn n.toNat (by omega)
  have e := rz_f hn hf n.toNat (by omega)
  rw [bits_full hn] at e
  have rg := setZ_lt (n := n) (c := fun p => owesM D k p ≠ 0) hn.1
  have ea : rzN D k n n.toNat = setZ n (fun p => owesM D k p ≠ 0) := by
    refine set_ext a.1 (by omega) rg.1 (by omega) (fun j j0 j1 => ?_)
    rw [b j j0 j1]
    by_cases z : j < n
    · rw [bit_set (by omega) j0 z]
      exact ⟨fun w => w.2 (by omega), fun w => ⟨z, fun _ => w⟩⟩
    · constructor
      · intro w; omega
      · intro w; exact absurd w (bit_set_o hn.1 (by omega) j1)
  rw [ea] at e
  have s := st_same (ok2 := okSt D k n (setZ n (fun p => owesM D k p ≠ 0))) (all := setZ n (fun p => owesM D k p ≠ 0)) hn hf hg (fun s s0 s1 hs => by
    have e6 : balM D k 6 s = balM D k n s := by
      have := sumZ_cut (f := fun p => if bitB s p then owesM D k p else 0) hn.1 (6 - n).toNat (fun i i0 i1 => if_neg (bit_top hn.1 hn.2 s0 s1 i0 (by omega)))
      rw [show n + ((6 - n).toNat : Int) = 6 by omega] at this
      exact this
    show balM D k 6 s = 0 ↔ okSt D k n _ s
    unfold okSt
    rw [e6, sub_and s0 (by omega) rg.1 (by omega) hs]
    exact ⟨fun w => ⟨rfl, w⟩, fun w => w.2⟩) (setZ n (fun p => owesM D k p ≠ 0)).toNat (setZ n (fun p => owesM D k p ≠ 0)) (by omega) rg.2 (fun _ _ _ h => h)
  omega
end settle2
section Debts9
variable {tb : Tab} {d : Nat} {m : AM} {K : Out → AM → Prop} {S : Nat → Int → Int} {w : Nat} {r : Int → Int}
theorem a21_0 {tb : Tab} {d : Nat} {K : Out → AM → Prop} {ls st : List AV} {m : AM} : At tb d 21 K 0 ls st m = wpB tb (pg.2.1 21) (Runs tb pg d) K (At tb d 21 K) [.bipush (-1), .istore 2, .bipush 0, .istore 3, .jsr 4] ls st m := At.eq k21_0
theorem a21_4 {tb : Tab} {d : Nat} {K : Out → AM → Prop} {ls st : List AV} {m : AM} : At tb d 21 K 4 ls st m = wpB tb (pg.2.1 21) (Runs tb pg d) K (At tb d 21 K) [.iload 3, .iload 1, .if_icmp .ge 73, .bipush 1, .iload 3, .ishl, .istore 4, .bipush 1, .istore 5, .jsr 17] ls st m := At.eq k21_4
theorem a21_17 {tb : Tab} {d : Nat} {K : Out → AM → Prop} {ls st : List AV} {m : AM} : At tb d 21 K 17 ls st m = wpB tb (pg.2.1 21) (Runs tb pg d) K (At tb d 21 K) [.iload 5, .iload 1, .if_icmp .gt 67, .aload 0, .iload 4, .invokeinterface 22 2, .istore 4, .iload 4, .iload 3, .ishr, .bipush 1, .iand, .bipush 1, .if_icmp .ne 61, .iload 2, .bipush (-1), .if_icmp .ne 51, .iload 5, .goto 57] ls st m := At.eq k21_17
theorem a21_51 {tb : Tab} {d : Nat} {K : Out → AM → Prop} {ls st : List AV} {m : AM} : At tb d 21 K 51 ls st m = wpB tb (pg.2.1 21) (Runs tb pg d) K (At tb d 21 K) [.iload 2, .iload 5, .invokestatic 0, .jsr 57] ls st m := At.eq k21_51
theorem a21_57 {tb : Tab} {d : Nat} {K : Out → AM → Prop} {ls st : List AV} {m : AM} : At tb d 21 K 57 ls st m = wpB tb (pg.2.1 21) (Runs tb pg d) K (At tb d 21 K) [.istore 2, .goto 67] ls st m := At.eq k21_57
theorem a21_61 {tb : Tab} {d : Nat} {K : Out → AM → Prop} {ls st : List AV} {m : AM} : At tb d 21 K 61 ls st m = wpB tb (pg.2.1 21) (Runs tb pg d) K (At tb d 21 K) [.iinc 5 1, .goto 17] ls st m := At.eq k21_61
theorem a21_67 {tb : Tab} {d : Nat} {K : Out → AM → Prop} {ls st : List AV} {m : AM} : At tb d 21 K 67 ls st m = wpB tb (pg.2.1 21) (Runs tb pg d) K (At tb d 21 K) [.iinc 3 1, .goto 4] ls st m := At.eq k21_67
theorem a21_73 {tb : Tab} {d : Nat} {K : Out → AM → Prop} {ls st : List AV} {m : AM} : At tb d 21 K 73 ls st m = wpB tb (pg.2.1 21) (Runs tb pg d) K (At tb d 21 K) [.iload 2, .ireturn] ls st m := At.eq k21_73
theorem w_21 (hw : isW w) (hR : RW S w r) (hA : AB r)  (hK : ∀ v, rgM (wayM (dr r) (r 5)) (r 4) (r 4) 1 v → K (.inl (some (vi v))) (X S m)) : Runs tb pg (d + 2) 21 [vr (w + 9), vi (r 4)] (X S m) K := by
  have b3 := hA.2.1.1
  have b4 := hA.2.1.2.1
  have b5 := hA.2.1.2.2.1
  have e0 := hR.1.1
  have e4 := hR.1.2.1
  have hL4 : (fun i : Int => ∀ (a : Int) (z4 : AV) (z5 : AV), (rgM (wayM (dr r) (r 5)) (r 4) i 1 a) → At tb (d + 1) 21 K 4 [vr (w + 9), vi (r 4), vi a, vi i, z4, z5] [] (X S m)) 0 := by
    refine loopZ (fun i : Int => ∀ (a : Int) (z4 : AV) (z5 : AV), (rgM (wayM (dr r) (r 5)) (r 4) i 1 a) → At tb (d + 1) 21 K 4 [vr (w + 9), vi (r 4), vi a, vi i, z4, z5] [] (X S m)) (r 4) (by omega) ?_ ?_
    · intro i h0 h1 h9 a z4 z5 hg
      have hg0 := rgM_rg hg
      have sh := shl_eq h0 (by omega : i < 8)
      have pl := pw_le64 h0 (by omega : i ≤ 6)
      have hL17 : (fun j : Int => ∀ (kk : Int) (s : Int), kk = j + 1 → s = itZ (dr r) (r 5) (shlI 1 i) j → (rgM (wayM (dr r) (r 5)) (r 4) i (j + 1) a) → At tb (d + 1) 21 K 17 [vr (w + 9), vi (r 4), vi a, vi i, vi s, vi kk] [] (X S m)) 0 := by
        refine loopZ (fun j : Int => ∀ (kk : Int) (s : Int), kk = j + 1 → s = itZ (dr r) (r 5) (shlI 1 i) j → (rgM (wayM (dr r) (r 5)) (r 4) i (j + 1) a) → At tb (d + 1) 21 K 17 [vr (w + 9), vi (r 4), vi a, vi i, vi s, vi kk] [] (X S m)) (r 4) (by omega) ?_ ?_
        · intro j j0 j1 h8 kk s hkk hs hg
          subst hkk
          have rg2 := rgM_rg2 hg (by omega) (by omega)
          have q1 := itZ_s (D := dr r) (n := r 5) (s := shlI 1 i) j0
          have hb : wayM (dr r) (r 5) i (j + 1) ↔ andI (shrI (itZ (dr r) (r 5) (shlI 1 i) (j + 1)) i) 1 = 1 := Iff.rfl
          rw [q1, ← hs] at hb
          rw [a21_17]
          repeat' (first | omega | with_reducible refine h8 _ _ ?_ ?_ ?_ | with_reducible refine h9 _ _ _ ?_ | simp only [w_iconst, w_istore, w_fall, Int.reduceToNat, w_iload, w_ifc, cI, w_ishl, w_aload, w_call, w_ishr, w_iand, w_goto, w_min, w_iinc, lgB, Nat.reduceSub, w_ireturn, a21_0, a21_51, a21_57, a21_61, a21_67, a21_73, R32, List.getElem?_cons_zero, List.getElem?_cons_succ, List.set_cons_zero, List.set_cons_succ, List.cons_append, List.nil_append, List.replicate_succ, List.replicate_zero, List.take_succ_cons, List.take_zero, List.drop_succ_cons, List.drop_zero, List.reverse_cons, List.reverse_nil, List.length_cons, List.length_nil, Option.toList, true_and, and_true, eq_self, ↓reduceIte, not_true_eq_false, not_false_eq_true, true_or, or_true, hw] | ((with_reducible refine w_22 hw hR hA (fun v1 x1 => ?_)); have x2 := dbF_of x1; rw [← x2] at hb; have ad := and_rg (shrI v1 i) 1) | with_reducible refine And.intro ?_ ?_ | with_reducible intro _)
          all_goals (try (first | omega | contradiction | (rw [q1, ← hs]; exact x2) | exact rgM_n hg (Or.inl (fun y => by have := hb.mp y; omega)) | (exact rgM_to (by omega) (by omega) (by omega) (rgM_y h0 (by omega) hg (hb.mpr (by omega)) (by omega))) | (exact rgM_to (by omega) (by omega) (by omega) (rgM_n hg (Or.inr ⟨by omega, by omega⟩))) | (by_cases y : j + 1 < a; (rw [if_pos (by omega)]; exact rgM_to (by omega) (by omega) (by omega) (rgM_y h0 (by omega) hg (hb.mpr (by omega)) (by omega))); (rw [if_neg (by omega)]; exact rgM_to (by omega) (by omega) (by omega) (rgM_n hg (Or.inr ⟨by omega, by omega⟩)))) | (split <;> omega)))
        · intro kk s hkk hs hg
          subst hkk
          rw [a21_17]
          repeat' (first | omega | with_reducible refine h9 _ _ _ ?_ | simp only [w_iconst, w_istore, w_fall, Int.reduceToNat, w_iload, w_ifc, cI, w_ishl, w_aload, w_call, w_ishr, w_iand, w_goto, w_min, w_iinc, lgB, Nat.reduceSub, w_ireturn, a21_0, a21_51, a21_57, a21_61, a21_67, a21_73, R32, List.getElem?_cons_zero, List.getElem?_cons_succ, List.set_cons_zero, List.set_cons_succ, List.cons_append, List.nil_append, List.replicate_succ, List.replicate_zero, List.take_succ_cons, List.take_zero, List.drop_succ_cons, List.drop_zero, List.reverse_cons, List.reverse_nil, List.length_cons, List.length_nil, Option.toList, true_and, and_true, eq_self, ↓reduceIte, not_true_eq_false, not_false_eq_true, true_or, or_true, hw] | ((with_reducible refine w_22 hw hR hA (fun v1 x1 => ?_)); have x2 := dbF_of x1; rw [← x2] at hb; have ad := and_rg (shrI v1 i) 1) | with_reducible refine And.intro ?_ ?_ | with_reducible intro _)
          all_goals (try (first | omega | contradiction | exact rgM_next hg))
      rw [a21_4]
      repeat' (first | omega | with_reducible refine h9 _ _ _ ?_ | with_reducible refine hL17 _ _ ?_ ?_ ?_ | simp only [w_iconst, w_istore, w_fall, Int.reduceToNat, w_iload, w_ifc, cI, w_ishl, w_aload, w_call, w_ishr, w_iand, w_goto, w_min, w_iinc, lgB, Nat.reduceSub, w_ireturn, a21_0, a21_51, a21_57, a21_61, a21_67, a21_73, R32, List.getElem?_cons_zero, List.getElem?_cons_succ, List.set_cons_zero, List.set_cons_succ, List.cons_append, List.nil_append, List.replicate_succ, List.replicate_zero, List.take_succ_cons, List.take_zero, List.drop_succ_cons, List.drop_zero, List.reverse_cons, List.reverse_nil, List.length_cons, List.length_nil, Option.toList, true_and, and_true, eq_self, ↓reduceIte, not_true_eq_false, not_false_eq_true, true_or, or_true, hw] | with_reducible refine And.intro ?_ ?_ | with_reducible intro _)
      all_goals (try (first | omega | contradiction | exact hg | rfl))
    · intro a z4 z5 hg
      rw [a21_4]
      repeat' (first | omega | (exact hK _ hg) | simp only [w_iconst, w_istore, w_fall, Int.reduceToNat, w_iload, w_ifc, cI, w_ishl, w_aload, w_call, w_ishr, w_iand, w_goto, w_min, w_iinc, lgB, Nat.reduceSub, w_ireturn, a21_0, a21_51, a21_57, a21_61, a21_67, a21_73, R32, List.getElem?_cons_zero, List.getElem?_cons_succ, List.set_cons_zero, List.set_cons_succ, List.cons_append, List.nil_append, List.replicate_succ, List.replicate_zero, List.take_succ_cons, List.take_zero, List.drop_succ_cons, List.drop_zero, List.reverse_cons, List.reverse_nil, List.length_cons, List.length_nil, Option.toList, true_and, and_true, eq_self, ↓reduceIte, not_true_eq_false, not_false_eq_true, true_or, or_true, hw] | with_reducible refine And.intro ?_ ?_ | with_reducible intro _)
      all_goals (try (first | omega | contradiction | omega))
  refine Runs.of (al := [vr (w + 9), vi (r 4)]) (n := 4) ⟨w + 9, _, _, rfl, xo_w9 hw⟩ rfl rfl trivial ?_
  repeat' (first | omega | with_reducible refine hL4 _ _ _ ?_ | simp only [w_iconst, w_istore, w_fall, Int.reduceToNat, w_iload, w_ifc, cI, w_ishl, w_aload, w_call, w_ishr, w_iand, w_goto, w_min, w_iinc, lgB, Nat.reduceSub, w_ireturn, a21_0, a21_51, a21_57, a21_61, a21_67, a21_73, R32, List.getElem?_cons_zero, List.getElem?_cons_succ, List.set_cons_zero, List.set_cons_succ, List.cons_append, List.nil_append, List.replicate_succ, List.replicate_zero, List.take_succ_cons, List.take_zero, List.drop_succ_cons, List.drop_zero, List.reverse_cons, List.reverse_nil, List.length_cons, List.length_nil, Option.toList, true_and, and_true, eq_self, ↓reduceIte, not_true_eq_false, not_false_eq_true, true_or, or_true, hw] | with_reducible refine And.intro ?_ ?_ | with_reducible intro _)
  all_goals (try (first | omega | (exfalso; assumption) | exact rgM_0))
theorem a20_0 {tb : Tab} {d : Nat} {K : Out → AM → Prop} {ls st : List AV} {m : AM} : At tb d 20 K 0 ls st m = wpB tb (pg.2.1 20) (Runs tb pg d) K (At tb d 20 K) [.aload 2, .bipush 0, .bipush 0, .iastore, .bipush 1, .istore 3, .jsr 6] ls st m := At.eq k20_0
theorem a20_6 {tb : Tab} {d : Nat} {K : Out → AM → Prop} {ls st : List AV} {m : AM} : At tb d 20 K 6 ls st m = wpB tb (pg.2.1 20) (Runs tb pg d) K (At tb d 20 K) [.iload 3, .bipush 1, .iload 1, .ishl, .if_icmp .ge 81, .bipush 0, .istore 4, .bipush 0, .istore 5, .jsr 19] ls st m := At.eq k20_6
theorem a20_19 {tb : Tab} {d : Nat} {K : Out → AM → Prop} {ls st : List AV} {m : AM} : At tb d 20 K 19 ls st m = wpB tb (pg.2.1 20) (Runs tb pg d) K (At tb d 20 K) [.iload 5, .iload 1, .if_icmp .ge 56, .iload 3, .iload 5, .ishr, .bipush 1, .iand, .bipush 1, .if_icmp .ne 50, .iload 4, .aload 2, .iload 3, .bipush 1, .iload 5, .ishl, .ixor, .iaload, .invokestatic 1, .istore 4, .jsr 50] ls st m := At.eq k20_19
theorem a20_50 {tb : Tab} {d : Nat} {K : Out → AM → Prop} {ls st : List AV} {m : AM} : At tb d 20 K 50 ls st m = wpB tb (pg.2.1 20) (Runs tb pg d) K (At tb d 20 K) [.iinc 5 1, .goto 19] ls st m := At.eq k20_50
theorem a20_56 {tb : Tab} {d : Nat} {K : Out → AM → Prop} {ls st : List AV} {m : AM} : At tb d 20 K 56 ls st m = wpB tb (pg.2.1 20) (Runs tb pg d) K (At tb d 20 K) [.aload 2, .iload 3, .iload 4, .aload 0, .iload 3, .invokeinterface 19 2, .ifCond .ne 72, .bipush 1, .goto 73] ls st m := At.eq k20_56
theorem a20_72 {tb : Tab} {d : Nat} {K : Out → AM → Prop} {ls st : List AV} {m : AM} : At tb d 20 K 72 ls st m = wpB tb (pg.2.1 20) (Runs tb pg d) K (At tb d 20 K) [.bipush 0, .jsr 73] ls st m := At.eq k20_72
theorem a20_73 {tb : Tab} {d : Nat} {K : Out → AM → Prop} {ls st : List AV} {m : AM} : At tb d 20 K 73 ls st m = wpB tb (pg.2.1 20) (Runs tb pg d) K (At tb d 20 K) [.iadd, .iastore, .iinc 3 1, .goto 6] ls st m := At.eq k20_73
theorem a20_81 {tb : Tab} {d : Nat} {K : Out → AM → Prop} {ls st : List AV} {m : AM} : At tb d 20 K 81 ls st m = wpB tb (pg.2.1 20) (Runs tb pg d) K (At tb d 20 K) [.iload 1, .aload 2, .bipush 1, .iload 1, .ishl, .bipush 1, .isub, .iaload, .isub, .ireturn] ls st m := At.eq k20_81
theorem bal_bd {s : Int} (hA : AB r) : -600000 ≤ balM (dr r) (r 5) 6 s ∧ balM (dr r) (r 5) 6 s ≤ 600000 := by
  have b5 := hA.2.1.2.2.1
  have o : ∀ p, -100000 ≤ owesM (dr r) (r 5) p ∧ owesM (dr r) (r 5) p ≤ 100000 := fun p => by
    rw [owesM_eq b5.1]
    have := sumZ_le (n := r 5) (a := -10001) (b := 10001) (f := fun k => (if dr r k 0 = p then dr r k 2 else 0) - (if dr r k 1 = p then dr r k 2 else 0)) b5.1 (fun k k0 k1 => by have := AB_dd hA k0 k1; split <;> split <;> omega)
    omega
  have := sumZ_le (f := fun p => if bitB s p then owesM (dr r) (r 5) p else 0) (n := 6) (a := -100000) (b := 100000) (by decide) (fun i _ _ => by have := o i; split <;> omega)
  unfold balM
  omega
theorem w_20 (hw : isW w) (hR : RW S w r) (hA : AB r)  (hK : ∀ T v, isSt (fun s => balM (dr r) (r 5) 6 s = 0) (r 4) (T 93) (pw (r 4)) → v = r 4 - T 93 (pw (r 4) - 1) → FxE 93 S T → K (.inl (some (vi v))) (X T m)) : Runs tb pg (d + 3) 20 [vr (w + 9), vi (r 4), vr 93] (X S m) K := by
  have b3 := hA.2.1.1
  have b4 := hA.2.1.2.1
  have b5 := hA.2.1.2.2.1
  have e0 := hR.1.1
  have e4 := hR.1.2.1
  have hsh : shlI 1 (r 4) = pw (r 4) := shl_eq b4.1 (by omega)
  have pl := pw_le64 b4.1 b4.2
  have hL6 : (fun i : Int => ∀ (z4 : AV) (z5 : AV) (kk : Int) (T : Nat → Int → Int), kk = i + 1 → (FxE 93 S T) → (st93 T (fun s => balM (dr r) (r 5) 6 s = 0) (r 4) (i + 1)) → At tb (d + 2) 20 K 6 [vr (w + 9), vi (r 4), vr 93, vi kk, z4, z5] [] (X T m)) 0 := by
    refine loopZ (fun i : Int => ∀ (z4 : AV) (z5 : AV) (kk : Int) (T : Nat → Int → Int), kk = i + 1 → (FxE 93 S T) → (st93 T (fun s => balM (dr r) (r 5) 6 s = 0) (r 4) (i + 1)) → At tb (d + 2) 20 K 6 [vr (w + 9), vi (r 4), vr 93, vi kk, z4, z5] [] (X T m)) (pw (r 4) - 1) (by omega) ?_ ?_
    · intro i h0 h1 h9 z4 z5 kk T hkk hT ht
      subst hkk
      have hW : RW T w r := RW_1 hw (by unfold scr; omega) hR hT
      have hL19 : (fun j : Int => ∀ (x : Int), (isMxS (T 93) (i + 1) j x) → At tb (d + 2) 20 K 19 [vr (w + 9), vi (r 4), vr 93, vi (i + 1), vi x, vi j] [] (X T m)) 0 := by
        refine loopZ (fun j : Int => ∀ (x : Int), (isMxS (T 93) (i + 1) j x) → At tb (d + 2) 20 K 19 [vr (w + 9), vi (r 4), vr 93, vi (i + 1), vi x, vi j] [] (X T m)) (r 4) (by omega) ?_ ?_
        · intro j j0 j1 h8 x hx
          have ad := and_rg (shrI (i + 1) j) 1
          have hb : bitB (i + 1) j ↔ andI (shrI (i + 1) j) 1 = 1 := Iff.rfl
          have xl := st93_lt ht (by omega) (by omega) hx
          have ce := fun (y : bitB (i + 1) j) => clr_eq (s := i + 1) (p := j) (by omega) (by omega) j0 (by omega) y
          have pp := pw_pos j
          rw [a20_19]
          repeat' (first | omega | with_reducible refine h8 _ ?_ | simp only [w_aload, w_iconst, x_iast, w_istore, w_fall, Int.reduceToNat, w_iload, w_ishl, w_ifc, cI, w_ishr, w_iand, w_ixor, x_iald, w_ialoads, w_ialoadw, w_max, w_iinc, lgB, Nat.reduceSub, w_goto, w_call, w_if, w_iadd, w_isub, w_ireturn, isA_w1, isA_w2, isA_w3, isA_w4, isA_w5, isA_w6, isA_w7, isA_w8, isA_w10, isA_w11, isA_w12, isA_w14, isA_w15, isA_w16, len_w1, len_w2, len_w3, len_w4, len_w5, len_w6, len_w7, len_w8, len_w10, len_w11, len_w12, len_w14, len_w15, len_w16, isA_93, len_93, Int.cast_ofNat_Int, a20_0, a20_50, a20_56, a20_72, a20_73, a20_81, R32, List.getElem?_cons_zero, List.getElem?_cons_succ, List.set_cons_zero, List.set_cons_succ, List.cons_append, List.nil_append, List.replicate_succ, List.replicate_zero, List.take_succ_cons, List.take_zero, List.drop_succ_cons, List.drop_zero, List.reverse_cons, List.reverse_nil, List.length_cons, List.length_nil, Option.toList, true_and, and_true, eq_self, ↓reduceIte, not_true_eq_false, not_false_eq_true, true_or, or_true, hw, hsh] | (have yb : bitB (i + 1) j := hb.mpr (by omega); have c9 := ce yb; have bd := ht.2 (i + 1 - pw j) (by omega) (by omega); rw [c9.2.1]) | with_reducible refine And.intro ?_ ?_ | with_reducible intro _)
          all_goals (try (first | omega | contradiction | (exact isMxS_n hx (fun y => by have := hb.mp y; omega)) | (exact isMxS_y j0 hx (hb.mpr (by omega)) rfl)))
        · intro x hx
          have xl := st93_lt ht (by omega) (by omega) hx
          rw [a20_19]
          repeat' (first | omega | simp only [w_aload, w_iconst, x_iast, w_istore, w_fall, Int.reduceToNat, w_iload, w_ishl, w_ifc, cI, w_ishr, w_iand, w_ixor, x_iald, w_ialoads, w_ialoadw, w_max, w_iinc, lgB, Nat.reduceSub, w_goto, w_call, w_if, w_iadd, w_isub, w_ireturn, isA_w1, isA_w2, isA_w3, isA_w4, isA_w5, isA_w6, isA_w7, isA_w8, isA_w10, isA_w11, isA_w12, isA_w14, isA_w15, isA_w16, len_w1, len_w2, len_w3, len_w4, len_w5, len_w6, len_w7, len_w8, len_w10, len_w11, len_w12, len_w14, len_w15, len_w16, isA_93, len_93, Int.cast_ofNat_Int, a20_0, a20_50, a20_56, a20_72, a20_73, a20_81, R32, List.getElem?_cons_zero, List.getElem?_cons_succ, List.set_cons_zero, List.set_cons_succ, List.cons_append, List.nil_append, List.replicate_succ, List.replicate_zero, List.take_succ_cons, List.take_zero, List.drop_succ_cons, List.drop_zero, List.reverse_cons, List.reverse_nil, List.length_cons, List.length_nil, Option.toList, true_and, and_true, eq_self, ↓reduceIte, not_true_eq_false, not_false_eq_true, true_or, or_true, hw, hsh] | ((with_reducible refine w_19 hw hW hA ?_ (fun v1 x1 => ?_)); rotate_left; have bb := bal_bd hA (s := i + 1); rw [← x1] at bb) | (refine h9 _ _ _ _ ?_ ?_ ?_) | with_reducible refine And.intro ?_ ?_ | with_reducible intro _)
          all_goals (try (first | omega | contradiction | (unfold R32; omega) | exact FxE_u hT | (exact st93_s ht (by omega) (by omega) hx (by omega) (Or.inl ⟨x1.symm.trans (by omega), by omega⟩)) | (exact st93_s ht (by omega) (by omega) hx (by omega) (Or.inr ⟨fun y => by have y2 : balM (dr r) (r 5) 6 (i + 1) = 0 := y; omega, by omega⟩))))
      rw [a20_6]
      repeat' (first | omega | with_reducible refine h9 _ _ _ _ ?_ ?_ ?_ | with_reducible refine hL19 _ ?_ | simp only [w_aload, w_iconst, x_iast, w_istore, w_fall, Int.reduceToNat, w_iload, w_ishl, w_ifc, cI, w_ishr, w_iand, w_ixor, x_iald, w_ialoads, w_ialoadw, w_max, w_iinc, lgB, Nat.reduceSub, w_goto, w_call, w_if, w_iadd, w_isub, w_ireturn, isA_w1, isA_w2, isA_w3, isA_w4, isA_w5, isA_w6, isA_w7, isA_w8, isA_w10, isA_w11, isA_w12, isA_w14, isA_w15, isA_w16, len_w1, len_w2, len_w3, len_w4, len_w5, len_w6, len_w7, len_w8, len_w10, len_w11, len_w12, len_w14, len_w15, len_w16, isA_93, len_93, Int.cast_ofNat_Int, a20_0, a20_50, a20_56, a20_72, a20_73, a20_81, R32, List.getElem?_cons_zero, List.getElem?_cons_succ, List.set_cons_zero, List.set_cons_succ, List.cons_append, List.nil_append, List.replicate_succ, List.replicate_zero, List.take_succ_cons, List.take_zero, List.drop_succ_cons, List.drop_zero, List.reverse_cons, List.reverse_nil, List.length_cons, List.length_nil, Option.toList, true_and, and_true, eq_self, ↓reduceIte, not_true_eq_false, not_false_eq_true, true_or, or_true, hw, hsh] | with_reducible refine And.intro ?_ ?_ | with_reducible intro _)
      all_goals (try (first | omega | contradiction | exact isMxS_0))
    · intro z4 z5 kk T hkk hT ht
      subst hkk
      rw [show pw (r 4) - 1 + 1 = pw (r 4) by omega] at ht
      have bf := ht.2 (pw (r 4) - 1) (by omega) (by omega)
      rw [a20_6]
      repeat' (first | omega | (refine hK _ _ ?_ ?_ hT) | simp only [w_aload, w_iconst, x_iast, w_istore, w_fall, Int.reduceToNat, w_iload, w_ishl, w_ifc, cI, w_ishr, w_iand, w_ixor, x_iald, w_ialoads, w_ialoadw, w_max, w_iinc, lgB, Nat.reduceSub, w_goto, w_call, w_if, w_iadd, w_isub, w_ireturn, isA_w1, isA_w2, isA_w3, isA_w4, isA_w5, isA_w6, isA_w7, isA_w8, isA_w10, isA_w11, isA_w12, isA_w14, isA_w15, isA_w16, len_w1, len_w2, len_w3, len_w4, len_w5, len_w6, len_w7, len_w8, len_w10, len_w11, len_w12, len_w14, len_w15, len_w16, isA_93, len_93, Int.cast_ofNat_Int, a20_0, a20_50, a20_56, a20_72, a20_73, a20_81, R32, List.getElem?_cons_zero, List.getElem?_cons_succ, List.set_cons_zero, List.set_cons_succ, List.cons_append, List.nil_append, List.replicate_succ, List.replicate_zero, List.take_succ_cons, List.take_zero, List.drop_succ_cons, List.drop_zero, List.reverse_cons, List.reverse_nil, List.length_cons, List.length_nil, Option.toList, true_and, and_true, eq_self, ↓reduceIte, not_true_eq_false, not_false_eq_true, true_or, or_true, hw, hsh] | with_reducible refine And.intro ?_ ?_ | with_reducible intro _)
      all_goals (try (first | omega | contradiction | (exact ht.1) | rfl))
  refine Runs.of (al := [vr (w + 9), vi (r 4), vr 93]) (n := 3) ⟨w + 9, _, _, rfl, xo_w9 hw⟩ rfl rfl trivial ?_
  repeat' (first | omega | with_reducible refine hL6 _ _ _ _ ?_ ?_ ?_ | simp only [w_aload, w_iconst, x_iast, w_istore, w_fall, Int.reduceToNat, w_iload, w_ishl, w_ifc, cI, w_ishr, w_iand, w_ixor, x_iald, w_ialoads, w_ialoadw, w_max, w_iinc, lgB, Nat.reduceSub, w_goto, w_call, w_if, w_iadd, w_isub, w_ireturn, isA_w1, isA_w2, isA_w3, isA_w4, isA_w5, isA_w6, isA_w7, isA_w8, isA_w10, isA_w11, isA_w12, isA_w14, isA_w15, isA_w16, len_w1, len_w2, len_w3, len_w4, len_w5, len_w6, len_w7, len_w8, len_w10, len_w11, len_w12, len_w14, len_w15, len_w16, isA_93, len_93, Int.cast_ofNat_Int, a20_0, a20_50, a20_56, a20_72, a20_73, a20_81, R32, List.getElem?_cons_zero, List.getElem?_cons_succ, List.set_cons_zero, List.set_cons_succ, List.cons_append, List.nil_append, List.replicate_succ, List.replicate_zero, List.take_succ_cons, List.take_zero, List.drop_succ_cons, List.drop_zero, List.reverse_cons, List.reverse_nil, List.length_cons, List.length_nil, Option.toList, true_and, and_true, eq_self, ↓reduceIte, not_true_eq_false, not_false_eq_true, true_or, or_true, hw] | with_reducible refine And.intro ?_ ?_ | with_reducible intro _)
  all_goals (try (first | omega | (exfalso; assumption) | exact FxE_u FxE_r | exact st93_1))
end Debts9
