/-! ===== THE CLASS: people two by two ===== -/
theorem bt_low : ∀ s : Fin 64, 0 < (s : Nat) → ∃ p : Fin 6, andI (shrI (s : Nat) (p : Nat)) 1 = 1 ∧ ∀ j : Fin 6, (j : Nat) < (p : Nat) → andI (shrI (s : Nat) (j : Nat)) 1 ≠ 1 := by decide +kernel
theorem isLow_ex {s : Int} (s0 : 0 < s) (s1 : s < 64) : ∃ p, isLow s p := by
  obtain ⟨p, h1, h2⟩ := bt_low ⟨s.toNat, by omega⟩ (by show 0 < s.toNat; omega)
  rw [show ((⟨s.toNat, by omega⟩ : Fin 64) : Nat) = s.toNat from rfl] at h1 h2
  rw [Int.toNat_of_nonneg (by omega)] at h1 h2
  refine ⟨p, ⟨by omega, by omega⟩, h1, fun j j0 j1 hj => ?_⟩
  have := h2 ⟨j.toNat, by omega⟩ (by show j.toNat < _; omega)
  rw [show ((⟨j.toNat, by omega⟩ : Fin 6) : Nat) = j.toNat from rfl, Int.toNat_of_nonneg j0] at this
  exact this hj
theorem isLow_uq {s p q : Int} (h : isLow s p) (g : isLow s q) : p = q := by
  rcases Int.lt_trichotomy p q with y | y | y
  · exact absurd h.2.1 (g.2.2 p h.1.1 y)
  · exact y
  · exact absurd g.2.1 (h.2.2 q g.1.1 y)
section pairs
variable {P : Int → Int → Int} {n : Int} {f g : Int → Int}
theorem isPx_ex {s p : Int} : ∀ k : Nat, ∃ x, isPx P f s p (p + 1 + k) x
  | 0 => ⟨_, by rw [show p + 1 + ((0 : Nat) : Int) = p + 1 by omega]; exact isPx_0⟩
  | k + 1 => by
    obtain ⟨x, hx⟩ := isPx_ex (s := s) (p := p) k
    rw [show p + 1 + ((k + 1 : Nat) : Int) = (p + 1 + k) + 1 by omega]
    by_cases b : bitB (s - pw p) (p + 1 + k)
    · exact ⟨_, isPx_y (by omega) hx b rfl⟩
    · exact ⟨x, isPx_n hx b⟩
theorem isPx_uq {s p o x y : Int} (h : isPx P f s p o x) (e : isPx P f s p o y) : x = y := by
  obtain ⟨h1, h2, h3⟩ := h
  obtain ⟨g1, g2, g3⟩ := e
  rcases h3 with a | ⟨q, q0, q1, q2, q3⟩
  · rcases g3 with b | ⟨t, t0, t1, t2, t3⟩
    · omega
    · have := h2 t t0 t1 t2; omega
  · rcases g3 with b | ⟨t, t0, t1, t2, t3⟩
    · have := g2 q q0 q1 q2; omega
    · have := h2 t t0 t1 t2
      have := g2 q q0 q1 q2
      omega
theorem pb_ex (hn : 0 ≤ n ∧ n ≤ 6) : ∀ N : Nat, ((N + 1 : Nat) : Int) ≤ pw n → ∃ T : Nat → Int → Int, pbV P n T ((N + 1 : Nat) : Int)
  | 0, _ => ⟨upS (fun _ _ => 0) 310 0 0, pbV_1⟩
  | N + 1, h => by
    obtain ⟨T, hT⟩ := pb_ex hn N (by omega)
    have q : pw n ≤ 64 := pw_le (q := 6) hn.1 hn.2
    obtain ⟨p, hp⟩ := isLow_ex (s := ((N + 1 : Nat) : Int)) (by omega) (by omega)
    have pn := bit_lt (s := ((N + 1 : Nat) : Int)) (by omega) hn.1 (by omega) hp.1.2 hp.2.1
    obtain ⟨x, hx⟩ := isPx_ex (P := P) (f := T 310) (s := ((N + 1 : Nat) : Int)) (p := p) (n - p - 1).toNat
    rw [show p + 1 + ((n - p - 1).toNat : Int) = n by omega] at hx
    refine ⟨upS T 310 ((N + 1 : Nat) : Int) x, ?_⟩
    rw [show ((N + 1 + 1 : Nat) : Int) = ((N + 1 : Nat) : Int) + 1 by omega]
    exact pbV_s hn hT (by omega) hp hx
theorem pb_exx (hn : 0 ≤ n ∧ n ≤ 6) : ∃ T : Nat → Int → Int, pbV P n T (pw n) := by
  have := pw_pos n
  have e := pb_ex (P := P) hn (pw n - 1).toNat (by omega)
  rw [show (((pw n - 1).toNat + 1 : Nat) : Int) = pw n by omega] at e
  exact e
end pairs
/-- the most letters that a set shares, two by two -/
noncomputable def pF (P : Int → Int → Int) (n : Int) : Int → Int := (Classical.epsilon (fun T : Nat → Int → Int => pbV P n T (pw n))) 310
section pairs2
variable {P : Int → Int → Int} {n : Int} {f g : Int → Int}
theorem pF_is (hn : 0 ≤ n ∧ n ≤ 6) : isPb P n (pF P n) (pw n) ∧ ∀ s, 0 ≤ s → s < pw n → 0 ≤ pF P n s ∧ pF P n s ≤ 31 * s := Classical.epsilon_spec (pb_exx hn)
theorem isPb_uq (hn : 0 ≤ n ∧ n ≤ 6) (hf : isPb P n f (pw n)) (hg : isPb P n g (pw n)) : ∀ m : Nat, ∀ s : Int, s = m → s < pw n → f s = g s := by
  have q : pw n ≤ 64 := pw_le (q := 6) hn.1 hn.2
  intro m
  induction m using Nat.strongRecOn with
  | _ m ih =>
    intro s hs s1
    by_cases z : s = 0
    · rw [z, hf.1, hg.1]
    · obtain ⟨p, p1, p2⟩ := hf.2 s (by omega) s1
      obtain ⟨t, t1, t2⟩ := hg.2 s (by omega) s1
      have e := isLow_uq p1 t1
      subst e
      have pn := bit_lt (s := s) (by omega) hn.1 s1 p1.1.2 p1.2.1
      exact isPx_uq (isPx_congr p2 (by omega) ⟨p1.1.1, by omega⟩ hn.2 p1.2.1 (fun j j0 j1 => ih j.toNat (by omega) j (by omega) (by omega))) t2
theorem isPb_u (hn : 0 ≤ n ∧ n ≤ 6) (hf : isPb P n f (pw n)) {s : Int} (s0 : 0 ≤ s) (s1 : s < pw n) : f s = pF P n s := isPb_uq hn hf (pF_is hn).1 s.toNat s (by omega) s1
theorem isWi_congr (hn : 0 ≤ n ∧ n ≤ 6) {l p w : Int} (hl : 0 < l ∧ l < pw n) (hp : isLow l p) (h : isWi P n f l p w) (z : ∀ s, 0 ≤ s → s < pw n → f s = g s) : isWi P n g l p w := by
  have q : pw n ≤ 64 := pw_le (q := 6) hn.1 hn.2
  have c := low_clr hp (by omega) hn
  have e1 := z (l - pw p) (by omega) (by omega)
  have e2 := z l (by omega) (by omega)
  have hc : ∀ o, 0 ≤ o → o < n → (wiC P f l p o ↔ wiC P g l p o) := fun o o0 o1 => by
    unfold wiC
    constructor
    · intro ⟨a, b⟩
      have co := clr_eq (s := l - pw p) (p := o) (by omega) (by omega) o0 (by omega) a
      have po := pw_pos o
      exact ⟨a, by rw [← z _ (by omega) (by omega), ← e2]; exact b⟩
    · intro ⟨a, b⟩
      have co := clr_eq (s := l - pw p) (p := o) (by omega) (by omega) o0 (by omega) a
      have po := pw_pos o
      exact ⟨a, by rw [z _ (by omega) (by omega), e2]; exact b⟩
  have p0 := hp.1.1
  unfold isWi at h ⊢
  rw [← e1, ← e2]
  rcases h with h | ⟨h1, ⟨h2, h3⟩ | ⟨h2, h3, h4⟩⟩
  · exact Or.inl h
  · exact Or.inr ⟨h1, Or.inl ⟨h2, fun o o0 o1 y => h3 o o0 o1 ((hc o (by omega) o1).mpr y)⟩⟩
  · exact Or.inr ⟨h1, Or.inr ⟨h2, (hc w (by omega) (by omega)).mp h3, fun o o0 o1 y => h4 o o0 o1 ((hc o (by omega) (by omega)).mpr y)⟩⟩
theorem isWi_uq {l p w u : Int} (hp : 0 ≤ p) (h : isWi P n f l p w) (e : isWi P n f l p u) : w = u := by
  rcases h with ⟨h1, h2⟩ | ⟨h1, ⟨h2, h3⟩ | ⟨h2, h3, h4⟩⟩ <;> rcases e with ⟨g1, g2⟩ | ⟨g1, ⟨g2, g3⟩ | ⟨g2, g3, g4⟩⟩
  · omega
  · exact absurd h1 g1
  · exact absurd h1 g1
  · exact absurd g1 h1
  · omega
  · exact absurd g3 (h3 u g2.1 g2.2)
  · exact absurd g1 h1
  · exact absurd h3 (g3 w h2.1 h2.2)
  · rcases Int.lt_trichotomy w u with y | y | y
    · exact absurd h3 (g4 w h2.1 y)
    · exact y
    · exact absurd g3 (h4 u g2.1 y)
end pairs2
/-- with whom one goes -/
noncomputable def dcN (P : Int → Int → Int) (n : Int) (f : Int → Int) (one : Int) : Nat → Int → Int
  | 0, _ => -1
  | k + 1, l => if l = 0 then -1 else
      if Classical.epsilon (isLow l) = one then Classical.epsilon (isWi P n f l (Classical.epsilon (isLow l)))
      else if Classical.epsilon (isWi P n f l (Classical.epsilon (isLow l))) = one then Classical.epsilon (isLow l)
      else dcN P n f one k (if Classical.epsilon (isWi P n f l (Classical.epsilon (isLow l))) = -1 then l - pw (Classical.epsilon (isLow l)) else l - pw (Classical.epsilon (isLow l)) - pw (Classical.epsilon (isWi P n f l (Classical.epsilon (isLow l)))))
section pairs3
variable {P : Int → Int → Int} {n : Int} {f g : Int → Int} {one : Int}
theorem dcN_s {k : Nat} {l p w : Int} (hl : l ≠ 0) (hp : isLow l p) (hw : isWi P n f l p w) : dcN P n f one (k + 1) l = if p = one then w else if w = one then p else dcN P n f one k (if w = -1 then l - pw p else l - pw p - pw w) := by
  have e1 : Classical.epsilon (isLow l) = p := isLow_uq (Classical.epsilon_spec ⟨p, hp⟩) hp
  have e2 : Classical.epsilon (isWi P n f l p) = w := isWi_uq hp.1.1 (Classical.epsilon_spec ⟨w, hw⟩) hw
  show (if l = 0 then _ else _) = _
  rw [if_neg hl, e1, e2]
theorem wi_less (hn : 0 ≤ n ∧ n ≤ 6) {l p w : Int} (hl : 0 < l ∧ l < pw n) (hp : isLow l p) (hw : isWi P n f l p w) : 0 ≤ (if w = -1 then l - pw p else l - pw p - pw w) ∧ (if w = -1 then l - pw p else l - pw p - pw w) < l := by
  have q : pw n ≤ 64 := pw_le (q := 6) hn.1 hn.2
  have c := low_clr hp (by omega) hn
  have r := wi_rg hw hp.1.1 hn.2
  by_cases y : w = -1
  · rw [if_pos y]; omega
  · rw [if_neg y]
    rcases r.2 with z | ⟨z0, z1, z2⟩
    · exact absurd z y
    · have co := clr_eq (s := l - pw p) (p := w) (by omega) (by omega) z0 z1 z2
      have po := pw_pos w
      omega
/-- all sets have a least one and a partner of it -/
theorem wi_ex {l p : Int} (hp : 0 ≤ p) : ∃ w, isWi P n f l p w := by
  by_cases e : f (l - pw p) = f l
  · exact ⟨-1, Or.inl ⟨e, rfl⟩⟩
  · have g : ∀ k : Nat, (∃ o, p < o ∧ o < p + 1 + k ∧ wiC P f l p o ∧ ∀ u, p < u → u < o → ¬ wiC P f l p u) ∨ ∀ u, p < u → u < p + 1 + k → ¬ wiC P f l p u := by
      intro k
      induction k with
      | zero => exact Or.inr (fun u u0 u1 => by omega)
      | succ k ih =>
        rcases ih with ⟨o, o0, o1, o2, o3⟩ | h
        · exact Or.inl ⟨o, o0, by omega, o2, o3⟩
        · by_cases c : wiC P f l p (p + 1 + k)
          · exact Or.inl ⟨p + 1 + k, by omega, by omega, c, fun u u0 u1 => h u u0 u1⟩
          · refine Or.inr (fun u u0 u1 => ?_)
            by_cases z : u = p + 1 + k
            · rw [z]; exact c
            · exact h u u0 (by omega)
    rcases g (n - p - 1).toNat with ⟨o, o0, o1, o2, o3⟩ | h
    · exact ⟨o, Or.inr ⟨e, Or.inr ⟨⟨o0, by omega⟩, o2, o3⟩⟩⟩
    · exact ⟨-1, Or.inr ⟨e, Or.inl ⟨rfl, fun u u0 u1 => h u u0 (by omega)⟩⟩⟩
theorem dcN_f (hn : 0 ≤ n ∧ n ≤ 6) : ∀ (k j : Nat) (l : Int), 0 ≤ l → l < pw n → l < k → l < j → dcN P n f one k l = dcN P n f one j l
  | 0, _, l, h0, _, h1, _ => by omega
  | k + 1, 0, l, h0, _, _, h1 => by omega
  | k + 1, j + 1, l, h0, hn1, h1, h2 => by
    have q : pw n ≤ 64 := pw_le (q := 6) hn.1 hn.2
    by_cases z : l = 0
    · show (if l = 0 then _ else _) = (if l = 0 then _ else _)
      rw [if_pos z, if_pos z]
    · obtain ⟨p, hp⟩ := isLow_ex (s := l) (by omega) (by omega)
      obtain ⟨w, hw⟩ := wi_ex (P := P) (n := n) (f := f) (l := l) hp.1.1
      rw [dcN_s z hp hw, dcN_s z hp hw]
      have wl := wi_less hn (by omega) hp hw
      rw [dcN_f hn k j _ wl.1 (by omega) (by omega) (by omega)]
theorem dec_is (hn : 0 ≤ n ∧ n ≤ 6) {left r : Int} (h0 : 0 ≤ left) (h1 : left < pw n) (h : isDec P n f one left r) : r = dcN P n f one 64 left := by
  have q : pw n ≤ 64 := pw_le (q := 6) hn.1 hn.2
  have := h (fun l r => ∀ k : Nat, 0 ≤ l → l < pw n → l < k → r = dcN P n f one k l) (fun k _ _ hk => ?_) (fun l p w l0 l1 hp hw e k _ _ hk => ?_) (fun l p w l0 l1 hp hw e e2 k _ _ hk => ?_) (fun l p w r l0 l1 hp hw e e2 ih k _ _ hk => ?_)
  · exact this 64 h0 h1 (by omega)
  · cases k with
    | zero => rfl
    | succ k => show _ = (if (0 : Int) = 0 then _ else _); rw [if_pos rfl]
  · cases k with
    | zero => omega
    | succ k => rw [dcN_s (by omega) hp hw, if_pos e]
  · cases k with
    | zero => omega
    | succ k => rw [dcN_s (by omega) hp hw, if_neg e, if_pos e2]
  · cases k with
    | zero => omega
    | succ k =>
      have wl := wi_less hn ⟨l0, l1⟩ hp hw
      rw [dcN_s (by omega) hp hw, if_neg e, if_neg e2]
      exact ih k wl.1 (by omega) (by omega)
theorem dcN_c (hn : 0 ≤ n ∧ n ≤ 6) (z : ∀ s, 0 ≤ s → s < pw n → f s = g s) : ∀ (k : Nat) (l : Int), 0 ≤ l → l < pw n → dcN P n f one k l = dcN P n g one k l
  | 0, _, _, _ => rfl
  | k + 1, l, h0, h1 => by
    have q : pw n ≤ 64 := pw_le (q := 6) hn.1 hn.2
    by_cases y : l = 0
    · show (if l = 0 then _ else _) = (if l = 0 then _ else _)
      rw [if_pos y, if_pos y]
    · obtain ⟨p, hp⟩ := isLow_ex (s := l) (by omega) (by omega)
      obtain ⟨w, hw⟩ := wi_ex (P := P) (n := n) (f := f) (l := l) hp.1.1
      have wl := wi_less hn (by omega) hp hw
      rw [dcN_s y hp hw, dcN_s y hp (isWi_congr hn (by omega) hp hw z), dcN_c hn z k _ wl.1 (by omega)]
end pairs3
noncomputable def dC (P : Int → Int → Int) (n one l : Int) : Int := dcN P n (pF P n) one 64 l
section pairs4
variable {P : Int → Int → Int} {n : Int} {g : Int → Int} {one : Int}
theorem dC_s (hn : 0 ≤ n ∧ n ≤ 6) {l p w : Int} (hl : 0 < l ∧ l < pw n) (hp : isLow l p) (hw : isWi P n (pF P n) l p w) : dC P n one l = if p = one then w else if w = one then p else dC P n one (if w = -1 then l - pw p else l - pw p - pw w) := by
  have q : pw n ≤ 64 := pw_le (q := 6) hn.1 hn.2
  have wl := wi_less hn hl hp hw
  unfold dC
  rw [dcN_s (by omega) hp hw, dcN_f hn 63 64 _ wl.1 (by omega) (by omega) (by omega)]
/-- the reference's answer -/
theorem dec_ref (hn : 0 ≤ n ∧ n ≤ 6) {f : Int → Int} (hf : isPb P n f (pw n)) {left r : Int} (h0 : 0 ≤ left) (h1 : left < pw n) (h : isDec P n f one left r) : r = dC P n one left := by
  rw [dec_is hn h0 h1 h]
  exact dcN_c hn (fun s s0 s1 => isPb_u hn hf s0 s1) 64 left h0 h1
/-- those from p on that have no partner yet -/
noncomputable def lS (g : Int → Int) (p n : Int) : Int := setZ n fun q => p ≤ q ∧ g q = -1
theorem lS_rg (hn : 0 ≤ n ∧ n ≤ 6) {p : Int} : 0 ≤ lS g p n ∧ lS g p n < pw n := setZ_lt hn.1
theorem lS_bit (hn : 0 ≤ n ∧ n ≤ 6) {p j : Int} (j0 : 0 ≤ j) (j1 : j < 8) : bitB (lS g p n) j ↔ j < n ∧ p ≤ j ∧ g j = -1 := by
  by_cases y : j < n
  · exact (bit_set (c := fun q => p ≤ q ∧ g q = -1) (by omega) j0 y).trans ⟨fun z => ⟨y, z⟩, fun z => z.2⟩
  · exact ⟨fun z => absurd z (bit_set_o hn.1 (by omega) j1), fun z => by omega⟩
theorem lS_n (hn : 0 ≤ n ∧ n ≤ 6) {p : Int} (h : g p ≠ -1) : lS g (p + 1) n = lS g p n := by
  have q : pw n ≤ 64 := pw_le (q := 6) hn.1 hn.2
  have a := lS_rg (g := g) (p := p + 1) hn
  have b := lS_rg (g := g) (p := p) hn
  refine set_ext a.1 (by omega) b.1 (by omega) (fun j j0 j1 => ?_)
  rw [lS_bit hn j0 j1, lS_bit hn j0 j1]
  constructor
  · intro z; exact ⟨z.1, by omega, z.2.2⟩
  · intro z
    refine ⟨z.1, ?_, z.2.2⟩
    by_cases e : j = p
    · subst e; exact absurd z.2.2 h
    · omega
theorem lS_y (hn : 0 ≤ n ∧ n ≤ 6) {p : Int} (p0 : 0 ≤ p) (p1 : p < n) (h : g p = -1) : isLow (lS g p n) p ∧ lS g (p + 1) n = lS g p n - pw p := by
  have q : pw n ≤ 64 := pw_le (q := 6) hn.1 hn.2
  have a := lS_rg (g := g) (p := p + 1) hn
  have b := lS_rg (g := g) (p := p) hn
  have hb : bitB (lS g p n) p := (lS_bit hn p0 (by omega)).mpr ⟨p1, Int.le_refl _, h⟩
  have c := clr_eq b.1 (by omega) p0 (by omega) hb
  have pp := pw_pos p
  refine ⟨⟨⟨p0, by omega⟩, hb, fun j j0 j1 z => by have := (lS_bit hn j0 (by omega)).mp z; omega⟩, ?_⟩
  refine set_ext a.1 (by omega) (by omega) (by omega) (fun j j0 j1 => ?_)
  rw [bit_sub b.1 (by omega) p0 (by omega) hb j0 j1, lS_bit hn j0 j1, lS_bit hn j0 j1]
  constructor
  · intro z; exact ⟨⟨z.1, by omega, z.2.2⟩, by omega⟩
  · intro z; exact ⟨z.1.1, by omega, z.1.2.2⟩
theorem lS_2 (hn : 0 ≤ n ∧ n ≤ 6) {p o : Int} (p0 : 0 ≤ p) (p1 : p < o) (o1 : o < n) (h : g o = -1) {g2 : Int → Int} (h2 : ∀ j, g2 j = if j = o then p else if j = p then o else g j) : bitB (lS g (p + 1) n) o ∧ lS g2 (p + 1) n = lS g (p + 1) n - pw o := by
  have q : pw n ≤ 64 := pw_le (q := 6) hn.1 hn.2
  have a := lS_rg (g := g2) (p := p + 1) hn
  have b := lS_rg (g := g) (p := p + 1) hn
  have hb : bitB (lS g (p + 1) n) o := (lS_bit hn (by omega) (by omega)).mpr ⟨o1, by omega, h⟩
  have c := clr_eq b.1 (by omega) (by omega) (by omega) hb
  have pp := pw_pos o
  refine ⟨hb, set_ext a.1 (by omega) (by omega) (by omega) (fun j j0 j1 => ?_)⟩
  rw [bit_sub b.1 (by omega) (by omega) (by omega) hb j0 j1, lS_bit hn j0 j1, lS_bit hn j0 j1, h2]
  constructor
  · intro z
    by_cases e : j = o
    · rw [if_pos e] at z; omega
    · rw [if_neg e, if_neg (by omega)] at z
      exact ⟨z, e⟩
  · intro z
    rw [if_neg z.2, if_neg (by omega)]
    exact z.1
theorem lS_e (hn : 0 ≤ n ∧ n ≤ 6) : lS g n n = 0 := by
  have q : pw n ≤ 64 := pw_le (q := 6) hn.1 hn.2
  have a := lS_rg (g := g) (p := n) hn
  refine set_ext a.1 (by omega) (by decide) (by decide) (fun j j0 j1 => ?_)
  rw [lS_bit hn j0 j1]
  exact ⟨fun z => by omega, fun z => absurd z (bit_0 j0 j1)⟩
theorem bt_256 : ∀ a : Fin 256, bcI (a : Nat) = bitsM (a : Nat) 31 := by decide +kernel
theorem bcI_256 {s : Int} (h0 : 0 ≤ s) (h1 : s < 256) : bcI s = bitsM s 31 := by
  have := bt_256 ⟨s.toNat, by omega⟩
  rw [show ((⟨s.toNat, by omega⟩ : Fin 256) : Nat) = s.toNat from rfl, Int.toNat_of_nonneg h0] at this
  exact this
end pairs4
