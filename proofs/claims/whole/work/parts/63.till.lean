/-! ===== THE REFERENCE: till ===== -/
def SV (S T : Nat → Int → Int) : Prop := (∀ a, a ≠ 300 → a ≠ 303 → (a < 306 ∨ a = 312 ∨ 315 < a) → T a = S a) ∧ (∀ j, j = 0 ∨ j = 3 ∨ j = 6 ∨ j = 8 ∨ j = 12 → T 300 j = S 300 j)
theorem SV_refl {S : Nat → Int → Int} : SV S S := ⟨fun _ _ _ _ => rfl, fun _ _ => rfl⟩
theorem SV_t {S T U : Nat → Int → Int} (h : SV S T) (g : SV T U) : SV S U := ⟨fun a h1 h2 h3 => (g.1 a h1 h2 h3).trans (h.1 a h1 h2 h3), fun j h1 => (g.2 j h1).trans (h.2 j h1)⟩
theorem SV_up {S T : Nat → Int → Int} {a : Nat} {i v : Int} (h : SV S T) (ha : 306 ≤ a ∧ a ≤ 311 ∨ 313 ≤ a ∧ a ≤ 315) : SV S (upS T a i v) := by
  refine ⟨fun b h1 h2 h3 => ?_, fun j h1 => ?_⟩
  · rw [← h.1 b h1 h2 h3]; funext j; rw [upS_at, if_neg (by omega)]
  · rw [← h.2 j h1, upS_at, if_neg (by omega)]
theorem SV_m {S T : Nat → Int → Int} (h : SV S T) : T 301 = S 301 := h.1 301 (by decide) (by decide) (by decide)
/-- for how many there is room -/
def roomM (F : Int → Int → Int) (f : Int) : Int := if 0 < F f 1 then F f 2 else 0
/-- how many letters are put on a field -/
def inW (P : Int → Int → Int) (c : Int → Int) (f n : Int) : Int := sumZ n fun p => if c p = f then P p 0 else 0
/-- how many put there last -/
noncomputable def ctW (L : Int → Int → Prop) (c : Int → Int) (f n : Int) : Int := sumZ n fun p => @ite _ (c p = f ∧ L p f) (Classical.propDecidable _) 1 0
noncomputable def tlW (L : Int → Int → Prop) (c : Int → Int) (np n : Int) : Int := sumZ n fun f => ctW L c f np
noncomputable def byW (P F : Int → Int → Int) (L : Int → Int → Prop) (c : Int → Int) (nf np : Int) : Int := @ite _ (∀ f, 0 ≤ f → f < nf → inW P c f np ≤ roomM F f) (Classical.propDecidable _) (tlW L c np nf) (-1)
/-- which way it is, by number -/
def nrN (F : Int) (c : Int → Int) : Nat → Int
  | 0 => 0
  | k + 1 => nrN F c k * (F + 1) + c k
def nrZ (F n : Int) (c : Int → Int) : Int := nrN F c n.toNat
def pwN (F : Int) : Nat → Int
  | 0 => 1
  | k + 1 => pwN F k * (F + 1)
def pwZ (F n : Int) : Int := pwN F n.toNat
def okW (F : Int) (c : Int → Int) : Prop := ∀ k, 0 ≤ k → k < 6 → 0 ≤ c k ∧ c k ≤ F
theorem nrN_rg {F : Int} {c : Int → Int} (hF : 0 ≤ F) : ∀ n : Nat, (∀ k : Int, 0 ≤ k → k < n → 0 ≤ c k ∧ c k ≤ F) → 0 ≤ nrN F c n ∧ nrN F c n < pwN F n
  | 0, _ => by show 0 ≤ (0 : Int) ∧ (0 : Int) < 1; omega
  | n + 1, h => by
    have i := nrN_rg hF n (fun k h0 h1 => h k h0 (by omega))
    have c0 := h n (by omega) (by omega)
    show 0 ≤ nrN F c n * (F + 1) + c n ∧ nrN F c n * (F + 1) + c n < pwN F n * (F + 1)
    have e1 : nrN F c n * (F + 1) ≤ (pwN F n - 1) * (F + 1) := Int.mul_le_mul_of_nonneg_right (by omega) (by omega)
    have e2 : (pwN F n - 1) * (F + 1) = pwN F n * (F + 1) - (F + 1) := by rw [Int.sub_mul, Int.one_mul]
    have e3 : 0 ≤ nrN F c n * (F + 1) := Int.mul_nonneg i.1 (by omega)
    omega
theorem nrN_congr {F : Int} {c e : Int → Int} : ∀ n : Nat, (∀ k : Int, 0 ≤ k → k < n → c k = e k) → nrN F c n = nrN F e n
  | 0, _ => rfl
  | n + 1, h => by
    show nrN F c n * (F + 1) + c n = nrN F e n * (F + 1) + e n
    rw [nrN_congr n (fun k h0 h1 => h k h0 (by omega)), h n (by omega) (by omega)]
/-- the next way's number is the next -/
theorem nrN_nx {F : Int} {c e : Int → Int} {p N : Nat} (hl : ∀ k : Int, 0 ≤ k → k < p → c k = e k) (hp : e p = c p + 1) (hh : ∀ k : Int, (p : Int) < k → c k = F ∧ e k = 0 ∨ (N : Int) ≤ k) : ∀ n : Nat, p < n → n ≤ N → nrN F e n = nrN F c n + 1
  | 0, h, _ => by omega
  | n + 1, h, h6 => by
    show nrN F e n * (F + 1) + e n = nrN F c n * (F + 1) + c n + 1
    by_cases z : n = p
    · subst z
      rw [nrN_congr n (fun k h0 h1 => (hl k h0 h1).symm), hp]
      omega
    · rw [nrN_nx hl hp hh n (by omega) (by omega)]
      rcases hh n (by omega) with ⟨h1, h2⟩ | h1
      · rw [h1, h2, Int.add_mul]; omega
      · omega
theorem nrN_all {F : Int} {c : Int → Int} : ∀ n : Nat, (∀ k : Int, 0 ≤ k → k < n → c k = F) → nrN F c n + 1 = pwN F n
  | 0, _ => by show (0 : Int) + 1 = 1; omega
  | n + 1, h => by
    have i := nrN_all n (fun k h0 h1 => h k h0 (by omega))
    have c0 := h n (by omega) (by omega)
    show nrN F c n * (F + 1) + c n + 1 = pwN F n * (F + 1)
    rw [← i, c0, Int.add_mul (nrN F c n)]
    omega
theorem nrN_0 {F : Int} : ∀ n : Nat, nrN F (fun _ => 0) n = 0
  | 0 => rfl
  | n + 1 => by show nrN F (fun _ => 0) n * (F + 1) + 0 = 0; rw [nrN_0 n]; omega
theorem nrN_inj {F : Int} {c e : Int → Int} (hF : 0 ≤ F) : ∀ n : Nat, (∀ k : Int, 0 ≤ k → k < n → 0 ≤ c k ∧ c k ≤ F) → (∀ k : Int, 0 ≤ k → k < n → 0 ≤ e k ∧ e k ≤ F) → nrN F c n = nrN F e n → ∀ k : Int, 0 ≤ k → k < n → c k = e k
  | 0, _, _, _ => fun k h0 h1 => by omega
  | n + 1, h, g, z => by
    have c0 := h n (by omega) (by omega)
    have e0 := g n (by omega) (by omega)
    have z' : nrN F c n * (F + 1) + c n = nrN F e n * (F + 1) + e n := z
    have q : nrN F c n = nrN F e n := by
      have q1 : (nrN F c n * (F + 1) + c n) / (F + 1) = nrN F c n := by
        rw [Int.add_comm, Int.add_mul_ediv_right _ _ (by omega), Int.ediv_eq_zero_of_lt c0.1 (by omega)]; omega
      have q2 : (nrN F e n * (F + 1) + e n) / (F + 1) = nrN F e n := by
        rw [Int.add_comm, Int.add_mul_ediv_right _ _ (by omega), Int.ediv_eq_zero_of_lt e0.1 (by omega)]; omega
      rw [← q1, ← q2, z']
    intro k h0 h1
    by_cases y : k = n
    · subst y; rw [q] at z'; omega
    · exact nrN_inj hF n (fun k h0 h1 => h k h0 (by omega)) (fun k h0 h1 => g k h0 (by omega)) q k h0 (by omega)
theorem inW_s {P : Int → Int → Int} {c : Int → Int} {f n : Int} (h : 0 ≤ n) : inW P c f (n + 1) = inW P c f n + if c n = f then P n 0 else 0 := sumZ_s h
theorem ctW_y {L : Int → Int → Prop} {c : Int → Int} {f n : Int} (h : 0 ≤ n) (hc : c n = f) (hL : L n f) : ctW L c f (n + 1) = ctW L c f n + 1 := by
  unfold ctW; rw [sumZ_s h, if_pos ⟨hc, hL⟩]
theorem ctW_n {L : Int → Int → Prop} {c : Int → Int} {f n : Int} (h : 0 ≤ n) (hc : ¬ (c n = f ∧ L n f)) : ctW L c f (n + 1) = ctW L c f n := by
  unfold ctW; rw [sumZ_s h, if_neg hc]; omega
theorem ctW_rg {L : Int → Int → Prop} {c : Int → Int} {f n : Int} (h : 0 ≤ n) : 0 ≤ ctW L c f n ∧ ctW L c f n ≤ n := by
  have := sumZ_le (n := n) (a := 0) (b := 1) (f := fun p => @ite _ (c p = f ∧ L p f) (Classical.propDecidable _) (1 : Int) 0) h (fun i _ _ => by
    show 0 ≤ @ite _ (c i = f ∧ L i f) (Classical.propDecidable _) (1 : Int) 0 ∧ @ite _ (c i = f ∧ L i f) (Classical.propDecidable _) (1 : Int) 0 ≤ 1
    by_cases q : c i = f ∧ L i f
    · rw [if_pos q]; omega
    · rw [if_neg q]; omega)
  show 0 ≤ sumZ _ _ ∧ sumZ _ _ ≤ n
  omega
theorem tlW_rg {L : Int → Int → Prop} {c : Int → Int} {np n : Int} (h : 0 ≤ n) (hp : 0 ≤ np ∧ np ≤ 6) : 0 ≤ tlW L c np n ∧ tlW L c np n ≤ 6 * n := by
  have := sumZ_le (n := n) (a := 0) (b := 6) (f := fun f => ctW L c f np) h (fun i _ _ => by have := ctW_rg (L := L) (c := c) (f := i) hp.1; omega)
  show 0 ≤ sumZ _ _ ∧ sumZ _ _ ≤ 6 * n
  omega
theorem inW_rg {P : Int → Int → Int} {c : Int → Int} {f n : Int} (h : 0 ≤ n ∧ n ≤ 6) (hP : ∀ p, 0 ≤ p → p < 6 → 0 ≤ P p 0 ∧ P p 0 ≤ 6) : 0 ≤ inW P c f n ∧ inW P c f n ≤ 36 := by
  have := sumZ_le (n := n) (a := 0) (b := 6) (f := fun p => if c p = f then P p 0 else 0) h.1 (fun i i0 i1 => by have := hP i i0 (by omega); split <;> omega)
  show 0 ≤ sumZ _ _ ∧ sumZ _ _ ≤ 36
  omega
theorem byW_y {P F : Int → Int → Int} {L : Int → Int → Prop} {c : Int → Int} {nf np a : Int} (h : ∀ f, 0 ≤ f → f < nf → inW P c f np ≤ roomM F f) (ha : a = tlW L c np nf) : a = byW P F L c nf np := by unfold byW; rw [if_pos h, ha]
theorem byW_n {P F : Int → Int → Int} {L : Int → Int → Prop} {c : Int → Int} {nf np f : Int} (h0 : 0 ≤ f) (h1 : f < nf) (h : roomM F f < inW P c f np) : -1 = byW P F L c nf np := by
  unfold byW; rw [if_neg (fun z => by have := z f h0 h1; omega)]
theorem byW_rg {P F : Int → Int → Int} {L : Int → Int → Prop} {c : Int → Int} {nf np : Int} (h : 0 ≤ nf ∧ nf ≤ 6) (hp : 0 ≤ np ∧ np ≤ 6) : -1 ≤ byW P F L c nf np ∧ byW P F L c nf np ≤ 36 := by
  unfold byW
  have := tlW_rg (L := L) (c := c) h.1 hp
  by_cases q : ∀ f, 0 ≤ f → f < nf → inW P c f np ≤ roomM F f
  · rw [if_pos q]; omega
  · rw [if_neg q]; omega
def rmB (P F : Int → Int → Int) (c : Int → Int) (np n : Int) : Prop := ∀ f, 0 ≤ f → f < n → inW P c f np ≤ roomM F f
theorem rmB_0 {P F : Int → Int → Int} {c : Int → Int} {np : Int} : rmB P F c np 0 := fun f h0 h1 => by omega
theorem rmB_s {P F : Int → Int → Int} {c : Int → Int} {np n : Int} (h : rmB P F c np n) (g : inW P c n np ≤ roomM F n) : rmB P F c np (n + 1) := fun f h0 h1 => by
  by_cases q : f = n
  · rw [q]; exact g
  · exact h f h0 (by omega)
/-- 0 behind p -/
def zrT (S T : Nat → Int → Int) (p n : Int) : Prop := (∀ a, a ≠ 314 → T a = S a) ∧ (∀ j, T 314 j = if p < j ∧ j < n then 0 else S 314 j)
theorem zrT_0 {S : Nat → Int → Int} {n : Int} : zrT S S (n - 1) n := ⟨fun _ _ => rfl, fun j => by rw [if_neg (by omega)]⟩
theorem zrT_s {S T : Nat → Int → Int} {p n : Int} (hp : p < n) (h : zrT S T p n) : zrT S (upS T 314 p 0) (p - 1) n := by
  refine ⟨fun a ha => ?_, fun j => ?_⟩
  · rw [← h.1 a ha]; funext j; rw [upS_at, if_neg (fun z => ha z.1)]
  · rw [upS_at]
    by_cases q : j = p
    · subst q; rw [if_pos ⟨rfl, rfl⟩, if_pos (by omega)]
    · rw [if_neg (fun z => q z.2), h.2 j]
      by_cases y : p < j ∧ j < n
      · rw [if_pos y, if_pos (by omega)]
      · rw [if_neg y, if_neg (by omega)]
def nxT (S T : Nat → Int → Int) (p n : Int) : Prop := (∀ a, a ≠ 314 → T a = S a) ∧ (∀ j, T 314 j = if p < j ∧ j < n then 0 else if j = p then S 314 j + 1 else S 314 j)
theorem nxT_of {S T : Nat → Int → Int} {p n : Int} (h : zrT S T p n) : nxT S (upS T 314 p (T 314 p + 1)) p n := by
  refine ⟨fun a ha => ?_, fun j => ?_⟩
  · rw [← h.1 a ha]; funext j; rw [upS_at, if_neg (fun z => ha z.1)]
  · rw [upS_at]
    by_cases q : j = p
    · subst q; rw [if_pos ⟨rfl, rfl⟩, if_neg (by omega), if_pos rfl, h.2 j, if_neg (by omega)]
    · rw [if_neg (fun z => q z.2), h.2 j]
      by_cases y : p < j ∧ j < n
      · rw [if_pos y, if_pos y]
      · rw [if_neg y, if_neg y, if_neg q]
def fulW (c : Int → Int) (F p n : Int) : Prop := ∀ k, p < k → k < n → c k = F
theorem fulW_0 {c : Int → Int} {F n : Int} : fulW c F (n - 1) n := fun k h0 h1 => by omega
theorem fulW_s {c : Int → Int} {F p n : Int} (h : fulW c F p n) (g : c p = F) : fulW c F (p - 1) n := fun k h0 h1 => by
  by_cases q : k = p
  · rw [q]; exact g
  · exact h k (by omega) h1
theorem byW_congr {P F : Int → Int → Int} {L G : Int → Int → Prop} {c e : Int → Int} {nf np : Int} (h : ∀ k, 0 ≤ k → k < np → c k = e k) (g : ∀ p f, 0 ≤ p → p < np → 0 ≤ f → f < nf → (L p f ↔ G p f)) : byW P F L c nf np = byW P F G e nf np := by
  have e1 : ∀ f, inW P c f np = inW P e f np := fun f => sumZ_congr fun p p0 p1 => by rw [h p p0 p1]
  have e2 : tlW L c np nf = tlW G e np nf := sumZ_congr fun f f0 f1 => sumZ_congr fun p p0 p1 => by
    show @ite _ (c p = f ∧ L p f) (Classical.propDecidable _) (1 : Int) 0 = @ite _ (e p = f ∧ G p f) (Classical.propDecidable _) 1 0
    have q : (c p = f ∧ L p f) = (e p = f ∧ G p f) := propext ⟨fun z => ⟨by rw [← h p p0 p1]; exact z.1, (g p f p0 p1 f0 f1).mp z.2⟩, fun z => ⟨by rw [h p p0 p1]; exact z.1, (g p f p0 p1 f0 f1).mpr z.2⟩⟩
    by_cases z : c p = f ∧ L p f
    · rw [if_pos z, if_pos (by rw [← q]; exact z)]
    · rw [if_neg z, if_neg (by rw [← q]; exact z)]
  unfold byW
  by_cases z : ∀ f, 0 ≤ f → f < nf → inW P c f np ≤ roomM F f
  · rw [if_pos z, if_pos (fun f f0 f1 => by rw [← e1 f]; exact z f f0 f1), e2]
  · rw [if_neg z, if_neg (fun y => z (fun f f0 f1 => by rw [e1 f]; exact y f f0 f1))]
/-- all unwritten: there is room -/
theorem byW_all {P F : Int → Int → Int} {L : Int → Int → Prop} {nf np : Int} (h0 : 0 ≤ nf) (hp : 0 ≤ np ∧ np ≤ 6) (hF : ∀ f, 0 ≤ f → f < nf → 0 ≤ roomM F f) : 0 ≤ byW P F L (fun _ => nf) nf np := by
  have e1 : ∀ f, 0 ≤ f → f < nf → inW P (fun _ => nf) f np ≤ roomM F f := fun f f0 f1 => by
    have e : inW P (fun _ => nf) f np = sumZ np (fun _ => 0) := sumZ_congr fun p p0 p1 => by
      show (if nf = f then P p 0 else 0) = 0
      rw [if_neg (by omega)]
    have q := sumZ_le (n := np) (a := 0) (b := 0) (f := fun _ => 0) hp.1 (fun i _ _ => ⟨Int.le_refl _, Int.le_refl _⟩)
    have := hF f f0 f1
    omega
  unfold byW
  rw [if_pos e1]
  exact (tlW_rg h0 hp).1
/-- the best of all ways: how many, and the first such way -/
def isBst (F np : Int) (by_ : (Int → Int) → Int) (mo : Int) (c : Int → Int) : Prop := okW F c ∧ by_ c = mo ∧ ∀ w, okW F w → by_ w ≤ mo ∧ (nrZ F np w < nrZ F np c → by_ w < mo)
def bstW (F np : Int) (by_ : (Int → Int) → Int) (i mo : Int) (c : Int → Int) : Prop := (∀ w, okW F w → nrZ F np w < i → by_ w ≤ mo) ∧ (mo = -1 ∨ (okW F c ∧ nrZ F np c < i ∧ by_ c = mo ∧ ∀ w, okW F w → nrZ F np w < nrZ F np c → by_ w < mo))
theorem nrZ_rg {F np : Int} {c : Int → Int} (hF : 0 ≤ F) (hp : 0 ≤ np ∧ np ≤ 6) (h : okW F c) : 0 ≤ nrZ F np c ∧ nrZ F np c < pwZ F np := nrN_rg hF _ (fun k k0 k1 => h k k0 (by omega))
theorem bstW_0 {F np : Int} {by_ : (Int → Int) → Int} {c : Int → Int} (hF : 0 ≤ F) (hp : 0 ≤ np ∧ np ≤ 6) : bstW F np by_ 0 (-1) c := ⟨fun w h g => by have := nrZ_rg hF hp h; omega, Or.inl rfl⟩
theorem bstW_s {F np : Int} {by_ : (Int → Int) → Int} {i mo mo2 y : Int} {c c2 w0 : Int → Int} (hF : 0 ≤ F) (hp : 0 ≤ np ∧ np ≤ 6) (hc : ∀ w e : Int → Int, (∀ k, 0 ≤ k → k < np → w k = e k) → by_ w = by_ e) (h : bstW F np by_ i mo c) (hw : okW F w0) (hi : nrZ F np w0 = i) (hy : y = by_ w0) (hn : (mo < y ∧ mo2 = y ∧ ∀ k, 0 ≤ k → k < 6 → c2 k = w0 k) ∨ (y ≤ mo ∧ mo2 = mo ∧ c2 = c)) : bstW F np by_ (i + 1) mo2 c2 := by
  have hu : ∀ w, okW F w → nrZ F np w = i → by_ w = y := fun w h1 h2 => by
    rw [hy]
    exact hc _ _ fun k k0 k1 => nrN_inj hF np.toNat (fun k k0 k1 => h1 k k0 (by omega)) (fun k k0 k1 => hw k k0 (by omega)) (h2.trans hi.symm) k k0 (by omega)
  rcases hn with ⟨h1, h2, h3⟩ | ⟨h1, h2, h3⟩
  · have n2 : nrZ F np c2 = i := by rw [← hi]; exact nrN_congr _ fun k k0 k1 => h3 k k0 (by omega)
    refine ⟨fun w g1 g2 => ?_, Or.inr ⟨fun k k0 k1 => by rw [h3 k k0 k1]; exact hw k k0 k1, by omega, ?_, fun w g1 g2 => ?_⟩⟩
    · by_cases q : nrZ F np w = i
      · have := hu w g1 q; omega
      · have := h.1 w g1 (by omega); omega
    · rw [h2, hy]; exact hc _ _ fun k k0 k1 => h3 k k0 (by omega)
    · have := h.1 w g1 (by omega); omega
  · subst h2 h3
    refine ⟨fun w g1 g2 => ?_, ?_⟩
    · by_cases q : nrZ F np w = i
      · have := hu w g1 q; omega
      · exact h.1 w g1 (by omega)
    · rcases h.2 with z | ⟨z1, z2, z3, z4⟩
      · exact Or.inl z
      · exact Or.inr ⟨z1, by omega, z3, z4⟩
theorem bstW_e {F np : Int} {by_ : (Int → Int) → Int} {mo : Int} {c : Int → Int} (hF : 0 ≤ F) (hp : 0 ≤ np ∧ np ≤ 6) (h : bstW F np by_ (pwZ F np) mo c) (ha : 0 ≤ by_ (fun _ => F)) : isBst F np by_ mo c := by
  have o : okW F (fun _ => F) := fun k k0 k1 => ⟨hF, Int.le_refl _⟩
  have b := h.1 _ o (nrZ_rg hF hp o).2
  rcases h.2 with z | ⟨z1, z2, z3, z4⟩
  · omega
  · exact ⟨z1, z3, fun w w0 => ⟨h.1 w w0 (nrZ_rg hF hp w0).2, z4 w w0⟩⟩
theorem isBst_uq {F np : Int} {by_ : (Int → Int) → Int} {mo mo2 : Int} {c c2 : Int → Int} (hF : 0 ≤ F) (hp : 0 ≤ np ∧ np ≤ 6) (h : isBst F np by_ mo c) (g : isBst F np by_ mo2 c2) : mo = mo2 ∧ ∀ k, 0 ≤ k → k < np → c k = c2 k := by
  obtain ⟨h1, h2, h3⟩ := h
  obtain ⟨g1, g2, g3⟩ := g
  have a := (h3 _ g1).1
  have b := (g3 _ h1).1
  have e : mo = mo2 := by omega
  refine ⟨e, ?_⟩
  have q : nrZ F np c = nrZ F np c2 := by
    have x := (h3 _ g1).2
    have y := (g3 _ h1).2
    omega
  intro k k0 k1
  exact nrN_inj hF np.toNat (fun k k0 k1 => h1 k k0 (by omega)) (fun k k0 k1 => g1 k k0 (by omega)) q k k0 (by omega)
theorem zrT_SV {S T : Nat → Int → Int} {p n : Int} (h : zrT S T p n) : SV S T := ⟨fun a h1 _ h3 => h.1 a (by omega), fun j _ => by rw [h.1 300 (by decide)]⟩
theorem nxT_SV {S T : Nat → Int → Int} {p n : Int} (h : nxT S T p n) : SV S T := ⟨fun a h1 _ h3 => h.1 a (by omega), fun j _ => by rw [h.1 300 (by decide)]⟩
/-- behind all but p full, the next way -/
theorem nxT_nr {S T : Nat → Int → Int} {p n F : Int} (hp : 0 ≤ p ∧ p < n) (hn : n ≤ 6) (hf : fulW (S 314) F p n) (h : nxT S T p n) : nrZ F n (T 314) = nrZ F n (S 314) + 1 := by
  refine nrN_nx (p := p.toNat) (N := n.toNat) (fun k k0 k1 => ?_) ?_ (fun k k0 => ?_) n.toNat (by omega) (Nat.le_refl _)
  · rw [h.2 k, if_neg (by omega), if_neg (by omega)]
  · rw [h.2, if_neg (by omega), if_pos (by omega)]
  · by_cases q : k < n
    · exact Or.inl ⟨hf k (by omega) q, by rw [h.2 k, if_pos (by omega)]⟩
    · exact Or.inr (by omega)
/-- the next way, or none-/
def nwR (S T : Nat → Int → Int) (r : Int) : Prop := (r = 1 ∧ ∃ p, (0 ≤ p ∧ p < S 301 4) ∧ S 314 p ≠ S 301 3 ∧ fulW (S 314) (S 301 3) p (S 301 4) ∧ nxT S T p (S 301 4)) ∨ (r = 0 ∧ fulW (S 314) (S 301 3) (-1) (S 301 4) ∧ zrT S T (-1) (S 301 4))
section Ref36
variable {tb : Tab} {d : Nat} {m : AM} {K : Out → AM → Prop} {S : Nat → Int → Int} {ev : LawD → Int → (Int → Int) → Int} {good : LawD → Prop}
theorem k293_0 : pg.1 293 0 = [.bipush 0, .istore 1, .bipush 0, .istore 2, .jsr 4] := rfl
theorem a293_0 {tb : Tab} {d : Nat} {K : Out → AM → Prop} {ls st : List AV} {m : AM} : At tb d 293 K 0 ls st m = wpB tb (pg.2.1 293) (Runs tb pg d) K (At tb d 293 K) [.bipush 0, .istore 1, .bipush 0, .istore 2, .jsr 4] ls st m := At.eq k293_0
theorem k293_4 : pg.1 293 4 = [.iload 2, .aload 0, .getfield 1001, .bipush 3, .iaload, .if_icmp .ge 113, .aload 0, .iload 2, .bipush 1, .invokeinterface 205 3, .ifCond .le 32, .aload 0, .iload 2, .bipush 2, .invokeinterface 205 3, .goto 33] := rfl
theorem a293_4 {tb : Tab} {d : Nat} {K : Out → AM → Prop} {ls st : List AV} {m : AM} : At tb d 293 K 4 ls st m = wpB tb (pg.2.1 293) (Runs tb pg d) K (At tb d 293 K) [.iload 2, .aload 0, .getfield 1001, .bipush 3, .iaload, .if_icmp .ge 113, .aload 0, .iload 2, .bipush 1, .invokeinterface 205 3, .ifCond .le 32, .aload 0, .iload 2, .bipush 2, .invokeinterface 205 3, .goto 33] ls st m := At.eq k293_4
theorem k293_32 : pg.1 293 32 = [.bipush 0, .jsr 33] := rfl
theorem a293_32 {tb : Tab} {d : Nat} {K : Out → AM → Prop} {ls st : List AV} {m : AM} : At tb d 293 K 32 ls st m = wpB tb (pg.2.1 293) (Runs tb pg d) K (At tb d 293 K) [.bipush 0, .jsr 33] ls st m := At.eq k293_32
theorem k293_33 : pg.1 293 33 = [.istore 3, .bipush 0, .istore 4, .jsr 37] := rfl
theorem a293_33 {tb : Tab} {d : Nat} {K : Out → AM → Prop} {ls st : List AV} {m : AM} : At tb d 293 K 33 ls st m = wpB tb (pg.2.1 293) (Runs tb pg d) K (At tb d 293 K) [.istore 3, .bipush 0, .istore 4, .jsr 37] ls st m := At.eq k293_33
theorem k293_37 : pg.1 293 37 = [.iload 4, .aload 0, .getfield 1001, .bipush 4, .iaload, .if_icmp .ge 101, .aload 0, .getfield 1027, .iload 4, .iaload, .iload 2, .if_icmp .eq 62, .goto 95] := rfl
theorem a293_37 {tb : Tab} {d : Nat} {K : Out → AM → Prop} {ls st : List AV} {m : AM} : At tb d 293 K 37 ls st m = wpB tb (pg.2.1 293) (Runs tb pg d) K (At tb d 293 K) [.iload 4, .aload 0, .getfield 1001, .bipush 4, .iaload, .if_icmp .ge 101, .aload 0, .getfield 1027, .iload 4, .iaload, .iload 2, .if_icmp .eq 62, .goto 95] ls st m := At.eq k293_37
theorem k293_62 : pg.1 293 62 = [.iload 3, .aload 0, .iload 4, .bipush 0, .invokeinterface 206 3, .isub, .istore 3, .iload 1, .aload 0, .getfield 1026, .bipush 6, .iload 4, .imul, .iload 2, .iadd, .baload, .ifCond .eq 92, .bipush 1, .goto 93] := rfl
theorem a293_62 {tb : Tab} {d : Nat} {K : Out → AM → Prop} {ls st : List AV} {m : AM} : At tb d 293 K 62 ls st m = wpB tb (pg.2.1 293) (Runs tb pg d) K (At tb d 293 K) [.iload 3, .aload 0, .iload 4, .bipush 0, .invokeinterface 206 3, .isub, .istore 3, .iload 1, .aload 0, .getfield 1026, .bipush 6, .iload 4, .imul, .iload 2, .iadd, .baload, .ifCond .eq 92, .bipush 1, .goto 93] ls st m := At.eq k293_62
theorem k293_92 : pg.1 293 92 = [.bipush 0, .jsr 93] := rfl
theorem a293_92 {tb : Tab} {d : Nat} {K : Out → AM → Prop} {ls st : List AV} {m : AM} : At tb d 293 K 92 ls st m = wpB tb (pg.2.1 293) (Runs tb pg d) K (At tb d 293 K) [.bipush 0, .jsr 93] ls st m := At.eq k293_92
theorem k293_93 : pg.1 293 93 = [.iadd, .istore 1, .jsr 95] := rfl
theorem a293_93 {tb : Tab} {d : Nat} {K : Out → AM → Prop} {ls st : List AV} {m : AM} : At tb d 293 K 93 ls st m = wpB tb (pg.2.1 293) (Runs tb pg d) K (At tb d 293 K) [.iadd, .istore 1, .jsr 95] ls st m := At.eq k293_93
theorem k293_95 : pg.1 293 95 = [.iinc 4 1, .goto 37] := rfl
theorem a293_95 {tb : Tab} {d : Nat} {K : Out → AM → Prop} {ls st : List AV} {m : AM} : At tb d 293 K 95 ls st m = wpB tb (pg.2.1 293) (Runs tb pg d) K (At tb d 293 K) [.iinc 4 1, .goto 37] ls st m := At.eq k293_95
theorem k293_101 : pg.1 293 101 = [.iload 3, .ifCond .ge 107, .bipush (-1), .ireturn] := rfl
theorem a293_101 {tb : Tab} {d : Nat} {K : Out → AM → Prop} {ls st : List AV} {m : AM} : At tb d 293 K 101 ls st m = wpB tb (pg.2.1 293) (Runs tb pg d) K (At tb d 293 K) [.iload 3, .ifCond .ge 107, .bipush (-1), .ireturn] ls st m := At.eq k293_101
theorem k293_107 : pg.1 293 107 = [.iinc 2 1, .goto 4] := rfl
theorem a293_107 {tb : Tab} {d : Nat} {K : Out → AM → Prop} {ls st : List AV} {m : AM} : At tb d 293 K 107 ls st m = wpB tb (pg.2.1 293) (Runs tb pg d) K (At tb d 293 K) [.iinc 2 1, .goto 4] ls st m := At.eq k293_107
theorem k293_113 : pg.1 293 113 = [.iload 1, .ireturn] := rfl
theorem a293_113 {tb : Tab} {d : Nat} {K : Out → AM → Prop} {ls st : List AV} {m : AM} : At tb d 293 K 113 ls st m = wpB tb (pg.2.1 293) (Runs tb pg d) K (At tb d 293 K) [.iload 1, .ireturn] ls st m := At.eq k293_113
theorem q_293 (hA : AB (S 301)) (hP : okW (S 301 3) (S 314)) (hZ : ∀ p f, 0 ≤ p → p < S 301 4 → 0 ≤ f → f < S 301 3 → S 313 (6 * p + f) = 0 ∨ S 313 (6 * p + f) = 1) (hK : ∀ r, r = byW (oR S) (fR S) (fun p f => S 313 (6 * p + f) ≠ 0) (S 314) (S 301 3) (S 301 4) → -1 ≤ r → r ≤ 36 → K (.inl (some (vi r))) (X S m)) : Runs tb pg (d + 2) 293 [vr 300] (X S m) K := by
  have hB : BR S := AB_B hA
  have b3 := hA.2.1.1
  have b4 := hA.2.1.2.1
  have bP : ∀ p, 0 ≤ p → p < 6 → 0 ≤ oR S p 0 ∧ oR S p 0 ≤ 6 := fun p h0 h1 => (hA.2.2.1 p h0 h1).1
  obtain ⟨L, hL⟩ : ∃ L : Int → Int → Prop, L = fun p f => S 313 (6 * p + f) ≠ 0 := ⟨_, rfl⟩
  rw [← hL] at hK
  have hL4 : (fun i : Int => ∀ (a : Int) (z3 : AV) (z4 : AV), a = tlW L (S 314) (S 301 4) i → (rmB (oR S) (fR S) (S 314) (S 301 4) i) → At tb (d + 1) 293 K 4 [vr 300, vi a, vi i, z3, z4] [] (X S m)) 0 := by
    refine loopZ (fun i : Int => ∀ (a : Int) (z3 : AV) (z4 : AV), a = tlW L (S 314) (S 301 4) i → (rmB (oR S) (fR S) (S 314) (S 301 4) i) → At tb (d + 1) 293 K 4 [vr 300, vi a, vi i, z3, z4] [] (X S m)) (S 301 3) (by omega) ?_ ?_
    · intro i h0 h1 h9 a z3 z4 ha hb
      have g1 := tlW_rg (L := L) (c := S 314) h0 b4
      have g2 : 0 ≤ fR S i 2 ∧ fR S i 2 ≤ 20 := (hA.2.2.2.1 i h0 (by omega)).2.2
      have g4 : 0 ≤ roomM (fR S) i ∧ roomM (fR S) i ≤ 20 := by unfold roomM; split <;> omega
      have hL37 : (fun j : Int => ∀ (x : Int) (c : Int), x = roomM (fR S) i - inW (oR S) (S 314) i j → c = a + ctW L (S 314) i j → At tb (d + 1) 293 K 37 [vr 300, vi c, vi i, vi x, vi j] [] (X S m)) 0 := by
        refine loopZ (fun j : Int => ∀ (x : Int) (c : Int), x = roomM (fR S) i - inW (oR S) (S 314) i j → c = a + ctW L (S 314) i j → At tb (d + 1) 293 K 37 [vr 300, vi c, vi i, vi x, vi j] [] (X S m)) (S 301 4) (by omega) ?_ ?_
        · intro j j0 j1 h8 x c hx hc
          have g3 := inW_rg (P := oR S) (c := S 314) (f := i) (n := j) (by omega) bP
          have g5 := ctW_rg (L := L) (c := S 314) (f := i) j0
          have g6 := bP j j0 (by omega)
          have hLj : L j i = (S 313 (6 * j + i) ≠ 0) := by rw [hL]
          have g7 := hP j j0 (by omega)
          have g8 := hZ j i j0 j1 h0 h1
          rw [a293_37]
          repeat' (first | refine h8 _ _ ?_ ?_ | simp only [w_iconst, w_istore, w_fall, Int.reduceToNat, w_iload, w_aload, x_g1001_300, x_iald, w_ialoads, w_ialoadw, w_ifc, cI, w_call, w_if, w_goto, x_g1027_300, w_isub, x_g1026_300, w_imul, w_iadd, x_bald, w_baloadx, w_iinc, lgB, Nat.reduceSub, w_ireturn, isA_301, isA_302, isA_303, isA_304, isA_305, isA_307, isA_308, isA_309, isA_310, isA_311, isA_312, isA_313, isA_314, isA_315, len_301, len_302, len_303, len_304, len_305, len_307, len_308, len_309, len_310, len_311, len_312, len_313, len_314, len_315, Int.cast_ofNat_Int, a293_0, a293_32, a293_33, a293_62, a293_92, a293_93, a293_95, a293_101, a293_107, a293_113, R32, List.getElem?_cons_zero, List.getElem?_cons_succ, List.set_cons_zero, List.set_cons_succ, List.cons_append, List.nil_append, List.replicate_succ, List.replicate_zero, List.take_succ_cons, List.take_zero, List.drop_succ_cons, List.drop_zero, List.reverse_cons, List.reverse_nil, List.length_cons, List.length_nil, Option.toList, true_and, and_true, eq_self, ↓reduceIte, not_true_eq_false, not_false_eq_true, true_or, or_true, upS_upS, upS_at, up300, up300b, oR3, fR3, dR3, lgR3, valM3, Int.reduceEq, Nat.reduceEqDiff, and_self, and_true, and_false, false_and, if_true, if_false] | refine q_205 hB ?_ ?_ ?_ | refine q_205 (BR3 hB) ?_ ?_ ?_ | refine q_205 (BRs hT hB) ?_ ?_ ?_ | refine q_206 hB ?_ ?_ ?_ | refine q_206 (BR3 hB) ?_ ?_ ?_ | refine q_206 (BRs hT hB) ?_ ?_ ?_ | with_reducible refine And.intro ?_ ?_ | with_reducible intro _)
          all_goals (try (first | omega | contradiction | ((try clear hK); (try clear hK0); (try clear hB); (try clear h9); (try clear h8); (try clear h7); (try simp only [oR3, fR3, dR3, lgR3, valM3, up300, up300b] at *); (try simp only [SR_o hT, SR_f hT, SR_d hT, SR_l hT, SR_v hT, SR_m hT, SR_g hT, oR3, fR3, dR3, lgR3, valM3, up300, up300b] at *); first | done | omega | (rw [inW_s j0, if_neg (by omega)]; omega) | (rw [inW_s j0, if_pos (by omega)]; omega) | (rw [ctW_n j0 (fun z => by have := z.1; omega)]; omega) | (rw [ctW_n j0 (fun z => by have := z.2; rw [hLj] at this; omega)]; omega) | (rw [ctW_y j0 (by omega) (by rw [hLj]; omega)]; omega) | grind)))
        · intro x c hx hc
          have g3 := inW_rg (P := oR S) (c := S 314) (f := i) (n := S 301 4) (by omega) bP
          have g5 := ctW_rg (L := L) (c := S 314) (f := i) b4.1
          rw [a293_37]
          repeat' (first | refine h9 _ _ _ ?_ ?_ | refine hK _ ?_ ?_ ?_ | simp only [w_iconst, w_istore, w_fall, Int.reduceToNat, w_iload, w_aload, x_g1001_300, x_iald, w_ialoads, w_ialoadw, w_ifc, cI, w_call, w_if, w_goto, x_g1027_300, w_isub, x_g1026_300, w_imul, w_iadd, x_bald, w_baloadx, w_iinc, lgB, Nat.reduceSub, w_ireturn, isA_301, isA_302, isA_303, isA_304, isA_305, isA_307, isA_308, isA_309, isA_310, isA_311, isA_312, isA_313, isA_314, isA_315, len_301, len_302, len_303, len_304, len_305, len_307, len_308, len_309, len_310, len_311, len_312, len_313, len_314, len_315, Int.cast_ofNat_Int, a293_0, a293_32, a293_33, a293_62, a293_92, a293_93, a293_95, a293_101, a293_107, a293_113, R32, List.getElem?_cons_zero, List.getElem?_cons_succ, List.set_cons_zero, List.set_cons_succ, List.cons_append, List.nil_append, List.replicate_succ, List.replicate_zero, List.take_succ_cons, List.take_zero, List.drop_succ_cons, List.drop_zero, List.reverse_cons, List.reverse_nil, List.length_cons, List.length_nil, Option.toList, true_and, and_true, eq_self, ↓reduceIte, not_true_eq_false, not_false_eq_true, true_or, or_true, upS_upS, upS_at, up300, up300b, oR3, fR3, dR3, lgR3, valM3, Int.reduceEq, Nat.reduceEqDiff, and_self, and_true, and_false, false_and, if_true, if_false] | refine q_205 hB ?_ ?_ ?_ | refine q_205 (BR3 hB) ?_ ?_ ?_ | refine q_205 (BRs hT hB) ?_ ?_ ?_ | refine q_206 hB ?_ ?_ ?_ | refine q_206 (BR3 hB) ?_ ?_ ?_ | refine q_206 (BRs hT hB) ?_ ?_ ?_ | with_reducible refine And.intro ?_ ?_ | with_reducible intro _)
          all_goals (try (first | omega | contradiction | ((try clear hK); (try clear hK0); (try clear hB); (try clear h9); (try clear h8); (try clear h7); (try simp only [oR3, fR3, dR3, lgR3, valM3, up300, up300b] at *); (try simp only [SR_o hT, SR_f hT, SR_d hT, SR_l hT, SR_v hT, SR_m hT, SR_g hT, oR3, fR3, dR3, lgR3, valM3, up300, up300b] at *); first | done | omega | (exact byW_n h0 h1 (by omega)) | (exact rmB_s hb (by omega)) | (unfold tlW at ha ⊢; rw [sumZ_s h0]; omega) | grind)))
      rw [a293_4]
      repeat' (first | refine h9 _ _ _ ?_ ?_ | refine hL37 _ _ ?_ ?_ | simp only [w_iconst, w_istore, w_fall, Int.reduceToNat, w_iload, w_aload, x_g1001_300, x_iald, w_ialoads, w_ialoadw, w_ifc, cI, w_call, w_if, w_goto, x_g1027_300, w_isub, x_g1026_300, w_imul, w_iadd, x_bald, w_baloadx, w_iinc, lgB, Nat.reduceSub, w_ireturn, isA_301, isA_302, isA_303, isA_304, isA_305, isA_307, isA_308, isA_309, isA_310, isA_311, isA_312, isA_313, isA_314, isA_315, len_301, len_302, len_303, len_304, len_305, len_307, len_308, len_309, len_310, len_311, len_312, len_313, len_314, len_315, Int.cast_ofNat_Int, a293_0, a293_32, a293_33, a293_62, a293_92, a293_93, a293_95, a293_101, a293_107, a293_113, R32, List.getElem?_cons_zero, List.getElem?_cons_succ, List.set_cons_zero, List.set_cons_succ, List.cons_append, List.nil_append, List.replicate_succ, List.replicate_zero, List.take_succ_cons, List.take_zero, List.drop_succ_cons, List.drop_zero, List.reverse_cons, List.reverse_nil, List.length_cons, List.length_nil, Option.toList, true_and, and_true, eq_self, ↓reduceIte, not_true_eq_false, not_false_eq_true, true_or, or_true, upS_upS, upS_at, up300, up300b, oR3, fR3, dR3, lgR3, valM3, Int.reduceEq, Nat.reduceEqDiff, and_self, and_true, and_false, false_and, if_true, if_false] | refine q_205 hB ?_ ?_ ?_ | refine q_205 (BR3 hB) ?_ ?_ ?_ | refine q_205 (BRs hT hB) ?_ ?_ ?_ | refine q_206 hB ?_ ?_ ?_ | refine q_206 (BR3 hB) ?_ ?_ ?_ | refine q_206 (BRs hT hB) ?_ ?_ ?_ | with_reducible refine And.intro ?_ ?_ | with_reducible intro _)
      all_goals (try (first | omega | contradiction | ((try clear hK); (try clear hK0); (try clear hB); (try clear h9); (try clear h8); (try clear h7); (try simp only [oR3, fR3, dR3, lgR3, valM3, up300, up300b] at *); (try simp only [SR_o hT, SR_f hT, SR_d hT, SR_l hT, SR_v hT, SR_m hT, SR_g hT, oR3, fR3, dR3, lgR3, valM3, up300, up300b] at *); first | done | omega | (show _ = _ - sumZ 0 _; rw [sumZ_0]; unfold roomM; split <;> omega) | (show _ = _ + sumZ 0 _; rw [sumZ_0]; omega) | grind)))
    · intro a z3 z4 ha hb
      have g1 := tlW_rg (L := L) (c := S 314) b3.1 b4
      rw [a293_4]
      repeat' (first | refine hK _ ?_ ?_ ?_ | simp only [w_iconst, w_istore, w_fall, Int.reduceToNat, w_iload, w_aload, x_g1001_300, x_iald, w_ialoads, w_ialoadw, w_ifc, cI, w_call, w_if, w_goto, x_g1027_300, w_isub, x_g1026_300, w_imul, w_iadd, x_bald, w_baloadx, w_iinc, lgB, Nat.reduceSub, w_ireturn, isA_301, isA_302, isA_303, isA_304, isA_305, isA_307, isA_308, isA_309, isA_310, isA_311, isA_312, isA_313, isA_314, isA_315, len_301, len_302, len_303, len_304, len_305, len_307, len_308, len_309, len_310, len_311, len_312, len_313, len_314, len_315, Int.cast_ofNat_Int, a293_0, a293_32, a293_33, a293_62, a293_92, a293_93, a293_95, a293_101, a293_107, a293_113, R32, List.getElem?_cons_zero, List.getElem?_cons_succ, List.set_cons_zero, List.set_cons_succ, List.cons_append, List.nil_append, List.replicate_succ, List.replicate_zero, List.take_succ_cons, List.take_zero, List.drop_succ_cons, List.drop_zero, List.reverse_cons, List.reverse_nil, List.length_cons, List.length_nil, Option.toList, true_and, and_true, eq_self, ↓reduceIte, not_true_eq_false, not_false_eq_true, true_or, or_true, upS_upS, upS_at, up300, up300b, oR3, fR3, dR3, lgR3, valM3, Int.reduceEq, Nat.reduceEqDiff, and_self, and_true, and_false, false_and, if_true, if_false] | refine q_205 hB ?_ ?_ ?_ | refine q_205 (BR3 hB) ?_ ?_ ?_ | refine q_205 (BRs hT hB) ?_ ?_ ?_ | refine q_206 hB ?_ ?_ ?_ | refine q_206 (BR3 hB) ?_ ?_ ?_ | refine q_206 (BRs hT hB) ?_ ?_ ?_ | with_reducible refine And.intro ?_ ?_ | with_reducible intro _)
      all_goals (try (first | omega | contradiction | ((try clear hK); (try clear hK0); (try clear hB); (try clear h9); (try clear h8); (try clear h7); (try simp only [oR3, fR3, dR3, lgR3, valM3, up300, up300b] at *); (try simp only [SR_o hT, SR_f hT, SR_d hT, SR_l hT, SR_v hT, SR_m hT, SR_g hT, oR3, fR3, dR3, lgR3, valM3, up300, up300b] at *); first | done | omega | (exact byW_y hb ha))))
  refine Runs.of (al := [vr 300]) (n := 4) ⟨300, _, _, rfl, xo_300⟩ rfl rfl trivial ?_
  repeat' (first | refine hL4 _ _ _ ?_ ?_ | simp only [w_iconst, w_istore, w_fall, Int.reduceToNat, w_iload, w_aload, x_g1001_300, x_iald, w_ialoads, w_ialoadw, w_ifc, cI, w_call, w_if, w_goto, x_g1027_300, w_isub, x_g1026_300, w_imul, w_iadd, x_bald, w_baloadx, w_iinc, lgB, Nat.reduceSub, w_ireturn, isA_301, isA_302, isA_303, isA_304, isA_305, isA_307, isA_308, isA_309, isA_310, isA_311, isA_312, isA_313, isA_314, isA_315, len_301, len_302, len_303, len_304, len_305, len_307, len_308, len_309, len_310, len_311, len_312, len_313, len_314, len_315, Int.cast_ofNat_Int, a293_0, a293_32, a293_33, a293_62, a293_92, a293_93, a293_95, a293_101, a293_107, a293_113, R32, List.getElem?_cons_zero, List.getElem?_cons_succ, List.set_cons_zero, List.set_cons_succ, List.cons_append, List.nil_append, List.replicate_succ, List.replicate_zero, List.take_succ_cons, List.take_zero, List.drop_succ_cons, List.drop_zero, List.reverse_cons, List.reverse_nil, List.length_cons, List.length_nil, Option.toList, true_and, and_true, eq_self, ↓reduceIte, not_true_eq_false, not_false_eq_true, true_or, or_true, upS_upS, upS_at, up300, up300b, oR3, fR3, dR3, lgR3, valM3, Int.reduceEq, Nat.reduceEqDiff, and_self, and_true, and_false, false_and, if_true, if_false] | with_reducible refine And.intro ?_ ?_ | with_reducible intro _)
  all_goals (try (first | omega | contradiction | ((try clear hK); (try clear hK0); (try clear hB); (try clear h9); (try clear h8); (try clear h7); (try simp only [oR3, fR3, dR3, lgR3, valM3, up300, up300b] at *); (try simp only [SR_o hT, SR_f hT, SR_d hT, SR_l hT, SR_v hT, SR_m hT, SR_g hT, oR3, fR3, dR3, lgR3, valM3, up300, up300b] at *); first | done | omega | exact rmB_0 | rfl)))
theorem k294_0 : pg.1 294 0 = [.aload 0, .getfield 1001, .bipush 4, .iaload, .bipush 1, .isub, .istore 1, .jsr 9] := rfl
theorem a294_0 {tb : Tab} {d : Nat} {K : Out → AM → Prop} {ls st : List AV} {m : AM} : At tb d 294 K 0 ls st m = wpB tb (pg.2.1 294) (Runs tb pg d) K (At tb d 294 K) [.aload 0, .getfield 1001, .bipush 4, .iaload, .bipush 1, .isub, .istore 1, .jsr 9] ls st m := At.eq k294_0
theorem k294_9 : pg.1 294 9 = [.iload 1, .ifCond .lt 41, .aload 0, .getfield 1027, .iload 1, .iaload, .aload 0, .getfield 1001, .bipush 3, .iaload, .if_icmp .ne 41, .aload 0, .getfield 1027, .iload 1, .bipush 0, .iastore, .iinc 1 (-1), .goto 9] := rfl
theorem a294_9 {tb : Tab} {d : Nat} {K : Out → AM → Prop} {ls st : List AV} {m : AM} : At tb d 294 K 9 ls st m = wpB tb (pg.2.1 294) (Runs tb pg d) K (At tb d 294 K) [.iload 1, .ifCond .lt 41, .aload 0, .getfield 1027, .iload 1, .iaload, .aload 0, .getfield 1001, .bipush 3, .iaload, .if_icmp .ne 41, .aload 0, .getfield 1027, .iload 1, .bipush 0, .iastore, .iinc 1 (-1), .goto 9] ls st m := At.eq k294_9
theorem k294_41 : pg.1 294 41 = [.iload 1, .ifCond .ge 47, .bipush 0, .freturn] := rfl
theorem a294_41 {tb : Tab} {d : Nat} {K : Out → AM → Prop} {ls st : List AV} {m : AM} : At tb d 294 K 41 ls st m = wpB tb (pg.2.1 294) (Runs tb pg d) K (At tb d 294 K) [.iload 1, .ifCond .ge 47, .bipush 0, .freturn] ls st m := At.eq k294_41
theorem k294_47 : pg.1 294 47 = [.aload 0, .getfield 1027, .iload 1, .dup2, .iaload, .bipush 1, .iadd, .iastore, .bipush 1, .freturn] := rfl
theorem a294_47 {tb : Tab} {d : Nat} {K : Out → AM → Prop} {ls st : List AV} {m : AM} : At tb d 294 K 47 ls st m = wpB tb (pg.2.1 294) (Runs tb pg d) K (At tb d 294 K) [.aload 0, .getfield 1027, .iload 1, .dup2, .iaload, .bipush 1, .iadd, .iastore, .bipush 1, .freturn] ls st m := At.eq k294_47
theorem q_294 (hA : AB (S 301)) (hP : okW (S 301 3) (S 314)) (hK : ∀ T r, nwR S T r → K (.inl (some (vi r))) (X T m)) : Runs tb pg (d + 1) 294 [vr 300] (X S m) K := by
  have b3 := hA.2.1.1
  have b4 := hA.2.1.2.1
  have hL9 : (fun i : Int => ∀ (T : Nat → Int → Int) (p : Int), (zrT S T p (S 301 4)) → p = S 301 4 - 1 - i → (fulW (S 314) (S 301 3) p (S 301 4)) → At tb (d + 0) 294 K 9 [vr 300, vi p] [] (X T m)) 0 := by
    refine loopZ (fun i : Int => ∀ (T : Nat → Int → Int) (p : Int), (zrT S T p (S 301 4)) → p = S 301 4 - 1 - i → (fulW (S 314) (S 301 3) p (S 301 4)) → At tb (d + 0) 294 K 9 [vr 300, vi p] [] (X T m)) (S 301 4) (by omega) ?_ ?_
    · intro i h0 h1 h9 T p hT hp hf
      have hTm : T 301 = S 301 := hT.1 301 (by decide)
      have g1 := hP p (by omega) (by omega)
      have g2 : T 314 p = S 314 p := by rw [hT.2 p, if_neg (by omega)]
      have o3 : T 301 3 = S 301 3 := by rw [hTm]
      have o4 : T 301 4 = S 301 4 := by rw [hTm]
      rw [a294_9]
      repeat' (first | refine h9 _ _ ?_ ?_ ?_ | refine hK _ _ ?_ | simp only [w_aload, x_g1001_300, w_iconst, x_iald, w_ialoads, w_ialoadw, w_isub, w_istore, w_fall, Int.reduceToNat, w_iload, w_if, cI, x_g1027_300, w_ifc, x_iast, w_iinc, lgB, Nat.reduceSub, w_goto, w_zreturn, w_dup2, w_iadd, isA_301, isA_302, isA_303, isA_304, isA_305, isA_307, isA_308, isA_309, isA_310, isA_311, isA_312, isA_313, isA_314, isA_315, len_301, len_302, len_303, len_304, len_305, len_307, len_308, len_309, len_310, len_311, len_312, len_313, len_314, len_315, Int.cast_ofNat_Int, a294_0, a294_41, a294_47, R32, List.getElem?_cons_zero, List.getElem?_cons_succ, List.set_cons_zero, List.set_cons_succ, List.cons_append, List.nil_append, List.replicate_succ, List.replicate_zero, List.take_succ_cons, List.take_zero, List.drop_succ_cons, List.drop_zero, List.reverse_cons, List.reverse_nil, List.length_cons, List.length_nil, Option.toList, true_and, and_true, eq_self, ↓reduceIte, not_true_eq_false, not_false_eq_true, true_or, or_true, upS_upS, upS_at, up300, up300b, oR3, fR3, dR3, lgR3, valM3, Int.reduceEq, Nat.reduceEqDiff, and_self, and_true, and_false, false_and, if_true, if_false] | with_reducible refine And.intro ?_ ?_ | with_reducible intro _)
      all_goals (try (first | omega | contradiction | ((try clear hK); (try clear hK0); (try clear hB); (try clear h9); (try clear h8); (try clear h7); (try simp only [oR3, fR3, dR3, lgR3, valM3, up300, up300b] at *); (try simp only [SR_o hT, SR_f hT, SR_d hT, SR_l hT, SR_v hT, SR_m hT, SR_g hT, oR3, fR3, dR3, lgR3, valM3, up300, up300b] at *); first | done | omega | exact Or.inl ⟨rfl, p, ⟨by omega, by omega⟩, by omega, hf, nxT_of hT⟩ | exact zrT_s (by omega) hT | (rw [show p + -1 = p - 1 by omega]; first | exact zrT_s (by omega) hT | exact fulW_s hf (by omega)))))
    · intro T p hT hp hf
      have e : p = -1 := by omega
      subst e
      rw [a294_9]
      repeat' (first | refine hK _ _ ?_ | simp only [w_aload, x_g1001_300, w_iconst, x_iald, w_ialoads, w_ialoadw, w_isub, w_istore, w_fall, Int.reduceToNat, w_iload, w_if, cI, x_g1027_300, w_ifc, x_iast, w_iinc, lgB, Nat.reduceSub, w_goto, w_zreturn, w_dup2, w_iadd, isA_301, isA_302, isA_303, isA_304, isA_305, isA_307, isA_308, isA_309, isA_310, isA_311, isA_312, isA_313, isA_314, isA_315, len_301, len_302, len_303, len_304, len_305, len_307, len_308, len_309, len_310, len_311, len_312, len_313, len_314, len_315, Int.cast_ofNat_Int, a294_0, a294_41, a294_47, R32, List.getElem?_cons_zero, List.getElem?_cons_succ, List.set_cons_zero, List.set_cons_succ, List.cons_append, List.nil_append, List.replicate_succ, List.replicate_zero, List.take_succ_cons, List.take_zero, List.drop_succ_cons, List.drop_zero, List.reverse_cons, List.reverse_nil, List.length_cons, List.length_nil, Option.toList, true_and, and_true, eq_self, ↓reduceIte, not_true_eq_false, not_false_eq_true, true_or, or_true, upS_upS, upS_at, up300, up300b, oR3, fR3, dR3, lgR3, valM3, Int.reduceEq, Nat.reduceEqDiff, and_self, and_true, and_false, false_and, if_true, if_false] | with_reducible refine And.intro ?_ ?_ | with_reducible intro _)
      all_goals (try (first | omega | contradiction | ((try clear hK); (try clear hK0); (try clear hB); (try clear h9); (try clear h8); (try clear h7); (try simp only [oR3, fR3, dR3, lgR3, valM3, up300, up300b] at *); (try simp only [SR_o hT, SR_f hT, SR_d hT, SR_l hT, SR_v hT, SR_m hT, SR_g hT, oR3, fR3, dR3, lgR3, valM3, up300, up300b] at *); first | done | omega | (exact Or.inr ⟨rfl, hf, hT⟩))))
  refine Runs.of (al := [vr 300]) (n := 1) ⟨300, _, _, rfl, xo_300⟩ rfl rfl trivial ?_
  repeat' (first | refine hL9 _ _ ?_ ?_ ?_ | simp only [w_aload, x_g1001_300, w_iconst, x_iald, w_ialoads, w_ialoadw, w_isub, w_istore, w_fall, Int.reduceToNat, w_iload, w_if, cI, x_g1027_300, w_ifc, x_iast, w_iinc, lgB, Nat.reduceSub, w_goto, w_zreturn, w_dup2, w_iadd, isA_301, isA_302, isA_303, isA_304, isA_305, isA_307, isA_308, isA_309, isA_310, isA_311, isA_312, isA_313, isA_314, isA_315, len_301, len_302, len_303, len_304, len_305, len_307, len_308, len_309, len_310, len_311, len_312, len_313, len_314, len_315, Int.cast_ofNat_Int, a294_0, a294_41, a294_47, R32, List.getElem?_cons_zero, List.getElem?_cons_succ, List.set_cons_zero, List.set_cons_succ, List.cons_append, List.nil_append, List.replicate_succ, List.replicate_zero, List.take_succ_cons, List.take_zero, List.drop_succ_cons, List.drop_zero, List.reverse_cons, List.reverse_nil, List.length_cons, List.length_nil, Option.toList, true_and, and_true, eq_self, ↓reduceIte, not_true_eq_false, not_false_eq_true, true_or, or_true, upS_upS, upS_at, up300, up300b, oR3, fR3, dR3, lgR3, valM3, Int.reduceEq, Nat.reduceEqDiff, and_self, and_true, and_false, false_and, if_true, if_false] | with_reducible refine And.intro ?_ ?_ | with_reducible intro _)
  all_goals (try (first | omega | contradiction | ((try clear hK); (try clear hK0); (try clear hB); (try clear h9); (try clear h8); (try clear h7); (try simp only [oR3, fR3, dR3, lgR3, valM3, up300, up300b] at *); (try simp only [SR_o hT, SR_f hT, SR_d hT, SR_l hT, SR_v hT, SR_m hT, SR_g hT, oR3, fR3, dR3, lgR3, valM3, up300, up300b] at *); first | done | omega | exact zrT_0 | exact fulW_0 | omega)))
theorem zrB_0 {T : Nat → Int → Int} {a : Nat} : zrB T a 0 := fun j h0 h1 => by omega
def cpB (f g : Int → Int) (n : Int) : Prop := ∀ k, 0 ≤ k → k < n → f k = g k
theorem cpB_0 {f g : Int → Int} : cpB f g 0 := fun k h0 h1 => by omega
theorem cpB_s {U : Nat → Int → Int} {a : Nat} {g : Int → Int} {n : Int} (h : cpB (U a) g n) : cpB ((upS U a n (g n)) a) g (n + 1) := fun k k0 k1 => by
  rw [upS_at]
  by_cases z : k = n
  · rw [if_pos ⟨rfl, z⟩, z]
  · rw [if_neg (fun y => z y.2)]; exact h k k0 (by omega)
/-- one who is written there is whole still in n days -/
def lasM (ev : LawD → Int → (Int → Int) → Int) (r : Int → Int) (n p f : Int) : Prop := fr r f 1 ≠ 0 ∧ wholeM (pr (goN ev 0 (wrtR ev r p f) n.toNat)) p (pr (goN ev 0 (wrtR ev r p f) n.toNat) p 0)
def lasT (ev : LawD → Int → (Int → Int) → Int) (r : Int → Int) (n : Int) (T : Nat → Int → Int) (a b : Int) : Prop := ∀ p f, 0 ≤ p → p < r 4 → 0 ≤ f → f < r 3 → (p < a ∨ (p = a ∧ f < b)) → yn (T 313 (6 * p + f)) (lasM ev r n p f)
theorem lasT_0 {ev : LawD → Int → (Int → Int) → Int} {r : Int → Int} {n : Int} {T : Nat → Int → Int} : lasT ev r n T 0 0 := fun p f h0 h1 h2 h3 h4 => by omega
theorem lasT_e {ev : LawD → Int → (Int → Int) → Int} {r : Int → Int} {n a : Int} {T : Nat → Int → Int} (h : lasT ev r n T a (r 3)) : lasT ev r n T (a + 1) 0 := fun p f h0 h1 h2 h3 h4 => h p f h0 h1 h2 h3 (by omega)
theorem lasT_s {ev : LawD → Int → (Int → Int) → Int} {r : Int → Int} {n a b v : Int} {T U : Nat → Int → Int} (h : lasT ev r n T a b) (h3 : r 3 ≤ 6) (hb : 0 ≤ b ∧ b < r 3) (hv : yn v (lasM ev r n a b)) (e : U 313 = fun j => if j = 6 * a + b then v else T 313 j) : lasT ev r n U a (b + 1) := fun p f p0 p1 f0 f1 q => by
  rw [e]
  by_cases z : p = a ∧ f = b
  · rw [z.1, z.2]
    show yn (if 6 * a + b = 6 * a + b then v else _) _
    rw [if_pos rfl]
    exact hv
  · show yn (if 6 * p + f = 6 * a + b then v else T 313 (6 * p + f)) _
    rw [if_neg (by omega)]
    exact h p f p0 p1 f0 f1 (by omega)
theorem lasT_SV {ev : LawD → Int → (Int → Int) → Int} {r : Int → Int} {n a b : Int} {T U : Nat → Int → Int} (h : lasT ev r n T a b) (e : U 313 = T 313) : lasT ev r n U a b := fun p f p0 p1 f0 f1 q => by rw [e]; exact h p f p0 p1 f0 f1 q
/-- tried, laid back, the answer kept -/
theorem SV_bk {S T U : Nat → Int → Int} {q : Int → Int} {k v : Int} (h : SV S T) (g : SR (sR (asS (upS T 313 k 0) 415) q) U) (hq : LQ (T 301) q) : SV S (sR (upS U 313 k v) (bkR ((upS U 313 k v) 301) ((upS U 313 k v) 303) 415)) ∧ (sR (upS U 313 k v) (bkR ((upS U 313 k v) 301) ((upS U 313 k v) 303) 415)) 313 = fun j => if j = k then v else T 313 j := by
  have e := SQ_back (S := upS T 313 k 0) g (by show LQ (T 301) q; exact hq)
  have e13 : U 313 = fun j => if j = k then 0 else T 313 j := g.1 313 (by decide) (by decide)
  have w : sR (upS U 313 k v) (bkR ((upS U 313 k v) 301) ((upS U 313 k v) 303) 415) = upS (sR U (bkR (U 301) (U 303) 415)) 313 k v := by
    funext b
    unfold sR upS
    by_cases h1 : b = 301
    · subst h1; rfl
    · rw [if_neg h1]
      by_cases h2 : b = 313
      · subst h2; rfl
      · rw [if_neg h2, if_neg h2]
        exact (if_neg h1).symm
  rw [w]
  refine ⟨SV_up ⟨fun a h1 h2 h3 => ?_, fun j h1 => ?_⟩ (Or.inr (by decide)), ?_⟩
  · rw [e.1 a h1 h2 (by omega)]
    funext j
    rw [upS_at, if_neg (by omega), h.1 a h1 h2 h3]
  · rw [e.2 j h1, upS_at, if_neg (by omega), h.2 j h1]
  · funext j
    rw [upS_at]
    by_cases z : j = k
    · rw [if_pos ⟨rfl, z⟩, if_pos z]
    · rw [if_neg (fun y => z y.2), if_neg z]
      show U 313 j = _
      rw [e13]
      show (if j = k then 0 else T 313 j) = _
      rw [if_neg z]
/-- how the most last in n days: how many, and the first way -/
def isTl (ev : LawD → Int → (Int → Int) → Int) (r : Int → Int) (n mo : Int) (c : Int → Int) : Prop := isBst (r 3) (r 4) (fun w => byW (pr r) (fr r) (lasM ev r n) w (r 3) (r 4)) mo c
theorem k292_0 : pg.1 292 0 = [.bipush 0, .istore 2, .jsr 2] := rfl
theorem a292_0 {tb : Tab} {d : Nat} {K : Out → AM → Prop} {ls st : List AV} {m : AM} : At tb d 292 K 0 ls st m = wpB tb (pg.2.1 292) (Runs tb pg d) K (At tb d 292 K) [.bipush 0, .istore 2, .jsr 2] ls st m := At.eq k292_0
theorem k292_2 : pg.1 292 2 = [.iload 2, .aload 0, .getfield 1001, .bipush 4, .iaload, .if_icmp .ge 98, .bipush 0, .istore 3, .jsr 14] := rfl
theorem a292_2 {tb : Tab} {d : Nat} {K : Out → AM → Prop} {ls st : List AV} {m : AM} : At tb d 292 K 2 ls st m = wpB tb (pg.2.1 292) (Runs tb pg d) K (At tb d 292 K) [.iload 2, .aload 0, .getfield 1001, .bipush 4, .iaload, .if_icmp .ge 98, .bipush 0, .istore 3, .jsr 14] ls st m := At.eq k292_2
theorem k292_14 : pg.1 292 14 = [.iload 3, .aload 0, .getfield 1001, .bipush 3, .iaload, .if_icmp .ge 92, .aload 0, .getfield 1026, .bipush 6, .iload 2, .imul, .iload 3, .iadd, .bipush 0, .bastore, .aload 0, .iload 3, .bipush 1, .invokeinterface 205 3, .ifCond .ne 48, .goto 86] := rfl
theorem a292_14 {tb : Tab} {d : Nat} {K : Out → AM → Prop} {ls st : List AV} {m : AM} : At tb d 292 K 14 ls st m = wpB tb (pg.2.1 292) (Runs tb pg d) K (At tb d 292 K) [.iload 3, .aload 0, .getfield 1001, .bipush 3, .iaload, .if_icmp .ge 92, .aload 0, .getfield 1026, .bipush 6, .iload 2, .imul, .iload 3, .iadd, .bipush 0, .bastore, .aload 0, .iload 3, .bipush 1, .invokeinterface 205 3, .ifCond .ne 48, .goto 86] ls st m := At.eq k292_14
theorem k292_48 : pg.1 292 48 = [.aload 0, .invokeinterface 237 1, .aload 0, .iload 2, .iload 3, .invokeinterface 254 3, .aload 0, .iload 1, .bipush 0, .invokeinterface 265 3, .istore 4, .aload 0, .getfield 1026, .bipush 6, .iload 2, .imul, .iload 3, .iadd, .aload 0, .iload 2, .invokeinterface 214 2, .bastore, .aload 0, .invokeinterface 238 1, .jsr 86] := rfl
theorem a292_48 {tb : Tab} {d : Nat} {K : Out → AM → Prop} {ls st : List AV} {m : AM} : At tb d 292 K 48 ls st m = wpB tb (pg.2.1 292) (Runs tb pg d) K (At tb d 292 K) [.aload 0, .invokeinterface 237 1, .aload 0, .iload 2, .iload 3, .invokeinterface 254 3, .aload 0, .iload 1, .bipush 0, .invokeinterface 265 3, .istore 4, .aload 0, .getfield 1026, .bipush 6, .iload 2, .imul, .iload 3, .iadd, .aload 0, .iload 2, .invokeinterface 214 2, .bastore, .aload 0, .invokeinterface 238 1, .jsr 86] ls st m := At.eq k292_48
theorem k292_86 : pg.1 292 86 = [.iinc 3 1, .goto 14] := rfl
theorem a292_86 {tb : Tab} {d : Nat} {K : Out → AM → Prop} {ls st : List AV} {m : AM} : At tb d 292 K 86 ls st m = wpB tb (pg.2.1 292) (Runs tb pg d) K (At tb d 292 K) [.iinc 3 1, .goto 14] ls st m := At.eq k292_86
theorem k292_92 : pg.1 292 92 = [.iinc 2 1, .goto 2] := rfl
theorem a292_92 {tb : Tab} {d : Nat} {K : Out → AM → Prop} {ls st : List AV} {m : AM} : At tb d 292 K 92 ls st m = wpB tb (pg.2.1 292) (Runs tb pg d) K (At tb d 292 K) [.iinc 2 1, .goto 2] ls st m := At.eq k292_92
theorem k292_98 : pg.1 292 98 = [.return_] := rfl
theorem a292_98 {tb : Tab} {d : Nat} {K : Out → AM → Prop} {ls st : List AV} {m : AM} : At tb d 292 K 98 ls st m = wpB tb (pg.2.1 292) (Runs tb pg d) K (At tb d 292 K) [.return_] ls st m := At.eq k292_98
theorem q_292 {n : Int} (hM : AskM tb ev good) (hD : AskD tb ev good) (hE : EvD ev good) (hA : AB (S 301)) (hG : good (lawD (S 301))) (hn : 0 ≤ n ∧ n ≤ 1000) (hK : ∀ T, lasT ev (S 301) n T (S 301 4) 0 → SV S T → K (.inl none) (X T m)) : Runs tb pg (d + 64) 292 [vr 300, vi n] (X S m) K := by
  have b3 := hA.2.1.1
  have b4 := hA.2.1.2.1
  have hL2 : (fun i : Int => ∀ (z3 : AV) (z4 : AV) (T : Nat → Int → Int), (SV S T) → (lasT ev (S 301) n T i 0) → At tb (d + 63) 292 K 2 [vr 300, vi n, vi i, z3, z4] [] (X T m)) 0 := by
    refine loopZ (fun i : Int => ∀ (z3 : AV) (z4 : AV) (T : Nat → Int → Int), (SV S T) → (lasT ev (S 301) n T i 0) → At tb (d + 63) 292 K 2 [vr 300, vi n, vi i, z3, z4] [] (X T m)) (S 301 4) (by omega) ?_ ?_
    · intro i h0 h1 h9 z3 z4 T hT hl
      have hTm : T 301 = S 301 := SV_m hT
      have b3 := hA.2.1.1
      have b4 := hA.2.1.2.1
      have o4 : T 301 4 = S 301 4 := by rw [hTm]
      have hL14 : (fun j : Int => ∀ (z4 : AV) (U : Nat → Int → Int), (SV S U) → (lasT ev (S 301) n U i j) → At tb (d + 63) 292 K 14 [vr 300, vi n, vi i, vi j, z4] [] (X U m)) 0 := by
        refine loopZ (fun j : Int => ∀ (z4 : AV) (U : Nat → Int → Int), (SV S U) → (lasT ev (S 301) n U i j) → At tb (d + 63) 292 K 14 [vr 300, vi n, vi i, vi j, z4] [] (X U m)) (S 301 3) (by omega) ?_ ?_
        · intro j j0 j1 h8 z4 U hU hk
          have hUm : U 301 = S 301 := SV_m hU
          obtain ⟨V, hV⟩ : ∃ V, V = upS U 313 (6 * i + j) 0 := ⟨_, rfl⟩
          have hVm : V 301 = S 301 := by rw [hV]; exact hUm
          have hB2 : BR V := AB_B (S := V) (by rw [hVm]; exact hA)
          have o2 : fR V = fr (S 301) := by unfold fR fr; rw [hVm]
          have o6 : fR V j 1 = fr (S 301) j 1 := by rw [o2]
          have sn := (hA.2.2.2.1 j j0 (by omega)).2.1
          have dd := dptR_rg hE (p := i) (f := j) hG
          have pa := hA.2.2.1 i h0 (by omega)
          have wA := wrtR_AB (ev := ev) (f := j) h0 (by omega) ⟨j0, j1⟩ dd hA
          have wL : LQ (S 301) (wrtR ev (S 301) i j) := LQ_wrt h0 (by omega) pa.1.2
          have wL2 := fun k => LQ_t wL (goN_AB (ev := ev) (w := 0) wA k).2
          have wA2 := fun k => (goN_AB (ev := ev) (w := 0) wA k).1
          have o3 : U 301 3 = S 301 3 := by rw [hUm]
          have o5 : V 301 3 = S 301 3 := by rw [hVm]
          rw [a292_14]
          repeat' (first | refine h8 _ _ ?_ ?_ | simp only [w_iconst, w_istore, w_fall, Int.reduceToNat, w_iload, w_aload, x_g1001_300, x_iald, w_ialoads, w_ialoadw, w_ifc, cI, x_g1026_300, w_imul, w_iadd, x_bast, w_call, w_if, w_goto, w_iinc, lgB, Nat.reduceSub, w_return, isA_301, isA_302, isA_303, isA_304, isA_305, isA_307, isA_308, isA_309, isA_310, isA_311, isA_312, isA_313, isA_314, isA_315, len_301, len_302, len_303, len_304, len_305, len_307, len_308, len_309, len_310, len_311, len_312, len_313, len_314, len_315, Int.cast_ofNat_Int, a292_0, a292_48, a292_86, a292_92, a292_98, R32, List.getElem?_cons_zero, List.getElem?_cons_succ, List.set_cons_zero, List.set_cons_succ, List.cons_append, List.nil_append, List.replicate_succ, List.replicate_zero, List.take_succ_cons, List.take_zero, List.drop_succ_cons, List.drop_zero, List.reverse_cons, List.reverse_nil, List.length_cons, List.length_nil, Option.toList, true_and, and_true, eq_self, ↓reduceIte, not_true_eq_false, not_false_eq_true, true_or, or_true, upS_upS, upS_at, up300, up300b, oR3, fR3, dR3, lgR3, valM3, Int.reduceEq, Nat.reduceEqDiff, and_self, and_true, and_false, false_and, if_true, if_false] | rw [← hV] | refine q_205 (S := V) hB2 ?_ ?_ (fun _ _ => ?_) | refine q_237 (S := V) ?_ | refine q_254 (S := asS V 415) hD (by show AB (V 301); rw [hVm]; exact hA) (by show good (lawD (V 301)); rw [hVm]; exact hG) ⟨h0, by omega⟩ (by show 0 ≤ j ∧ j < V 301 3; rw [hVm]; exact ⟨j0, j1⟩) (fun T1 (e1 : SR (sR (asS V 415) (wrtR ev (V 301) i j)) T1) => ?_) | refine q_265 (S := T1) hM (by rw [SR_m e1, sR_r, hVm]; exact wA) (by rw [SR_m e1, sR_r, hVm, lawD_LQ wL]; exact hG) (Or.inl rfl) hn (fun T2 x2 e2 e3 => ?_) | (have e1m : T1 301 = wrtR ev (S 301) i j := (by rw [SR_m e1, sR_r, hVm]); have e9 : SR (sR (asS (upS U 313 (6 * i + j) 0) 415) (goN ev 0 (wrtR ev (S 301) i j) n.toNat)) T2 := (by rw [← hV]; rw [e1m] at e2; exact SR_trans (SR_q e1) e2); have e2m : T2 301 = goN ev 0 (wrtR ev (S 301) i j) n.toNat := (by rw [SR_m e9, sR_r]); clear e1m e2 e3; refine q_214 (S := T2) (AB_B (by rw [e2m]; exact wA2 _)) ⟨h0, by omega⟩ (fun r7 e7 => ?_); have e8 : yn r7 (lasM ev (S 301) n i j) := (by have o4 : oR T2 = pr (goN ev 0 (wrtR ev (S 301) i j) n.toNat) := (by unfold oR pr; rw [e2m]); rw [o4] at e7; rcases e7 with e7 | e7; exact Or.inl ⟨e7.1, by omega, e7.2⟩; exact Or.inr ⟨e7.1, fun z => e7.2 z.2⟩); have e6 : r7 = 0 ∨ r7 = 1 := (by rcases e7 with e7 | e7 <;> omega)) | refine q_238 (S := upS T2 313 (6 * i + j) r7) ?_ | with_reducible refine And.intro ?_ ?_ | with_reducible intro _)
          all_goals (try (first | omega | contradiction | ((try clear hK); (try clear hK0); (try clear hB); (try clear h9); (try clear h8); (try clear h7); (try simp only [oR3, fR3, dR3, lgR3, valM3, up300, up300b] at *); (try simp only [SR_o hT, SR_f hT, SR_d hT, SR_l hT, SR_v hT, SR_m hT, SR_g hT, oR3, fR3, dR3, lgR3, valM3, up300, up300b] at *); first | done | omega | ((try simp only [o2] at *); first | done | omega | exact SV_up hU (Or.inr (by decide)) | (rw [hV]; exact SV_up hU (Or.inr (by decide))) | (rw [hV]; exact lasT_s hk (by omega) ⟨j0, j1⟩ (Or.inr ⟨rfl, fun z => absurd z.1 (by omega)⟩) rfl) | exact wA2 _ | exact hB2 | (exact lasT_s hk (by omega) ⟨j0, j1⟩ (Or.inr ⟨rfl, fun z => absurd z.1 (by omega)⟩) rfl) | exact (SV_bk hU e9 (by rw [hUm]; exact wL2 _)).1 | exact lasT_s hk (by omega) ⟨j0, j1⟩ e8 (SV_bk hU e9 (by rw [hUm]; exact wL2 _)).2 | skip))))
        · intro z4 U hU hk
          have hUm : U 301 = S 301 := SV_m hU
          have o3 : U 301 3 = S 301 3 := by rw [hUm]
          rw [a292_14]
          repeat' (first | refine h9 _ _ _ ?_ ?_ | simp only [w_iconst, w_istore, w_fall, Int.reduceToNat, w_iload, w_aload, x_g1001_300, x_iald, w_ialoads, w_ialoadw, w_ifc, cI, x_g1026_300, w_imul, w_iadd, x_bast, w_call, w_if, w_goto, w_iinc, lgB, Nat.reduceSub, w_return, isA_301, isA_302, isA_303, isA_304, isA_305, isA_307, isA_308, isA_309, isA_310, isA_311, isA_312, isA_313, isA_314, isA_315, len_301, len_302, len_303, len_304, len_305, len_307, len_308, len_309, len_310, len_311, len_312, len_313, len_314, len_315, Int.cast_ofNat_Int, a292_0, a292_48, a292_86, a292_92, a292_98, R32, List.getElem?_cons_zero, List.getElem?_cons_succ, List.set_cons_zero, List.set_cons_succ, List.cons_append, List.nil_append, List.replicate_succ, List.replicate_zero, List.take_succ_cons, List.take_zero, List.drop_succ_cons, List.drop_zero, List.reverse_cons, List.reverse_nil, List.length_cons, List.length_nil, Option.toList, true_and, and_true, eq_self, ↓reduceIte, not_true_eq_false, not_false_eq_true, true_or, or_true, upS_upS, upS_at, up300, up300b, oR3, fR3, dR3, lgR3, valM3, Int.reduceEq, Nat.reduceEqDiff, and_self, and_true, and_false, false_and, if_true, if_false] | rw [← hV] | refine q_205 (S := V) hB2 ?_ ?_ (fun _ _ => ?_) | refine q_237 (S := V) ?_ | refine q_254 (S := asS V 415) hD (by show AB (V 301); rw [hVm]; exact hA) (by show good (lawD (V 301)); rw [hVm]; exact hG) ⟨h0, by omega⟩ (by show 0 ≤ j ∧ j < V 301 3; rw [hVm]; exact ⟨j0, j1⟩) (fun T1 (e1 : SR (sR (asS V 415) (wrtR ev (V 301) i j)) T1) => ?_) | refine q_265 (S := T1) hM (by rw [SR_m e1, sR_r, hVm]; exact wA) (by rw [SR_m e1, sR_r, hVm, lawD_LQ wL]; exact hG) (Or.inl rfl) hn (fun T2 x2 e2 e3 => ?_) | (have e1m : T1 301 = wrtR ev (S 301) i j := (by rw [SR_m e1, sR_r, hVm]); have e9 : SR (sR (asS (upS U 313 (6 * i + j) 0) 415) (goN ev 0 (wrtR ev (S 301) i j) n.toNat)) T2 := (by rw [← hV]; rw [e1m] at e2; exact SR_trans (SR_q e1) e2); have e2m : T2 301 = goN ev 0 (wrtR ev (S 301) i j) n.toNat := (by rw [SR_m e9, sR_r]); clear e1m e2 e3; refine q_214 (S := T2) (AB_B (by rw [e2m]; exact wA2 _)) ⟨h0, by omega⟩ (fun r7 e7 => ?_); have e8 : yn r7 (lasM ev (S 301) n i j) := (by have o4 : oR T2 = pr (goN ev 0 (wrtR ev (S 301) i j) n.toNat) := (by unfold oR pr; rw [e2m]); rw [o4] at e7; rcases e7 with e7 | e7; exact Or.inl ⟨e7.1, by omega, e7.2⟩; exact Or.inr ⟨e7.1, fun z => e7.2 z.2⟩); have e6 : r7 = 0 ∨ r7 = 1 := (by rcases e7 with e7 | e7 <;> omega)) | refine q_238 (S := upS T2 313 (6 * i + j) r7) ?_ | with_reducible refine And.intro ?_ ?_ | with_reducible intro _)
          all_goals (try (first | omega | contradiction | ((try clear hK); (try clear hK0); (try clear hB); (try clear h9); (try clear h8); (try clear h7); (try simp only [oR3, fR3, dR3, lgR3, valM3, up300, up300b] at *); (try simp only [SR_o hT, SR_f hT, SR_d hT, SR_l hT, SR_v hT, SR_m hT, SR_g hT, oR3, fR3, dR3, lgR3, valM3, up300, up300b] at *); first | done | omega | exact hU | exact lasT_e hk | omega)))
      rw [a292_2]
      repeat' (first | refine h9 _ _ _ ?_ ?_ | refine hL14 _ _ ?_ ?_ | simp only [w_iconst, w_istore, w_fall, Int.reduceToNat, w_iload, w_aload, x_g1001_300, x_iald, w_ialoads, w_ialoadw, w_ifc, cI, x_g1026_300, w_imul, w_iadd, x_bast, w_call, w_if, w_goto, w_iinc, lgB, Nat.reduceSub, w_return, isA_301, isA_302, isA_303, isA_304, isA_305, isA_307, isA_308, isA_309, isA_310, isA_311, isA_312, isA_313, isA_314, isA_315, len_301, len_302, len_303, len_304, len_305, len_307, len_308, len_309, len_310, len_311, len_312, len_313, len_314, len_315, Int.cast_ofNat_Int, a292_0, a292_48, a292_86, a292_92, a292_98, R32, List.getElem?_cons_zero, List.getElem?_cons_succ, List.set_cons_zero, List.set_cons_succ, List.cons_append, List.nil_append, List.replicate_succ, List.replicate_zero, List.take_succ_cons, List.take_zero, List.drop_succ_cons, List.drop_zero, List.reverse_cons, List.reverse_nil, List.length_cons, List.length_nil, Option.toList, true_and, and_true, eq_self, ↓reduceIte, not_true_eq_false, not_false_eq_true, true_or, or_true, upS_upS, upS_at, up300, up300b, oR3, fR3, dR3, lgR3, valM3, Int.reduceEq, Nat.reduceEqDiff, and_self, and_true, and_false, false_and, if_true, if_false] | with_reducible refine And.intro ?_ ?_ | with_reducible intro _)
      all_goals (try (first | omega | contradiction | ((try clear hK); (try clear hK0); (try clear hB); (try clear h9); (try clear h8); (try clear h7); (try simp only [oR3, fR3, dR3, lgR3, valM3, up300, up300b] at *); (try simp only [SR_o hT, SR_f hT, SR_d hT, SR_l hT, SR_v hT, SR_m hT, SR_g hT, oR3, fR3, dR3, lgR3, valM3, up300, up300b] at *); first | done | omega | exact hT | exact hl | omega)))
    · intro z3 z4 T hT hl
      have hTm : T 301 = S 301 := SV_m hT
      have b3 := hA.2.1.1
      have b4 := hA.2.1.2.1
      have o4 : T 301 4 = S 301 4 := by rw [hTm]
      rw [a292_2]
      repeat' (first | refine hK _ hl hT | simp only [w_iconst, w_istore, w_fall, Int.reduceToNat, w_iload, w_aload, x_g1001_300, x_iald, w_ialoads, w_ialoadw, w_ifc, cI, x_g1026_300, w_imul, w_iadd, x_bast, w_call, w_if, w_goto, w_iinc, lgB, Nat.reduceSub, w_return, isA_301, isA_302, isA_303, isA_304, isA_305, isA_307, isA_308, isA_309, isA_310, isA_311, isA_312, isA_313, isA_314, isA_315, len_301, len_302, len_303, len_304, len_305, len_307, len_308, len_309, len_310, len_311, len_312, len_313, len_314, len_315, Int.cast_ofNat_Int, a292_0, a292_48, a292_86, a292_92, a292_98, R32, List.getElem?_cons_zero, List.getElem?_cons_succ, List.set_cons_zero, List.set_cons_succ, List.cons_append, List.nil_append, List.replicate_succ, List.replicate_zero, List.take_succ_cons, List.take_zero, List.drop_succ_cons, List.drop_zero, List.reverse_cons, List.reverse_nil, List.length_cons, List.length_nil, Option.toList, true_and, and_true, eq_self, ↓reduceIte, not_true_eq_false, not_false_eq_true, true_or, or_true, upS_upS, upS_at, up300, up300b, oR3, fR3, dR3, lgR3, valM3, Int.reduceEq, Nat.reduceEqDiff, and_self, and_true, and_false, false_and, if_true, if_false] | with_reducible refine And.intro ?_ ?_ | with_reducible intro _)
      all_goals (try (first | omega | contradiction | ((try clear hK); (try clear hK0); (try clear hB); (try clear h9); (try clear h8); (try clear h7); (try simp only [oR3, fR3, dR3, lgR3, valM3, up300, up300b] at *); (try simp only [SR_o hT, SR_f hT, SR_d hT, SR_l hT, SR_v hT, SR_m hT, SR_g hT, oR3, fR3, dR3, lgR3, valM3, up300, up300b] at *); first | done | omega | grind)))
  refine Runs.of (al := [vr 300, vi n]) (n := 3) ⟨300, _, _, rfl, xo_300⟩ rfl rfl trivial ?_
  repeat' (first | refine hL2 _ _ _ ?_ ?_ | simp only [w_iconst, w_istore, w_fall, Int.reduceToNat, w_iload, w_aload, x_g1001_300, x_iald, w_ialoads, w_ialoadw, w_ifc, cI, x_g1026_300, w_imul, w_iadd, x_bast, w_call, w_if, w_goto, w_iinc, lgB, Nat.reduceSub, w_return, isA_301, isA_302, isA_303, isA_304, isA_305, isA_307, isA_308, isA_309, isA_310, isA_311, isA_312, isA_313, isA_314, isA_315, len_301, len_302, len_303, len_304, len_305, len_307, len_308, len_309, len_310, len_311, len_312, len_313, len_314, len_315, Int.cast_ofNat_Int, a292_0, a292_48, a292_86, a292_92, a292_98, R32, List.getElem?_cons_zero, List.getElem?_cons_succ, List.set_cons_zero, List.set_cons_succ, List.cons_append, List.nil_append, List.replicate_succ, List.replicate_zero, List.take_succ_cons, List.take_zero, List.drop_succ_cons, List.drop_zero, List.reverse_cons, List.reverse_nil, List.length_cons, List.length_nil, Option.toList, true_and, and_true, eq_self, ↓reduceIte, not_true_eq_false, not_false_eq_true, true_or, or_true, upS_upS, upS_at, up300, up300b, oR3, fR3, dR3, lgR3, valM3, Int.reduceEq, Nat.reduceEqDiff, and_self, and_true, and_false, false_and, if_true, if_false] | with_reducible refine And.intro ?_ ?_ | with_reducible intro _)
  all_goals (try (first | omega | contradiction | ((try clear hK); (try clear hK0); (try clear hB); (try clear h9); (try clear h8); (try clear h7); (try simp only [oR3, fR3, dR3, lgR3, valM3, up300, up300b] at *); (try simp only [SR_o hT, SR_f hT, SR_d hT, SR_l hT, SR_v hT, SR_m hT, SR_g hT, oR3, fR3, dR3, lgR3, valM3, up300, up300b] at *); first | done | omega | exact lasT_0 | exact SV_refl)))
theorem k295_0 : pg.1 295 0 = [.aload 0, .iload 1, .invokeinterface 292 2, .bipush 0, .istore 2, .jsr 7] := rfl
theorem a295_0 {tb : Tab} {d : Nat} {K : Out → AM → Prop} {ls st : List AV} {m : AM} : At tb d 295 K 0 ls st m = wpB tb (pg.2.1 295) (Runs tb pg d) K (At tb d 295 K) [.aload 0, .iload 1, .invokeinterface 292 2, .bipush 0, .istore 2, .jsr 7] ls st m := At.eq k295_0
theorem k295_7 : pg.1 295 7 = [.iload 2, .bipush 6, .if_icmp .ge 26, .aload 0, .getfield 1027, .iload 2, .bipush 0, .iastore, .iinc 2 1, .goto 7] := rfl
theorem a295_7 {tb : Tab} {d : Nat} {K : Out → AM → Prop} {ls st : List AV} {m : AM} : At tb d 295 K 7 ls st m = wpB tb (pg.2.1 295) (Runs tb pg d) K (At tb d 295 K) [.iload 2, .bipush 6, .if_icmp .ge 26, .aload 0, .getfield 1027, .iload 2, .bipush 0, .iastore, .iinc 2 1, .goto 7] ls st m := At.eq k295_7
theorem k295_26 : pg.1 295 26 = [.bipush (-1), .istore 2, .bipush 1, .istore 3, .jsr 30] := rfl
theorem a295_26 {tb : Tab} {d : Nat} {K : Out → AM → Prop} {ls st : List AV} {m : AM} : At tb d 295 K 26 ls st m = wpB tb (pg.2.1 295) (Runs tb pg d) K (At tb d 295 K) [.bipush (-1), .istore 2, .bipush 1, .istore 3, .jsr 30] ls st m := At.eq k295_26
theorem k295_30 : pg.1 295 30 = [.iload 3, .ifCond .eq 87, .aload 0, .invokeinterface 293 1, .istore 4, .iload 4, .iload 2, .if_icmp .le 79, .iload 4, .istore 2, .bipush 0, .istore 5, .jsr 52] := rfl
theorem a295_30 {tb : Tab} {d : Nat} {K : Out → AM → Prop} {ls st : List AV} {m : AM} : At tb d 295 K 30 ls st m = wpB tb (pg.2.1 295) (Runs tb pg d) K (At tb d 295 K) [.iload 3, .ifCond .eq 87, .aload 0, .invokeinterface 293 1, .istore 4, .iload 4, .iload 2, .if_icmp .le 79, .iload 4, .istore 2, .bipush 0, .istore 5, .jsr 52] ls st m := At.eq k295_30
theorem k295_52 : pg.1 295 52 = [.iload 5, .bipush 6, .if_icmp .ge 79, .aload 0, .getfield 1028, .iload 5, .aload 0, .getfield 1027, .iload 5, .iaload, .iastore, .iinc 5 1, .goto 52] := rfl
theorem a295_52 {tb : Tab} {d : Nat} {K : Out → AM → Prop} {ls st : List AV} {m : AM} : At tb d 295 K 52 ls st m = wpB tb (pg.2.1 295) (Runs tb pg d) K (At tb d 295 K) [.iload 5, .bipush 6, .if_icmp .ge 79, .aload 0, .getfield 1028, .iload 5, .aload 0, .getfield 1027, .iload 5, .iaload, .iastore, .iinc 5 1, .goto 52] ls st m := At.eq k295_52
theorem k295_79 : pg.1 295 79 = [.aload 0, .invokeinterface 294 1, .istore 3, .goto 30] := rfl
theorem a295_79 {tb : Tab} {d : Nat} {K : Out → AM → Prop} {ls st : List AV} {m : AM} : At tb d 295 K 79 ls st m = wpB tb (pg.2.1 295) (Runs tb pg d) K (At tb d 295 K) [.aload 0, .invokeinterface 294 1, .istore 3, .goto 30] ls st m := At.eq k295_79
theorem k295_87 : pg.1 295 87 = [.iload 2, .ireturn] := rfl
theorem a295_87 {tb : Tab} {d : Nat} {K : Out → AM → Prop} {ls st : List AV} {m : AM} : At tb d 295 K 87 ls st m = wpB tb (pg.2.1 295) (Runs tb pg d) K (At tb d 295 K) [.iload 2, .ireturn] ls st m := At.eq k295_87
theorem q_295 {n : Int} (hM : AskM tb ev good) (hD : AskD tb ev good) (hE : EvD ev good) (hA : AB (S 301)) (hG : good (lawD (S 301))) (hn : 0 ≤ n ∧ n ≤ 1000) (hK : ∀ T mo, isTl ev (S 301) n mo (T 315) → SV S T → -1 ≤ mo → mo ≤ 36 → K (.inl (some (vi mo))) (X T m)) : Runs tb pg (d + 65) 295 [vr 300, vi n] (X S m) K := by
  have b3 := hA.2.1.1
  have b4 := hA.2.1.2.1
  have hL : ∀ T0, SV S T0 → lasT ev (S 301) n T0 (S 301 4) 0 → ∀ z3 z4 z5 : AV, At tb (d + 64) 295 K 7 [vr 300, vi n, vi 0, z3, z4, z5] [] (X T0 m) := by
    intro T0 hT0 hl z3 z4 z5
    obtain ⟨by_, hby⟩ : ∃ by_ : (Int → Int) → Int, by_ = fun w => byW (oR S) (fR S) (fun p f => T0 313 (6 * p + f) ≠ 0) w (S 301 3) (S 301 4) := ⟨_, rfl⟩
    have hcg : ∀ w e : Int → Int, (∀ k, 0 ≤ k → k < S 301 4 → w k = e k) → by_ w = by_ e := fun w e h => by
      rw [hby]; exact byW_congr h (fun p f _ _ _ _ => Iff.rfl)
    have hrm : ∀ f, 0 ≤ f → f < S 301 3 → 0 ≤ roomM (fR S) f := fun f f0 f1 => by
      have g2 : 0 ≤ fR S f 2 ∧ fR S f 2 ≤ 20 := (hA.2.2.2.1 f f0 (by omega)).2.2
      unfold roomM; split <;> omega
    have hall : 0 ≤ by_ (fun _ => S 301 3) := by rw [hby]; exact byW_all b3.1 b4 hrm
    have hend : ∀ mo c, isBst (S 301 3) (S 301 4) by_ mo c → isTl ev (S 301) n mo c := by
      intro mo c h
      have e : by_ = fun w => byW (pr (S 301)) (fr (S 301)) (lasM ev (S 301) n) w (S 301 3) (S 301 4) := by
        rw [hby]; funext w
        exact byW_congr (fun _ _ _ => rfl) (fun p f p0 p1 f0 f1 => by
          have y := hl p f p0 p1 f0 f1 (by omega)
          rcases y with y | y
          · exact ⟨fun _ => y.2, fun _ => by show T0 313 _ ≠ 0; omega⟩
          · exact ⟨fun z => absurd y.1 z, fun z => absurd z y.2⟩)
      rw [e] at h
      exact h
    have h01 : ∀ p f, 0 ≤ p → p < S 301 4 → 0 ≤ f → f < S 301 3 → T0 313 (6 * p + f) = 0 ∨ T0 313 (6 * p + f) = 1 := fun p f p0 p1 f0 f1 => by
      have y := hl p f p0 p1 f0 f1 (by omega)
      rcases y with y | y <;> omega
    clear hl
    have hL30 : (fun i : Int => ∀ (z4 : AV) (z5 : AV) (T : Nat → Int → Int) (bo : Int) (fl : Int), (SV S T) → (-1 ≤ bo ∧ bo ≤ 36) → ((i < pwZ (S 301 3) (S 301 4) → fl = 1 ∧ nrZ (S 301 3) (S 301 4) (T 314) = i) ∧ (i = pwZ (S 301 3) (S 301 4) → fl = 0)) → (T 313 = T0 313) → (okW (S 301 3) (T 314)) → (bstW (S 301 3) (S 301 4) by_ i bo (T 315)) → At tb (d + 64) 295 K 30 [vr 300, vi n, vi bo, vi fl, z4, z5] [] (X T m)) 0 := by
      refine loopZ (fun i : Int => ∀ (z4 : AV) (z5 : AV) (T : Nat → Int → Int) (bo : Int) (fl : Int), (SV S T) → (-1 ≤ bo ∧ bo ≤ 36) → ((i < pwZ (S 301 3) (S 301 4) → fl = 1 ∧ nrZ (S 301 3) (S 301 4) (T 314) = i) ∧ (i = pwZ (S 301 3) (S 301 4) → fl = 0)) → (T 313 = T0 313) → (okW (S 301 3) (T 314)) → (bstW (S 301 3) (S 301 4) by_ i bo (T 315)) → At tb (d + 64) 295 K 30 [vr 300, vi n, vi bo, vi fl, z4, z5] [] (X T m)) (pwZ (S 301 3) (S 301 4)) (by have o : okW (S 301 3) (fun _ => S 301 3) := (fun k _ _ => ⟨b3.1, Int.le_refl _⟩); have := nrZ_rg b3.1 b4 o; omega) ?_ ?_
      · intro i h0 h1 h9 z4 z5 T bo fl hT hbo hfl ht13 hok hbs
        have hTm : T 301 = S 301 := SV_m hT
        have hA2 : AB (T 301) := by rw [hTm]; exact hA
        have eo : oR T = oR S := by unfold oR; rw [hTm]
        have ef : fR T = fR S := by unfold fR; rw [hTm]
        have hm1 := hfl.1 h1
        have hmr9 := hm1.1
        subst hmr9
        have h79 : ∀ U mo2 y4 y5, SV S U → U 313 = T0 313 → U 314 = T 314 → bstW (S 301 3) (S 301 4) by_ (i + 1) mo2 (U 315) → -1 ≤ mo2 → mo2 ≤ 36 → At tb (d + 64) 295 K 79 [vr 300, vi n, vi mo2, vi 1, y4, y5] [] (X U m) := by
          intro U mo2 y4 y5 hU hu13 hu14 hbu hm3 hm4
          have hUm : U 301 = S 301 := SV_m hU
          rw [a295_79]
          repeat' (first | refine h9 _ _ V2 _ _ ?_ ?_ ?_ ?_ ?_ ?_ | simp only [w_aload, w_iload, w_call, w_iconst, w_istore, w_fall, Int.reduceToNat, w_ifc, cI, x_g1027_300, x_iast, w_iinc, lgB, Nat.reduceSub, w_goto, w_if, x_g1028_300, x_iald, w_ialoads, w_ialoadw, w_ireturn, isA_301, isA_302, isA_303, isA_304, isA_305, isA_307, isA_308, isA_309, isA_310, isA_311, isA_312, isA_313, isA_314, isA_315, len_301, len_302, len_303, len_304, len_305, len_307, len_308, len_309, len_310, len_311, len_312, len_313, len_314, len_315, Int.cast_ofNat_Int, a295_0, a295_26, a295_87, R32, List.getElem?_cons_zero, List.getElem?_cons_succ, List.set_cons_zero, List.set_cons_succ, List.cons_append, List.nil_append, List.replicate_succ, List.replicate_zero, List.take_succ_cons, List.take_zero, List.drop_succ_cons, List.drop_zero, List.reverse_cons, List.reverse_nil, List.length_cons, List.length_nil, Option.toList, true_and, and_true, eq_self, ↓reduceIte, not_true_eq_false, not_false_eq_true, true_or, or_true, upS_upS, upS_at, up300, up300b, oR3, fR3, dR3, lgR3, valM3, Int.reduceEq, Nat.reduceEqDiff, and_self, and_true, and_false, false_and, if_true, if_false] | refine q_294 (S := U) (by rw [hUm]; exact hA) (by rw [hUm, hu14]; exact hok) (fun V2 x9 hx => ?_) | refine q_293 (S := T) hA2 (by rw [hTm]; exact hok) (by rw [hTm, ht13]; exact h01) (fun r7 e3 e4 e5 => ?_) | with_reducible refine And.intro ?_ ?_ | with_reducible intro _)
          all_goals (try (first | omega | contradiction | ((try clear hK); (try clear hK0); (try clear hB); (try clear h9); (try clear h8); (try clear h7); (try simp only [oR3, fR3, dR3, lgR3, valM3, up300, up300b] at *); (try simp only [SR_o hT, SR_f hT, SR_d hT, SR_l hT, SR_v hT, SR_m hT, SR_g hT, oR3, fR3, dR3, lgR3, valM3, up300, up300b] at *); first | done | omega | (have n1 : nrZ (S 301 3) (S 301 4) (U 314) = i := (by rw [hu14]; exact hm1.2); unfold nwR at hx; rw [hUm] at hx; rcases hx with ⟨x1, p, x2, x3, x4, x5⟩ | ⟨x1, x2, x3⟩; all_goals first | (have n2 := nxT_nr x2 (by omega) x4 x5; have o2 : okW (S 301 3) (V2 314) := (fun k k0 k1 => (by rw [x5.2 k]; have o3 := hok k k0 k1; rw [← hu14] at o3; by_cases z : p < k ∧ k < S 301 4; rw [if_pos z]; omega; rw [if_neg z]; by_cases z2 : k = p; rw [if_pos z2]; subst z2; omega; rw [if_neg z2]; exact o3)); have n3 := nrZ_rg b3.1 b4 o2; first | omega | exact SV_t hU (nxT_SV x5) | (rw [x5.1 313 (by decide)]; exact hu13) | exact o2 | (rw [x5.1 315 (by decide)]; exact hbu) | exact ⟨by omega, by omega⟩ | exact ⟨fun _ => ⟨x1, by omega⟩, fun _ => by omega⟩) | (have n2 : nrZ (S 301 3) (S 301 4) (U 314) + 1 = pwZ (S 301 3) (S 301 4) := nrN_all _ (fun k k0 k1 => x2 k (by omega) (by omega)); have o2 : okW (S 301 3) (V2 314) := (fun k k0 k1 => (by rw [x3.2 k]; have o3 := hok k k0 k1; rw [← hu14] at o3; by_cases z : -1 < k ∧ k < S 301 4; rw [if_pos z]; omega; rw [if_neg z]; exact o3)); first | omega | exact SV_t hU (zrT_SV x3) | (rw [x3.1 313 (by decide)]; exact hu13) | exact o2 | (rw [x3.1 315 (by decide)]; exact hbu) | exact ⟨by omega, by omega⟩ | exact ⟨fun _ => ⟨by omega, by omega⟩, fun _ => x1⟩)) | skip)))
        have h52 : ∀ y, y = by_ (T 314) → bo < y → y ≤ 36 → At tb (d + 64) 295 K 52 [vr 300, vi n, vi y, vi 1, vi y, vi 0] [] (X T m) := by
          intro y hy hy2 hy3
          have hL52 : (fun j : Int => ∀ (U : Nat → Int → Int), (SV S U) → (U 313 = T0 313) → (U 314 = T 314) → (cpB (U 315) (T 314) j) → At tb (d + 64) 295 K 52 [vr 300, vi n, vi y, vi 1, vi y, vi j] [] (X U m)) 0 := by
            refine loopZ (fun j : Int => ∀ (U : Nat → Int → Int), (SV S U) → (U 313 = T0 313) → (U 314 = T 314) → (cpB (U 315) (T 314) j) → At tb (d + 64) 295 K 52 [vr 300, vi n, vi y, vi 1, vi y, vi j] [] (X U m)) (6) (by omega) ?_ ?_
            · intro j j0 j1 h8 U hU hu13 hu14 huc
              rw [a295_52]
              repeat' (first | refine h8 _ ?_ ?_ ?_ ?_ | simp only [w_aload, w_iload, w_call, w_iconst, w_istore, w_fall, Int.reduceToNat, w_ifc, cI, x_g1027_300, x_iast, w_iinc, lgB, Nat.reduceSub, w_goto, w_if, x_g1028_300, x_iald, w_ialoads, w_ialoadw, w_ireturn, isA_301, isA_302, isA_303, isA_304, isA_305, isA_307, isA_308, isA_309, isA_310, isA_311, isA_312, isA_313, isA_314, isA_315, len_301, len_302, len_303, len_304, len_305, len_307, len_308, len_309, len_310, len_311, len_312, len_313, len_314, len_315, Int.cast_ofNat_Int, a295_0, a295_26, a295_87, R32, List.getElem?_cons_zero, List.getElem?_cons_succ, List.set_cons_zero, List.set_cons_succ, List.cons_append, List.nil_append, List.replicate_succ, List.replicate_zero, List.take_succ_cons, List.take_zero, List.drop_succ_cons, List.drop_zero, List.reverse_cons, List.reverse_nil, List.length_cons, List.length_nil, Option.toList, true_and, and_true, eq_self, ↓reduceIte, not_true_eq_false, not_false_eq_true, true_or, or_true, upS_upS, upS_at, up300, up300b, oR3, fR3, dR3, lgR3, valM3, Int.reduceEq, Nat.reduceEqDiff, and_self, and_true, and_false, false_and, if_true, if_false] | refine q_293 (S := T) hA2 (by rw [hTm]; exact hok) (by rw [hTm, ht13]; exact h01) (fun r7 e3 e4 e5 => ?_) | with_reducible refine And.intro ?_ ?_ | with_reducible intro _)
              all_goals (try (first | omega | contradiction | ((try clear hK); (try clear hK0); (try clear hB); (try clear h9); (try clear h8); (try clear h7); (try simp only [oR3, fR3, dR3, lgR3, valM3, up300, up300b] at *); (try simp only [SR_o hT, SR_f hT, SR_d hT, SR_l hT, SR_v hT, SR_m hT, SR_g hT, oR3, fR3, dR3, lgR3, valM3, up300, up300b] at *); first | done | omega | exact SV_up hU (Or.inr (by decide)) | exact hu13 | exact hu14 | (rw [hu14]; exact cpB_s huc) | omega)))
            · intro U hU hu13 hu14 huc
              rw [a295_52]
              repeat' (first | refine h79 _ _ _ _ hU hu13 hu14 ?_ ?_ ?_ | simp only [w_aload, w_iload, w_call, w_iconst, w_istore, w_fall, Int.reduceToNat, w_ifc, cI, x_g1027_300, x_iast, w_iinc, lgB, Nat.reduceSub, w_goto, w_if, x_g1028_300, x_iald, w_ialoads, w_ialoadw, w_ireturn, isA_301, isA_302, isA_303, isA_304, isA_305, isA_307, isA_308, isA_309, isA_310, isA_311, isA_312, isA_313, isA_314, isA_315, len_301, len_302, len_303, len_304, len_305, len_307, len_308, len_309, len_310, len_311, len_312, len_313, len_314, len_315, Int.cast_ofNat_Int, a295_0, a295_26, a295_87, R32, List.getElem?_cons_zero, List.getElem?_cons_succ, List.set_cons_zero, List.set_cons_succ, List.cons_append, List.nil_append, List.replicate_succ, List.replicate_zero, List.take_succ_cons, List.take_zero, List.drop_succ_cons, List.drop_zero, List.reverse_cons, List.reverse_nil, List.length_cons, List.length_nil, Option.toList, true_and, and_true, eq_self, ↓reduceIte, not_true_eq_false, not_false_eq_true, true_or, or_true, upS_upS, upS_at, up300, up300b, oR3, fR3, dR3, lgR3, valM3, Int.reduceEq, Nat.reduceEqDiff, and_self, and_true, and_false, false_and, if_true, if_false] | refine q_293 (S := T) hA2 (by rw [hTm]; exact hok) (by rw [hTm, ht13]; exact h01) (fun r7 e3 e4 e5 => ?_) | with_reducible refine And.intro ?_ ?_ | with_reducible intro _)
              all_goals (try (first | omega | contradiction | ((try clear hK); (try clear hK0); (try clear hB); (try clear h9); (try clear h8); (try clear h7); (try simp only [oR3, fR3, dR3, lgR3, valM3, up300, up300b] at *); (try simp only [SR_o hT, SR_f hT, SR_d hT, SR_l hT, SR_v hT, SR_m hT, SR_g hT, oR3, fR3, dR3, lgR3, valM3, up300, up300b] at *); first | done | omega | (exact bstW_s b3.1 b4 hcg hbs hok hm1.2 hy (Or.inl ⟨hy2, rfl, huc⟩)) | omega)))
          exact hL52 _ hT ht13 rfl cpB_0
        rw [a295_30]
        repeat' (first | refine h9 _ _ _ _ _ ?_ ?_ ?_ ?_ ?_ ?_ | refine h79 _ _ _ _ hT ht13 rfl ?_ ?_ ?_ | refine h52 _ ?_ ?_ ?_ | simp only [w_aload, w_iload, w_call, w_iconst, w_istore, w_fall, Int.reduceToNat, w_ifc, cI, x_g1027_300, x_iast, w_iinc, lgB, Nat.reduceSub, w_goto, w_if, x_g1028_300, x_iald, w_ialoads, w_ialoadw, w_ireturn, isA_301, isA_302, isA_303, isA_304, isA_305, isA_307, isA_308, isA_309, isA_310, isA_311, isA_312, isA_313, isA_314, isA_315, len_301, len_302, len_303, len_304, len_305, len_307, len_308, len_309, len_310, len_311, len_312, len_313, len_314, len_315, Int.cast_ofNat_Int, a295_0, a295_26, a295_87, R32, List.getElem?_cons_zero, List.getElem?_cons_succ, List.set_cons_zero, List.set_cons_succ, List.cons_append, List.nil_append, List.replicate_succ, List.replicate_zero, List.take_succ_cons, List.take_zero, List.drop_succ_cons, List.drop_zero, List.reverse_cons, List.reverse_nil, List.length_cons, List.length_nil, Option.toList, true_and, and_true, eq_self, ↓reduceIte, not_true_eq_false, not_false_eq_true, true_or, or_true, upS_upS, upS_at, up300, up300b, oR3, fR3, dR3, lgR3, valM3, Int.reduceEq, Nat.reduceEqDiff, and_self, and_true, and_false, false_and, if_true, if_false] | refine q_293 (S := T) hA2 (by rw [hTm]; exact hok) (by rw [hTm, ht13]; exact h01) (fun r7 e3 e4 e5 => ?_) | with_reducible refine And.intro ?_ ?_ | with_reducible intro _)
        all_goals (try (first | omega | contradiction | ((try clear hK); (try clear hK0); (try clear hB); (try clear h9); (try clear h8); (try clear h7); (try simp only [oR3, fR3, dR3, lgR3, valM3, up300, up300b] at *); (try simp only [SR_o hT, SR_f hT, SR_d hT, SR_l hT, SR_v hT, SR_m hT, SR_g hT, oR3, fR3, dR3, lgR3, valM3, up300, up300b] at *); first | done | omega | (have y1 : r7 = by_ (T 314) := (by rw [e3, hby, eo, ef, ht13, hTm]); first | exact y1 | omega | exact bstW_s b3.1 b4 hcg hbs hok hm1.2 y1 (Or.inr ⟨by omega, rfl, rfl⟩)) | omega)))
      · intro z4 z5 T bo fl hT hbo hfl ht13 hok hbs
        have hmr9 := hfl.2 rfl
        subst hmr9
        rw [a295_30]
        repeat' (first | refine hK _ _ ?_ hT hbo.1 hbo.2 | simp only [w_aload, w_iload, w_call, w_iconst, w_istore, w_fall, Int.reduceToNat, w_ifc, cI, x_g1027_300, x_iast, w_iinc, lgB, Nat.reduceSub, w_goto, w_if, x_g1028_300, x_iald, w_ialoads, w_ialoadw, w_ireturn, isA_301, isA_302, isA_303, isA_304, isA_305, isA_307, isA_308, isA_309, isA_310, isA_311, isA_312, isA_313, isA_314, isA_315, len_301, len_302, len_303, len_304, len_305, len_307, len_308, len_309, len_310, len_311, len_312, len_313, len_314, len_315, Int.cast_ofNat_Int, a295_0, a295_26, a295_87, R32, List.getElem?_cons_zero, List.getElem?_cons_succ, List.set_cons_zero, List.set_cons_succ, List.cons_append, List.nil_append, List.replicate_succ, List.replicate_zero, List.take_succ_cons, List.take_zero, List.drop_succ_cons, List.drop_zero, List.reverse_cons, List.reverse_nil, List.length_cons, List.length_nil, Option.toList, true_and, and_true, eq_self, ↓reduceIte, not_true_eq_false, not_false_eq_true, true_or, or_true, upS_upS, upS_at, up300, up300b, oR3, fR3, dR3, lgR3, valM3, Int.reduceEq, Nat.reduceEqDiff, and_self, and_true, and_false, false_and, if_true, if_false] | refine q_293 (S := T) hA2 (by rw [hTm]; exact hok) (by rw [hTm, ht13]; exact h01) (fun r7 e3 e4 e5 => ?_) | with_reducible refine And.intro ?_ ?_ | with_reducible intro _)
        all_goals (try (first | omega | contradiction | ((try clear hK); (try clear hK0); (try clear hB); (try clear h9); (try clear h8); (try clear h7); (try simp only [oR3, fR3, dR3, lgR3, valM3, up300, up300b] at *); (try simp only [SR_o hT, SR_f hT, SR_d hT, SR_l hT, SR_v hT, SR_m hT, SR_g hT, oR3, fR3, dR3, lgR3, valM3, up300, up300b] at *); first | done | omega | exact hend _ _ (bstW_e b3.1 b4 hbs hall))))
    have hL7 : (fun i : Int => ∀ (T : Nat → Int → Int), (SV S T) → (T 313 = T0 313) → (zrB T 314 i) → At tb (d + 64) 295 K 7 [vr 300, vi n, vi i, z3, z4, z5] [] (X T m)) 0 := by
      refine loopZ (fun i : Int => ∀ (T : Nat → Int → Int), (SV S T) → (T 313 = T0 313) → (zrB T 314 i) → At tb (d + 64) 295 K 7 [vr 300, vi n, vi i, z3, z4, z5] [] (X T m)) (6) (by omega) ?_ ?_
      · intro i h0 h1 h9 T hT ht13 hz
        rw [a295_7]
        repeat' (first | refine h9 _ ?_ ?_ ?_ | simp only [w_aload, w_iload, w_call, w_iconst, w_istore, w_fall, Int.reduceToNat, w_ifc, cI, x_g1027_300, x_iast, w_iinc, lgB, Nat.reduceSub, w_goto, w_if, x_g1028_300, x_iald, w_ialoads, w_ialoadw, w_ireturn, isA_301, isA_302, isA_303, isA_304, isA_305, isA_307, isA_308, isA_309, isA_310, isA_311, isA_312, isA_313, isA_314, isA_315, len_301, len_302, len_303, len_304, len_305, len_307, len_308, len_309, len_310, len_311, len_312, len_313, len_314, len_315, Int.cast_ofNat_Int, a295_0, a295_26, a295_79, a295_87, R32, List.getElem?_cons_zero, List.getElem?_cons_succ, List.set_cons_zero, List.set_cons_succ, List.cons_append, List.nil_append, List.replicate_succ, List.replicate_zero, List.take_succ_cons, List.take_zero, List.drop_succ_cons, List.drop_zero, List.reverse_cons, List.reverse_nil, List.length_cons, List.length_nil, Option.toList, true_and, and_true, eq_self, ↓reduceIte, not_true_eq_false, not_false_eq_true, true_or, or_true, upS_upS, upS_at, up300, up300b, oR3, fR3, dR3, lgR3, valM3, Int.reduceEq, Nat.reduceEqDiff, and_self, and_true, and_false, false_and, if_true, if_false] | with_reducible refine And.intro ?_ ?_ | with_reducible intro _)
        all_goals (try (first | omega | contradiction | ((try clear hK); (try clear hK0); (try clear hB); (try clear h9); (try clear h8); (try clear h7); (try simp only [oR3, fR3, dR3, lgR3, valM3, up300, up300b] at *); (try simp only [SR_o hT, SR_f hT, SR_d hT, SR_l hT, SR_v hT, SR_m hT, SR_g hT, oR3, fR3, dR3, lgR3, valM3, up300, up300b] at *); first | done | omega | exact SV_up hT (Or.inr (by decide)) | exact ht13 | exact zrB_s hz | omega)))
      · intro T hT ht13 hz
        rw [a295_7]
        repeat' (first | refine hL30 _ _ _ _ _ hT ?_ ?_ ht13 ?_ ?_ | simp only [w_aload, w_iload, w_call, w_iconst, w_istore, w_fall, Int.reduceToNat, w_ifc, cI, x_g1027_300, x_iast, w_iinc, lgB, Nat.reduceSub, w_goto, w_if, x_g1028_300, x_iald, w_ialoads, w_ialoadw, w_ireturn, isA_301, isA_302, isA_303, isA_304, isA_305, isA_307, isA_308, isA_309, isA_310, isA_311, isA_312, isA_313, isA_314, isA_315, len_301, len_302, len_303, len_304, len_305, len_307, len_308, len_309, len_310, len_311, len_312, len_313, len_314, len_315, Int.cast_ofNat_Int, a295_0, a295_26, a295_79, a295_87, R32, List.getElem?_cons_zero, List.getElem?_cons_succ, List.set_cons_zero, List.set_cons_succ, List.cons_append, List.nil_append, List.replicate_succ, List.replicate_zero, List.take_succ_cons, List.take_zero, List.drop_succ_cons, List.drop_zero, List.reverse_cons, List.reverse_nil, List.length_cons, List.length_nil, Option.toList, true_and, and_true, eq_self, ↓reduceIte, not_true_eq_false, not_false_eq_true, true_or, or_true, upS_upS, upS_at, up300, up300b, oR3, fR3, dR3, lgR3, valM3, Int.reduceEq, Nat.reduceEqDiff, and_self, and_true, and_false, false_and, if_true, if_false] | with_reducible refine And.intro ?_ ?_ | with_reducible intro _)
        all_goals (try (first | omega | contradiction | ((try clear hK); (try clear hK0); (try clear hB); (try clear h9); (try clear h8); (try clear h7); (try simp only [oR3, fR3, dR3, lgR3, valM3, up300, up300b] at *); (try simp only [SR_o hT, SR_f hT, SR_d hT, SR_l hT, SR_v hT, SR_m hT, SR_g hT, oR3, fR3, dR3, lgR3, valM3, up300, up300b] at *); first | done | omega | (have e0 : nrZ (S 301 3) (S 301 4) (T 314) = 0 := (by rw [show nrZ (S 301 3) (S 301 4) (T 314) = nrN (S 301 3) (fun _ => 0) (S 301 4).toNat from nrN_congr _ (fun k k0 k1 => hz k k0 (by omega))]; exact nrN_0 _); have o : okW (S 301 3) (fun _ => S 301 3) := (fun k _ _ => ⟨b3.1, Int.le_refl _⟩); have := nrZ_rg b3.1 b4 o; first | omega | exact ⟨fun _ => ⟨rfl, e0⟩, fun z => by omega⟩) | (exact fun k k0 k1 => by rw [hz k k0 k1]; exact ⟨Int.le_refl _, b3.1⟩) | exact bstW_0 b3.1 b4 | exact ⟨by omega, by omega⟩)))
    exact hL7 _ hT0 rfl zrB_0
  refine Runs.of (al := [vr 300, vi n]) (n := 4) ⟨300, _, _, rfl, xo_300⟩ rfl rfl trivial ?_
  repeat' (first | refine hL _ hT0 hl _ _ _ | simp only [w_aload, w_iload, w_call, w_iconst, w_istore, w_fall, Int.reduceToNat, w_ifc, cI, x_g1027_300, x_iast, w_iinc, lgB, Nat.reduceSub, w_goto, w_if, x_g1028_300, x_iald, w_ialoads, w_ialoadw, w_ireturn, isA_301, isA_302, isA_303, isA_304, isA_305, isA_307, isA_308, isA_309, isA_310, isA_311, isA_312, isA_313, isA_314, isA_315, len_301, len_302, len_303, len_304, len_305, len_307, len_308, len_309, len_310, len_311, len_312, len_313, len_314, len_315, Int.cast_ofNat_Int, a295_0, a295_26, a295_79, a295_87, R32, List.getElem?_cons_zero, List.getElem?_cons_succ, List.set_cons_zero, List.set_cons_succ, List.cons_append, List.nil_append, List.replicate_succ, List.replicate_zero, List.take_succ_cons, List.take_zero, List.drop_succ_cons, List.drop_zero, List.reverse_cons, List.reverse_nil, List.length_cons, List.length_nil, Option.toList, true_and, and_true, eq_self, ↓reduceIte, not_true_eq_false, not_false_eq_true, true_or, or_true, upS_upS, upS_at, up300, up300b, oR3, fR3, dR3, lgR3, valM3, Int.reduceEq, Nat.reduceEqDiff, and_self, and_true, and_false, false_and, if_true, if_false] | refine q_292 hM hD hE hA hG hn (fun T0 hl hT0 => ?_) | with_reducible refine And.intro ?_ ?_ | with_reducible intro _)
  all_goals (try (first | omega | contradiction | ((try clear hK); (try clear hK0); (try clear hB); (try clear h9); (try clear h8); (try clear h7); (try simp only [oR3, fR3, dR3, lgR3, valM3, up300, up300b] at *); (try simp only [SR_o hT, SR_f hT, SR_d hT, SR_l hT, SR_v hT, SR_m hT, SR_g hT, oR3, fR3, dR3, lgR3, valM3, up300, up300b] at *); first | done | omega | grind)))
theorem k296_0 : pg.1 296 0 = [.aload 0, .iload 2, .bipush (-1), .if_icmp .eq 18, .aload 0, .iload 2, .invokeinterface 210 2, .ifCond .ne 18, .bipush 1, .goto 33] := rfl
theorem a296_0 {tb : Tab} {d : Nat} {K : Out → AM → Prop} {ls st : List AV} {m : AM} : At tb d 296 K 0 ls st m = wpB tb (pg.2.1 296) (Runs tb pg d) K (At tb d 296 K) [.aload 0, .iload 2, .bipush (-1), .if_icmp .eq 18, .aload 0, .iload 2, .invokeinterface 210 2, .ifCond .ne 18, .bipush 1, .goto 33] ls st m := At.eq k296_0
theorem k296_18 : pg.1 296 18 = [.iload 1, .bipush 1, .bipush 60, .invokeinterface 200 3, .ifCond .ne 32, .bipush 2, .goto 33] := rfl
theorem a296_18 {tb : Tab} {d : Nat} {K : Out → AM → Prop} {ls st : List AV} {m : AM} : At tb d 296 K 18 ls st m = wpB tb (pg.2.1 296) (Runs tb pg d) K (At tb d 296 K) [.iload 1, .bipush 1, .bipush 60, .invokeinterface 200 3, .ifCond .ne 32, .bipush 2, .goto 33] ls st m := At.eq k296_18
theorem k296_32 : pg.1 296 32 = [.bipush 0, .jsr 33] := rfl
theorem a296_32 {tb : Tab} {d : Nat} {K : Out → AM → Prop} {ls st : List AV} {m : AM} : At tb d 296 K 32 ls st m = wpB tb (pg.2.1 296) (Runs tb pg d) K (At tb d 296 K) [.bipush 0, .jsr 33] ls st m := At.eq k296_32
theorem k296_33 : pg.1 296 33 = [.putfield 1000, .aload 0, .getfield 1000, .ifCond .le 45, .bipush 0, .ireturn] := rfl
theorem a296_33 {tb : Tab} {d : Nat} {K : Out → AM → Prop} {ls st : List AV} {m : AM} : At tb d 296 K 33 ls st m = wpB tb (pg.2.1 296) (Runs tb pg d) K (At tb d 296 K) [.putfield 1000, .aload 0, .getfield 1000, .ifCond .le 45, .bipush 0, .ireturn] ls st m := At.eq k296_33
theorem k296_45 : pg.1 296 45 = [.aload 0, .iload 1, .invokeinterface 295 2, .istore 3, .iload 2, .bipush (-1), .if_icmp .ne 58, .iload 3, .ireturn] := rfl
theorem a296_45 {tb : Tab} {d : Nat} {K : Out → AM → Prop} {ls st : List AV} {m : AM} : At tb d 296 K 45 ls st m = wpB tb (pg.2.1 296) (Runs tb pg d) K (At tb d 296 K) [.aload 0, .iload 1, .invokeinterface 295 2, .istore 3, .iload 2, .bipush (-1), .if_icmp .ne 58, .iload 3, .ireturn] ls st m := At.eq k296_45
theorem k296_58 : pg.1 296 58 = [.aload 0, .getfield 1028, .iload 2, .iaload, .aload 0, .getfield 1001, .bipush 3, .iaload, .if_icmp .ne 77, .bipush (-1), .goto 83] := rfl
theorem a296_58 {tb : Tab} {d : Nat} {K : Out → AM → Prop} {ls st : List AV} {m : AM} : At tb d 296 K 58 ls st m = wpB tb (pg.2.1 296) (Runs tb pg d) K (At tb d 296 K) [.aload 0, .getfield 1028, .iload 2, .iaload, .aload 0, .getfield 1001, .bipush 3, .iaload, .if_icmp .ne 77, .bipush (-1), .goto 83] ls st m := At.eq k296_58
theorem k296_77 : pg.1 296 77 = [.aload 0, .getfield 1028, .iload 2, .iaload, .jsr 83] := rfl
theorem a296_77 {tb : Tab} {d : Nat} {K : Out → AM → Prop} {ls st : List AV} {m : AM} : At tb d 296 K 77 ls st m = wpB tb (pg.2.1 296) (Runs tb pg d) K (At tb d 296 K) [.aload 0, .getfield 1028, .iload 2, .iaload, .jsr 83] ls st m := At.eq k296_77
theorem k296_83 : pg.1 296 83 = [.ireturn] := rfl
theorem a296_83 {tb : Tab} {d : Nat} {K : Out → AM → Prop} {ls st : List AV} {m : AM} : At tb d 296 K 83 ls st m = wpB tb (pg.2.1 296) (Runs tb pg d) K (At tb d 296 K) [.ireturn] ls st m := At.eq k296_83
theorem q_296 {n p : Int} (hM : AskM tb ev good) (hD : AskD tb ev good) (hE : EvD ev good) (hA : AB (S 301)) (hG : good (lawD (S 301))) (hn : R32 n) (hp : R32 p) (hK1 : p ≠ -1 → ¬ (0 ≤ p ∧ p < S 301 4) → K (.inl (some (vi 0))) (X (upS S 300 0 1) m)) (hK2 : (p = -1 ∨ (0 ≤ p ∧ p < S 301 4)) → ¬ (1 ≤ n ∧ n ≤ 60) → K (.inl (some (vi 0))) (X (upS S 300 0 2) m)) (hK : ∀ T r mo c, (1 ≤ n ∧ n ≤ 60) → (p = -1 ∨ (0 ≤ p ∧ p < S 301 4)) → isTl ev (S 301) n mo c → r = (if p = -1 then mo else if c p = S 301 3 then -1 else c p) → SV (upS S 300 0 0) T → K (.inl (some (vi r))) (X T m)) : Runs tb pg (d + 66) 296 [vr 300, vi n, vi p] (X S m) K := by
  refine Runs.of (al := [vr 300, vi n, vi p]) (n := 1) ⟨300, _, _, rfl, xo_300⟩ rfl rfl trivial ?_
  have hB : BR S := AB_B hA
  unfold R32 at hn hp
  have b3 := hA.2.1.1
  have b4 := hA.2.1.2.1
  repeat' (first | refine hK _ _ mo (T9 315) ?_ ?_ e9 ?_ e8 | refine hK1 ?_ ?_ | refine hK2 ?_ ?_ | simp only [w_aload, w_iload, w_iconst, w_ifc, cI, Int.reduceToNat, w_call, w_if, w_goto, w_fall, x_p1000_300, x_g1000_300, w_ireturn, w_istore, x_g1028_300, x_iald, w_ialoads, w_ialoadw, x_g1001_300, isA_301, isA_302, isA_303, isA_304, isA_305, isA_307, isA_308, isA_309, isA_310, isA_311, isA_312, isA_313, isA_314, isA_315, len_301, len_302, len_303, len_304, len_305, len_307, len_308, len_309, len_310, len_311, len_312, len_313, len_314, len_315, Int.cast_ofNat_Int, a296_0, a296_18, a296_32, a296_33, a296_45, a296_58, a296_77, a296_83, R32, List.getElem?_cons_zero, List.getElem?_cons_succ, List.set_cons_zero, List.set_cons_succ, List.cons_append, List.nil_append, List.replicate_succ, List.replicate_zero, List.take_succ_cons, List.take_zero, List.drop_succ_cons, List.drop_zero, List.reverse_cons, List.reverse_nil, List.length_cons, List.length_nil, Option.toList, true_and, and_true, eq_self, ↓reduceIte, not_true_eq_false, not_false_eq_true, true_or, or_true, upS_upS, upS_at, up300, up300b, oR3, fR3, dR3, lgR3, valM3, Int.reduceEq, Nat.reduceEqDiff, and_self, and_true, and_false, false_and, if_true, if_false] | refine q_200 ?_ ?_ ?_ ?_ | refine q_210 (S := upS S 300 0 0) hB ?_ (fun q1 q2 => ?_) | refine q_210 hB ?_ (fun q1 q2 => ?_) | refine q_295 (S := upS S 300 0 0) hM hD hE hA hG (by omega) (fun T9 mo e9 e8 e7 e6 => ?_) | (have tm9 : T9 301 = S 301 := (by rw [SV_m e8]; rfl); rw [tm9]) | with_reducible refine And.intro ?_ ?_ | with_reducible intro _)
  all_goals (try (first | omega | contradiction | ((try clear hK); (try clear hK0); (try clear hB); (try clear h9); (try clear h8); (try clear h7); (try simp only [oR3, fR3, dR3, lgR3, valM3, up300, up300b] at *); (try simp only [SR_o hT, SR_f hT, SR_d hT, SR_l hT, SR_v hT, SR_m hT, SR_g hT, oR3, fR3, dR3, lgR3, valM3, up300, up300b] at *); first | done | omega | (have hp9 : 0 ≤ p ∧ p < S 301 4 := Classical.byContradiction (fun z => by have q5 := q2.trans (if_neg z); omega); have ok := e9.1 p hp9.1 (by omega); have tm : T9 301 = S 301 := (by rw [SV_m e8]; rfl); (try rw [show (upS S 300 0 0 301) = S 301 from rfl] at ok); (try rw [tm]); first | omega | grind) | grind | (rcases hp9 with e | e <;> omega))))
end Ref36
