/-! ===== BOTH SIDES TOGETHER: the calls that change nothing ===== -/
theorem led_R {r : Int → Int} {p w v : Int} (hA : AB r) (e1 : w = 0 → v = sumZ (r 11) (fun k => if gr r k 1 = p then 1 else 0)) (e2 : w ≠ 0 → (v = -1 ∧ ∀ k, 0 ≤ k → k < r 11 → gr r k 1 ≠ p) ∨ (∃ q, 0 ≤ q ∧ q < r 11 ∧ gr r q 1 = p ∧ v = gr r q 0 ∧ ∀ k, 0 ≤ k → k < q → gr r k 1 ≠ p)) : R32 v := by
  have b := hA.2.1.2.2.2.2.2.2.1
  refine R32_of ?_
  by_cases z : w = 0
  · have a := sumZ_le (f := fun k => if gr r k 1 = p then 1 else 0) (n := r 11) (a := 0) (b := 1) b.1 (fun i _ _ => by split <;> omega)
    have := e1 z
    omega
  · rcases e2 z with ⟨e, -⟩ | ⟨q, q0, q1, q2, q3, -⟩
    · omega
    · have := hA.1 (175 + 4 * q + 0) (by omega)
      have e : v = r (175 + 4 * q + 0) := q3
      omega
theorem led_uq {w v u p n : Int} {G : Int → Int → Int} (e1 : w = 0 → u = v) (f2 : w ≠ 0 → (u = -1 ∧ ∀ k, 0 ≤ k → k < n → G k 1 ≠ p) ∨ (∃ q, 0 ≤ q ∧ q < n ∧ G q 1 = p ∧ u = G q 0 ∧ ∀ k, 0 ≤ k → k < q → G k 1 ≠ p)) (e2 : w ≠ 0 → (v = -1 ∧ ∀ k, 0 ≤ k → k < n → G k 1 ≠ p) ∨ (∃ q, 0 ≤ q ∧ q < n ∧ G q 1 = p ∧ v = G q 0 ∧ ∀ k, 0 ≤ k → k < q → G k 1 ≠ p)) : u = v := by
  by_cases z : w = 0
  · exact e1 z
  · rcases e2 z with ⟨e, h⟩ | ⟨q, q0, q1, q2, q3, q4⟩ <;> rcases f2 z with ⟨f, g⟩ | ⟨j, j0, j1, j2, j3, j4⟩
    · omega
    · exact absurd j2 (h j j0 j1)
    · exact absurd q2 (g q q0 q1)
    · rcases Int.lt_trichotomy q j with y | y | y
      · exact absurd q2 (j4 q q0 y)
      · subst y; omega
      · exact absurd j2 (q4 j j0 y)
theorem log_R {r : Int → Int} {k w v : Int} (hA : AB r) (hw : 0 ≤ w ∧ w ≤ 3) (e : v = if 0 ≤ k ∧ k < r 11 then gr r k w else -1) : R32 v := by
  have b := hA.2.1.2.2.2.2.2.2.1
  refine R32_of ?_
  split at e
  · have := hA.1 (175 + 4 * k + w) (by omega)
    have e : v = r (175 + 4 * k + w) := e
    omega
  · omega
theorem go_R1 {r : Int → Int} {f n w v : Int} (ri : RI r) (hf : 0 ≤ f ∧ f < r 3) (e1 : w ≠ 0 → v = setZ ((goN evL 0 r n.toNat) 4) (fun p => pr (goN evL 0 r n.toNat) p 1 = f)) (e2 : w = 0 → v = fr (goN evL 0 r n.toNat) f 1) : R32 v := by
  have a := (RI_go (w := 0) ri n.toNat).1
  have b3 := ri.1.2.1.1
  by_cases z : w = 0
  · have e : v = (goN evL 0 r n.toNat) (13 + 3 * f + 1) := e2 z
    have := a.1 (13 + 3 * f + 1) (by omega)
    exact R32_of (by omega)
  · exact R32_set a.2.1.2.1 (e1 z)
theorem go_R2 {r : Int → Int} {n w v : Int} (ri : RI r) (e1 : w ≠ 0 → v = sumZ ((goN evL 1 r n.toNat) 3) (fun f => fr (goN evL 1 r n.toNat) f 1)) (e2 : w = 0 → v = setZ ((goN evL 1 r n.toNat) 4) (fun p => pr (goN evL 1 r n.toNat) p 1 ≠ -1)) : R32 v := by
  have a := (RI_go (w := 1) ri n.toNat).1
  by_cases z : w = 0
  · exact R32_set a.2.1.2.1 (e2 z)
  · have b := a.2.1.1
    have g := sumZ_le (f := fun f => fr (goN evL 1 r n.toNat) f 1) (n := (goN evL 1 r n.toNat) 3) (a := -1) (b := 10000) b.1 (fun i _ _ => a.1 (13 + 3 * i + 1) (by omega))
    have := e1 z
    exact R32_of (by omega)
theorem till_R {r : Int → Int} {n p v : Int} {T : Nat → Int → Int} (hA : AB r) (hp : p = -1 ∨ (0 ≤ p ∧ p < r 4)) (h : tlO r n T) (e : (p = -1 ∧ v = T 70 6) ∨ (p ≠ -1 ∧ v = T 92 p)) : R32 v := by
  obtain ⟨h1, b, h2, h3⟩ := h
  have b3 := hA.2.1.1
  have b4 := hA.2.1.2.1
  refine R32_of ?_
  rcases e with ⟨e, e2⟩ | ⟨e, e2⟩
  · omega
  · rcases hp with hp | hp
    · exact absurd hp e
    · have g := h3 p hp.1 hp.2
      have k := h2.1 p hp.1 (by omega)
      unfold cdW at g
      split at g <;> omega
theorem till_uq {r : Int → Int} {n p v u mo : Int} {c : Int → Int} {T : Nat → Int → Int} (b3 : 0 ≤ r 3 ∧ r 3 ≤ 6) (b4 : 0 ≤ r 4 ∧ r 4 ≤ 6) (h : tlO r n T) (e : (p = -1 ∧ v = T 70 6) ∨ (p ≠ -1 ∧ v = T 92 p)) (hp : p = -1 ∨ (0 ≤ p ∧ p < r 4)) (g : isTl evL r n mo c) (f : u = (if p = -1 then mo else if c p = r 3 then -1 else c p)) : u = v := by
  obtain ⟨h1, b, h2, h3⟩ := h
  have q := isBst_uq b3.1 b4 h2 g
  rcases e with ⟨e, e2⟩ | ⟨e, e2⟩
  · rw [if_pos e] at f; rw [f, e2]; exact q.1.symm
  · rw [if_neg e] at f
    rcases hp with hp | hp
    · exact absurd hp e
    · rw [e2, f, h3 p hp.1 hp.2, q.2 p hp.1 hp.2]; rfl
theorem pairs_R {P : Int → Int → Int} {n p v : Int} (hn : 0 ≤ n ∧ n ≤ 6) (e : (p = -1 ∧ v = pF P n (pw n - 1)) ∨ (p ≠ -1 ∧ v = dC P n p (pw n - 1))) : R32 v := by
  have q := pw_le64 hn.1 hn.2
  refine R32_of ?_
  rcases e with ⟨-, e⟩ | ⟨-, e⟩
  · have := (pF_is (P := P) hn).2 (pw n - 1) (by omega) (by omega)
    omega
  · have := dcN_rg (P := P) (f := pF P n) (one := p) hn 64 (pw n - 1) (by omega) (by omega)
    unfold dC at e
    omega
theorem pairs_uq {P : Int → Int → Int} {n p v u : Int} {T : Nat → Int → Int} (hn : 0 ≤ n ∧ n ≤ 6) (e : (p = -1 ∧ v = pF P n (pw n - 1)) ∨ (p ≠ -1 ∧ v = dC P n p (pw n - 1))) (h : pbV P n T (pw n)) (f : (p = -1 ∧ u = T 310 (pw n - 1)) ∨ ((0 ≤ p ∧ p < n) ∧ isDec P n (T 310) p (pw n - 1) u)) : u = v := by
  have q := pw_le64 hn.1 hn.2
  rcases e with ⟨e, e2⟩ | ⟨e, e2⟩ <;> rcases f with ⟨f, f2⟩ | ⟨f, f2⟩
  · rw [e2, f2]; exact isPb_u hn h.1 (by omega) (by omega)
  · omega
  · exact absurd f e
  · rw [e2]; exact dec_ref hn h.1 (by omega) (by omega) f2
theorem tog_R {r : Int → Int} {S T : Nat → Int → Int} {p q k v : Int} (hA : AB r) (hp : 0 ≤ p ∧ p < r 4) (hq : 0 ≤ q ∧ q < r 4) (h : tgO (pr r) S T p q) (e : (k = -1 ∧ v = T 64 2) ∨ (k ≠ -1 ∧ v = if 0 ≤ k ∧ k < T 64 2 then T 66 k else -1)) : R32 v := by
  obtain ⟨-, a, b, n, h1, -, -, ⟨h4, h5⟩, h6⟩ := h
  have b4 := hA.2.1.2.1
  have g : ∀ x j, (x = p ∨ x = q) → 0 ≤ 31 + 20 * x + j → 31 + 20 * x + j ≠ 12 → -1 ≤ pr r x j ∧ pr r x j ≤ 10000 := fun x j _ _ hj => hA.1 (31 + 20 * x + j) hj
  refine R32_of ?_
  rcases e with ⟨e, e2⟩ | ⟨e, e2⟩
  · omega
  · split at e2
    next z =>
      have x := h6 k z.1 (by omega)
      rw [x] at e2
      split at e2
      · have := hA.1 (31 + 20 * a + (2 + k)) (by omega)
        have e3 : v = r (31 + 20 * a + (2 + k)) := e2
        omega
      · next y =>
        have pb : 0 ≤ pr r b 0 ∧ pr r b 0 ≤ 6 := by
          have u1 := AB_pp hA hp.1 hp.2
          have u2 := AB_pp hA hq.1 hq.2
          rcases h1 with ⟨-, rfl⟩ | ⟨-, rfl⟩ <;> omega
        have := hA.1 (31 + 20 * b + (2 + k - n + pr r b 0)) (by omega)
        have e3 : v = r (31 + 20 * b + (2 + k - n + pr r b 0)) := e2
        omega
    · omega
theorem tog_uq {P : Int → Int → Int} {N : Int} {S T : Nat → Int → Int} {p q k v u a2 c2 n2 : Int} (hp : 0 ≤ p ∧ p < N) (hq : 0 ≤ q ∧ q < N) (hpq : p ≠ q) (h : tgO P S T p q) (e : (k = -1 ∧ v = T 64 2) ∨ (k ≠ -1 ∧ v = if 0 ≤ k ∧ k < T 64 2 then T 66 k else -1)) (y : (a2 = p ∧ c2 = q) ∨ (a2 = q ∧ c2 = p)) (f1 : selA P p q a2) (f2 : lenT P a2 c2 n2) (f3 : togV P a2 c2 n2 k u) : u = v := by
  obtain ⟨-, a, b, n, h1, h2, h3, ⟨h4, h5⟩, h6⟩ := h
  have ea := selA_uq h2 f1
  have eb : b = c2 := by omega
  subst ea; subst eb
  have en := lenT_uq h3 f2
  subst en
  rcases f3 with ⟨g, g1⟩ | ⟨g, g1, g2⟩ | ⟨g, g1, g2⟩ <;> rcases e with ⟨e, e2⟩ | ⟨e, e2⟩
  · omega
  · omega
  · omega
  · rw [if_neg (by omega)] at e2; omega
  · omega
  · rw [if_pos (by omega), h6 k g1.1 g1.2] at e2
    rcases g2 with ⟨g2, g3⟩ | ⟨g2, g3⟩
    · rw [if_pos g2] at e2; omega
    · rw [if_neg (by omega)] at e2; omega
section Pair0
variable {tb : Tab} {r : Int → Int} {S : Nat → Int → Int} {m : AM}
theorem p_135 {f w : Int} (r_f : R32 f) (r_w : R32 w) (hX : tb.2.1 = strB) (h : TOP r S m) : JT tb 135 268 [vr 0, vi f, vi w] [vr 300, vi f, vi w] True [(2, 1), (4, 2)] S m := by
  intro d K hV hE
  obtain ⟨⟨e301, ri, hR, hl⟩, -⟩ := id h
  obtain ⟨hA, hS, hGV, hN, hG⟩ := id ri
  have b3 := hA.2.1.1
  have b4 := hA.2.1.2.1
  have b5 := hA.2.1.2.2.1
  refine w_135 hR hA r_f r_w ?_ ?_ ?_
  · intro z1
    refine hE 2 1 S (mthrow m) (by simp) GRW_th (NX (TOP_q h (fun _ _ => rfl) (fun _ _ => rfl) LM_th) (fun S2 h9 => ?_))
    intro d2 K2 k2
    have e9 := h9.1.1
    subst e9
    refine q_268 (AB_B hA) r_f r_w (fun y1 => by first | (exact k2 _ _ _ _ (EN_th h9 1) rfl) | (exfalso; omega) | (exfalso; grind)) (fun y1 y2 => by first | (exact k2 _ _ _ _ (EN_th h9 2) rfl) | (exfalso; omega) | (exfalso; grind)) (fun b y1 y2 eb => by first | (exfalso; omega) | (exfalso; grind))
  · intro z1 z2
    refine hE 4 2 S (mthrow m) (by simp) GRW_th (NX (TOP_q h (fun _ _ => rfl) (fun _ _ => rfl) LM_th) (fun S2 h9 => ?_))
    intro d2 K2 k2
    have e9 := h9.1.1
    subst e9
    refine q_268 (AB_B hA) r_f r_w (fun y1 => by first | (exact k2 _ _ _ _ (EN_th h9 1) rfl) | (exfalso; omega) | (exfalso; grind)) (fun y1 y2 => by first | (exact k2 _ _ _ _ (EN_th h9 2) rfl) | (exfalso; omega) | (exfalso; grind)) (fun b y1 y2 eb => by first | (exfalso; omega) | (exfalso; grind))
  · intro v z1 z2 e
    refine hV v S m (fun _ => fieldV_R hA z1 z2 e) GRW_r (NX h (fun S2 h9 => ?_))
    intro d2 K2 k2
    have e9 := h9.1.1
    subst e9
    refine q_268 (AB_B hA) r_f r_w (fun y1 => by first | (exfalso; omega) | (exfalso; grind)) (fun y1 y2 => by first | (exfalso; omega) | (exfalso; grind)) (fun b y1 y2 eb => by first | (exact k2 _ _ _ _ (EN_th h9 0) ⟨rfl, eb.trans e.symm⟩) | (exfalso; omega) | (exfalso; grind))
theorem p_136 {p w : Int} (r_p : R32 p) (r_w : R32 w) (hX : tb.2.1 = strB) (h : TOP r S m) : JT tb 136 277 [vr 0, vi p, vi w] [vr 300, vi p, vi w] True [(2, 1), (4, 2)] S m := by
  intro d K hV hE
  obtain ⟨⟨e301, ri, hR, hl⟩, -⟩ := id h
  obtain ⟨hA, hS, hGV, hN, hG⟩ := id ri
  have b3 := hA.2.1.1
  have b4 := hA.2.1.2.1
  have b5 := hA.2.1.2.2.1
  refine w_136 hR hA r_p r_w hS hl ?_ ?_ ?_
  · intro z1
    refine hE 2 1 S (mthrow m) (by simp) GRW_th (NX (TOP_q h (fun _ _ => rfl) (fun _ _ => rfl) LM_th) (fun S2 h9 => ?_))
    intro d2 K2 k2
    have e9 := h9.1.1
    subst e9
    refine q_277 (askM_L hX) (askD_L hX) EvD_L hA hG hS r_p r_w (fun y1 => by first | (exact k2 _ _ _ _ (EN_th h9 1) rfl) | (exfalso; omega) | (exfalso; grind)) (fun y1 y2 => by first | (exact k2 _ _ _ _ (EN_th h9 2) rfl) | (exfalso; omega) | (exfalso; grind)) (fun T2 b y1 y2 eb x => by first | (exfalso; omega) | (exfalso; grind))
  · intro z1 z2
    refine hE 4 2 S (mthrow m) (by simp) GRW_th (NX (TOP_q h (fun _ _ => rfl) (fun _ _ => rfl) LM_th) (fun S2 h9 => ?_))
    intro d2 K2 k2
    have e9 := h9.1.1
    subst e9
    refine q_277 (askM_L hX) (askD_L hX) EvD_L hA hG hS r_p r_w (fun y1 => by first | (exact k2 _ _ _ _ (EN_th h9 1) rfl) | (exfalso; omega) | (exfalso; grind)) (fun y1 y2 => by first | (exact k2 _ _ _ _ (EN_th h9 2) rfl) | (exfalso; omega) | (exfalso; grind)) (fun T2 b y1 y2 eb x => by first | (exfalso; omega) | (exfalso; grind))
  · intro T m1 v z1 z2 e fF uM
    refine hV v T m1 (fun _ => perM_R hA hS z1 z2 e) (GRW_S uM) (NX (TOP_c h (fun a ha => fF a (by omega) (by omega)) (LM_S uM)) (fun S2 h9 => ?_))
    intro d2 K2 k2
    have e9 := h9.1.1
    subst e9
    refine q_277 (askM_L hX) (askD_L hX) EvD_L hA hG hS r_p r_w (fun y1 => by first | (exfalso; omega) | (exfalso; grind)) (fun y1 y2 => by first | (exfalso; omega) | (exfalso; grind)) (fun T2 b y1 y2 eb x => by first | (exact k2 _ _ _ _ (EN_Q h9 x) ⟨rfl, perM_uq y2 e eb⟩) | (exfalso; omega) | (exfalso; grind))
theorem p_138 {p k w : Int} (r_p : R32 p) (r_k : R32 k) (r_w : R32 w) (hX : tb.2.1 = strB) (h : TOP r S m) : JT tb 138 278 [vr 0, vi p, vi k, vi w] [vr 300, vi p, vi k, vi w] True [(2, 1), (4, 2)] S m := by
  intro d K hV hE
  obtain ⟨⟨e301, ri, hR, hl⟩, -⟩ := id h
  obtain ⟨hA, hS, hGV, hN, hG⟩ := id ri
  have b3 := hA.2.1.1
  have b4 := hA.2.1.2.1
  have b5 := hA.2.1.2.2.1
  refine w_138 hR hA r_p r_k r_w ?_ ?_ ?_
  · intro z1
    refine hE 2 1 S (mthrow m) (by simp) GRW_th (NX (TOP_q h (fun _ _ => rfl) (fun _ _ => rfl) LM_th) (fun S2 h9 => ?_))
    intro d2 K2 k2
    have e9 := h9.1.1
    subst e9
    refine q_278 (AB_B hA) r_p r_k r_w (fun y1 => by first | (exact k2 _ _ _ _ (EN_th h9 1) rfl) | (exfalso; omega) | (exfalso; grind)) (fun y1 y2 => by first | (exact k2 _ _ _ _ (EN_th h9 2) rfl) | (exfalso; omega) | (exfalso; grind)) (fun b y1 y2 eb => by first | (exfalso; omega) | (exfalso; grind))
  · intro z1 z2
    refine hE 4 2 S (mthrow m) (by simp) GRW_th (NX (TOP_q h (fun _ _ => rfl) (fun _ _ => rfl) LM_th) (fun S2 h9 => ?_))
    intro d2 K2 k2
    have e9 := h9.1.1
    subst e9
    refine q_278 (AB_B hA) r_p r_k r_w (fun y1 => by first | (exact k2 _ _ _ _ (EN_th h9 1) rfl) | (exfalso; omega) | (exfalso; grind)) (fun y1 y2 => by first | (exact k2 _ _ _ _ (EN_th h9 2) rfl) | (exfalso; omega) | (exfalso; grind)) (fun b y1 y2 eb => by first | (exfalso; omega) | (exfalso; grind))
  · intro v z1 z2 e
    refine hV v S m (fun _ => letV_R hA z1 e) GRW_r (NX h (fun S2 h9 => ?_))
    intro d2 K2 k2
    have e9 := h9.1.1
    subst e9
    refine q_278 (AB_B hA) r_p r_k r_w (fun y1 => by first | (exfalso; omega) | (exfalso; grind)) (fun y1 y2 => by first | (exfalso; omega) | (exfalso; grind)) (fun b y1 y2 eb => by first | (exact k2 _ _ _ _ (EN_th h9 0) ⟨rfl, letV_uq e eb⟩) | (exfalso; omega) | (exfalso; grind))
theorem p_140 {p f : Int} (r_p : R32 p) (r_f : R32 f) (hX : tb.2.1 = strB) (h : TOP r S m) : JT tb 140 280 [vr 0, vi p, vi f] [vr 300, vi p, vi f] True [(2, 1)] S m := by
  intro d K hV hE
  obtain ⟨⟨e301, ri, hR, hl⟩, -⟩ := id h
  obtain ⟨hA, hS, hGV, hN, hG⟩ := id ri
  have b3 := hA.2.1.1
  have b4 := hA.2.1.2.1
  have b5 := hA.2.1.2.2.1
  refine w_140 hR hA r_p r_f hl ?_ ?_
  · intro z1
    refine hE 2 1 S (mthrow m) (by simp) GRW_th (NX (TOP_q h (fun _ _ => rfl) (fun _ _ => rfl) LM_th) (fun S2 h9 => ?_))
    intro d2 K2 k2
    have e9 := h9.1.1
    subst e9
    refine q_280 (askM_L hX) hA hG r_p r_f (fun y1 => by first | (exact k2 _ _ _ _ (EN_th h9 1) rfl) | (exfalso; omega) | (exfalso; grind)) (fun T2 b y1 y2 eb x => by first | (exfalso; omega) | (exfalso; grind))
  · intro T m1 v z1 z2 e fF uM
    refine hV v T m1 (fun _ => R32_of (by have a := mlt_rg hA (p := p) z2; have b := mltR_0 (ev := evL) (r := r) (p := p) (f := f); omega)) (GRW_S uM) (NX (TOP_c h (fun a ha => fF a (by omega)) (LM_S uM)) (fun S2 h9 => ?_))
    intro d2 K2 k2
    have e9 := h9.1.1
    subst e9
    refine q_280 (askM_L hX) hA hG r_p r_f (fun y1 => by first | (exfalso; omega) | (exfalso; grind)) (fun T2 b y1 y2 eb x => by first | (exact k2 _ _ _ _ (EN_Q h9 x) ⟨rfl, eb.trans e.symm⟩) | (exfalso; omega) | (exfalso; grind))
theorem p_141 {p f : Int} (r_p : R32 p) (r_f : R32 f) (hX : tb.2.1 = strB) (h : TOP r S m) : JT tb 141 281 [vr 0, vi p, vi f] [vr 300, vi p, vi f] True [(2, 1)] S m := by
  intro d K hV hE
  obtain ⟨⟨e301, ri, hR, hl⟩, -⟩ := id h
  obtain ⟨hA, hS, hGV, hN, hG⟩ := id ri
  have b3 := hA.2.1.1
  have b4 := hA.2.1.2.1
  have b5 := hA.2.1.2.2.1
  refine w_141 hR hA r_p r_f hl ?_ ?_
  · intro z1
    refine hE 2 1 S (mthrow m) (by simp) GRW_th (NX (TOP_q h (fun _ _ => rfl) (fun _ _ => rfl) LM_th) (fun S2 h9 => ?_))
    intro d2 K2 k2
    have e9 := h9.1.1
    subst e9
    refine q_281 (askD_L hX) hA hG r_p r_f (fun y1 => by first | (exact k2 _ _ _ _ (EN_th h9 1) rfl) | (exfalso; omega) | (exfalso; grind)) (fun T2 b y1 y2 eb x => by first | (exfalso; omega) | (exfalso; grind))
  · intro T m1 v z1 z2 e fF uM
    refine hV v T m1 (fun _ => R32_of (by have b := dpt_rg (r := r) (p := p) (f := f); omega)) (GRW_S uM) (NX (TOP_c h (fun a ha => fF a (by omega)) (LM_S uM)) (fun S2 h9 => ?_))
    intro d2 K2 k2
    have e9 := h9.1.1
    subst e9
    refine q_281 (askD_L hX) hA hG r_p r_f (fun y1 => by first | (exfalso; omega) | (exfalso; grind)) (fun T2 b y1 y2 eb x => by first | (exact k2 _ _ _ _ (EN_Q h9 x) ⟨rfl, eb.trans e.symm⟩) | (exfalso; omega) | (exfalso; grind))
theorem p_161 (hX : tb.2.1 = strB) (h : TOP r S m) : JT tb 161 303 [vr 0] [vr 300] False [] S m := by
  intro d K hV hE
  obtain ⟨⟨e301, ri, hR, hl⟩, -⟩ := id h
  obtain ⟨hA, hS, hGV, hN, hG⟩ := id ri
  have b3 := hA.2.1.1
  have b4 := hA.2.1.2.1
  have b5 := hA.2.1.2.2.1
  refine w_161 hR hA hGV ?_
  · intro v e
    refine hV v S m (fun z => z.elim) GRW_r (NX h (fun S2 h9 => ?_))
    intro d2 K2 k2
    have e9 := h9.1.1
    subst e9
    refine q_303 (AB_B hA) (fun b eb => by first | (exact k2 _ _ _ _ (EN_th h9 0) ⟨rfl, isMinP_uq eb e (fun _ _ _ => Iff.rfl) (fun _ _ _ => rfl)⟩) | (exfalso; omega) | (exfalso; grind))
theorem p_162 {p q : Int} (r_p : R32 p) (r_q : R32 q) (hX : tb.2.1 = strB) (h : TOP r S m) : JT tb 162 305 [vr 0, vi p, vi q] [vr 300, vi p, vi q] True [(2, 1)] S m := by
  intro d K hV hE
  obtain ⟨⟨e301, ri, hR, hl⟩, -⟩ := id h
  obtain ⟨hA, hS, hGV, hN, hG⟩ := id ri
  have b3 := hA.2.1.1
  have b4 := hA.2.1.2.1
  have b5 := hA.2.1.2.2.1
  refine w_162 hR hA r_p r_q hGV ?_ ?_
  · intro z1
    refine hE 2 1 S (mthrow m) (by simp) GRW_th (NX (TOP_q h (fun _ _ => rfl) (fun _ _ => rfl) LM_th) (fun S2 h9 => ?_))
    intro d2 K2 k2
    have e9 := h9.1.1
    subst e9
    refine q_305 (AB_B hA) r_p r_q (fun y1 => by first | (exact k2 _ _ _ _ (EN_th h9 1) rfl) | (exfalso; omega) | (exfalso; grind)) (fun T2 b y1 y2 eb x => by first | (exfalso; omega) | (exfalso; grind))
  · intro T v z1 z2 e fF
    refine hV v T m (fun _ => R32_of (by have a := AB_pp hA z1.1 z1.2; have c := AB_pp hA z2.1 z2.2; have b := edZ_le (P := pr r) (p := p) (o := q) (i := pr r p 0) (j := pr r q 0) (by omega) (by omega); omega)) GRW_r (NX (TOP_c h (fun a ha => fF a (by omega)) LM_r) (fun S2 h9 => ?_))
    intro d2 K2 k2
    have e9 := h9.1.1
    subst e9
    refine q_305 (AB_B hA) r_p r_q (fun y1 => by first | (exfalso; omega) | (exfalso; grind)) (fun T2 b y1 y2 eb x => by first | (exact k2 _ _ _ _ (EN_R h9 x) ⟨rfl, eb.trans e.symm⟩) | (exfalso; omega) | (exfalso; grind))
theorem p_163 {p q : Int} (r_p : R32 p) (r_q : R32 q) (hX : tb.2.1 = strB) (h : TOP r S m) : JT tb 163 307 [vr 0, vi p, vi q] [vr 300, vi p, vi q] True [(2, 1)] S m := by
  intro d K hV hE
  obtain ⟨⟨e301, ri, hR, hl⟩, -⟩ := id h
  obtain ⟨hA, hS, hGV, hN, hG⟩ := id ri
  have b3 := hA.2.1.1
  have b4 := hA.2.1.2.1
  have b5 := hA.2.1.2.2.1
  refine w_163 hR hA r_p r_q hGV ?_ ?_
  · intro z1
    refine hE 2 1 S (mthrow m) (by simp) GRW_th (NX (TOP_q h (fun _ _ => rfl) (fun _ _ => rfl) LM_th) (fun S2 h9 => ?_))
    intro d2 K2 k2
    have e9 := h9.1.1
    subst e9
    refine q_307 (AB_B hA) r_p r_q (fun y1 => by first | (exact k2 _ _ _ _ (EN_th h9 1) rfl) | (exfalso; omega) | (exfalso; grind)) (fun b y1 y2 eb => by first | (exfalso; omega) | (exfalso; grind))
  · intro v z1 z2 e
    refine hV v S m (fun _ => R32_of (by have := yn_rg e; omega)) GRW_r (NX h (fun S2 h9 => ?_))
    intro d2 K2 k2
    have e9 := h9.1.1
    subst e9
    refine q_307 (AB_B hA) r_p r_q (fun y1 => by first | (exfalso; omega) | (exfalso; grind)) (fun b y1 y2 eb => by first | (exact k2 _ _ _ _ (EN_th h9 0) ⟨rfl, yn_uq eb e⟩) | (exfalso; omega) | (exfalso; grind))
theorem p_164 (hX : tb.2.1 = strB) (h : TOP r S m) : JT tb 164 308 [vr 0] [vr 300] False [] S m := by
  intro d K hV hE
  obtain ⟨⟨e301, ri, hR, hl⟩, -⟩ := id h
  obtain ⟨hA, hS, hGV, hN, hG⟩ := id ri
  have b3 := hA.2.1.1
  have b4 := hA.2.1.2.1
  have b5 := hA.2.1.2.2.1
  refine w_164 hR hA hGV ?_
  · intro T v e fF
    refine hV v T m (fun z => z.elim) GRW_r (NX (TOP_c h (fun a ha => fF a (by omega)) LM_r) (fun S2 h9 => ?_))
    intro d2 K2 k2
    have e9 := h9.1.1
    subst e9
    refine q_308 (AB_B hA) (fun b eb _ => by first | (exact k2 _ _ _ _ (EN_th h9 0) ⟨rfl, isMinP_uq eb e (fun _ _ _ => Iff.rfl) (fun _ _ _ => rfl)⟩) | (exfalso; omega) | (exfalso; grind))
theorem p_167 (hX : tb.2.1 = strB) (h : TOP r S m) : JT tb 167 335 [vr 0] [vr 300] False [] S m := by
  intro d K hV hE
  obtain ⟨⟨e301, ri, hR, hl⟩, -⟩ := id h
  obtain ⟨hA, hS, hGV, hN, hG⟩ := id ri
  have b3 := hA.2.1.1
  have b4 := hA.2.1.2.1
  have b5 := hA.2.1.2.2.1
  refine w_167 hR hA hGV ?_
  · intro v e
    refine hV v S m (fun z => z.elim) GRW_r (NX h (fun S2 h9 => ?_))
    intro d2 K2 k2
    have e9 := h9.1.1
    subst e9
    refine q_335 (AB_B hA) (fun b eb => by first | (exact k2 _ _ _ _ (EN_th h9 0) ⟨rfl, eb.trans e.symm⟩) | (exfalso; omega) | (exfalso; grind))
theorem p_168 {k : Int} (r_k : R32 k) (hX : tb.2.1 = strB) (h : TOP r S m) : JT tb 168 336 [vr 0, vi k] [vr 300, vi k] True [(2, 1)] S m := by
  intro d K hV hE
  obtain ⟨⟨e301, ri, hR, hl⟩, -⟩ := id h
  obtain ⟨hA, hS, hGV, hN, hG⟩ := id ri
  have b3 := hA.2.1.1
  have b4 := hA.2.1.2.1
  have b5 := hA.2.1.2.2.1
  refine w_168 hR hA r_k ?_ ?_
  · intro z1
    refine hE 2 1 S (mthrow m) (by simp) GRW_th (NX (TOP_q h (fun _ _ => rfl) (fun _ _ => rfl) LM_th) (fun S2 h9 => ?_))
    intro d2 K2 k2
    have e9 := h9.1.1
    subst e9
    refine q_336 (AB_B hA) r_k (fun y1 => by first | (exact k2 _ _ _ _ (EN_th h9 1) rfl) | (exfalso; omega) | (exfalso; grind)) (fun b y1 eb => by first | (exfalso; omega) | (exfalso; grind))
  · intro v z1 e
    refine hV v S m (fun _ => R32_set b4 e) GRW_r (NX h (fun S2 h9 => ?_))
    intro d2 K2 k2
    have e9 := h9.1.1
    subst e9
    refine q_336 (AB_B hA) r_k (fun y1 => by first | (exfalso; omega) | (exfalso; grind)) (fun b y1 eb => by first | (exact k2 _ _ _ _ (EN_th h9 0) ⟨rfl, eb.trans e.symm⟩) | (exfalso; omega) | (exfalso; grind))
theorem p_170 (hX : tb.2.1 = strB) (h : TOP r S m) : JT tb 170 316 [vr 0] [vr 300] False [] S m := by
  intro d K hV hE
  obtain ⟨⟨e301, ri, hR, hl⟩, -⟩ := id h
  obtain ⟨hA, hS, hGV, hN, hG⟩ := id ri
  have b3 := hA.2.1.1
  have b4 := hA.2.1.2.1
  have b5 := hA.2.1.2.2.1
  refine w_170 hR hA ?_
  · intro v e
    refine hV v S m (fun z => z.elim) GRW_r (NX h (fun S2 h9 => ?_))
    intro d2 K2 k2
    have e9 := h9.1.1
    subst e9
    refine q_316 (AB_B hA) (AB_D hA) (fun b eb => by first | (exact k2 _ _ _ _ (EN_th h9 0) ⟨rfl, isRing_uq eb (ring_is hA hN e)⟩) | (exfalso; omega) | (exfalso; grind))
theorem p_171 (hX : tb.2.1 = strB) (h : TOP r S m) : JT tb 171 317 [vr 0] [vr 300] False [] S m := by
  intro d K hV hE
  obtain ⟨⟨e301, ri, hR, hl⟩, -⟩ := id h
  obtain ⟨hA, hS, hGV, hN, hG⟩ := id ri
  have b3 := hA.2.1.1
  have b4 := hA.2.1.2.1
  have b5 := hA.2.1.2.2.1
  refine w_171 hR hA ?_
  · intro v e
    refine hV v S m (fun z => z.elim) GRW_r (NX h (fun S2 h9 => ?_))
    intro d2 K2 k2
    have e9 := h9.1.1
    subst e9
    refine q_317 (AB_B hA) (fun b eb => by first | (exact k2 _ _ _ _ (EN_th h9 0) ⟨rfl, isMax_uq eb e (fun _ _ _ => rfl)⟩) | (exfalso; omega) | (exfalso; grind))
theorem p_172 (hX : tb.2.1 = strB) (h : TOP r S m) : JT tb 172 318 [vr 0] [vr 300] False [] S m := by
  intro d K hV hE
  obtain ⟨⟨e301, ri, hR, hl⟩, -⟩ := id h
  obtain ⟨hA, hS, hGV, hN, hG⟩ := id ri
  have b3 := hA.2.1.1
  have b4 := hA.2.1.2.1
  have b5 := hA.2.1.2.2.1
  refine w_172 hR hA ?_
  · intro v e
    refine hV v S m (fun z => z.elim) GRW_r (NX h (fun S2 h9 => ?_))
    intro d2 K2 k2
    have e9 := h9.1.1
    subst e9
    refine q_318 (AB_B hA) (fun b eb => by first | (exact k2 _ _ _ _ (EN_th h9 0) ⟨rfl, eb.trans e.symm⟩) | (exfalso; omega) | (exfalso; grind))
theorem p_173 (hX : tb.2.1 = strB) (h : TOP r S m) : JT tb 173 320 [vr 0] [vr 300] False [] S m := by
  intro d K hV hE
  obtain ⟨⟨e301, ri, hR, hl⟩, -⟩ := id h
  obtain ⟨hA, hS, hGV, hN, hG⟩ := id ri
  have b3 := hA.2.1.1
  have b4 := hA.2.1.2.1
  have b5 := hA.2.1.2.2.1
  refine w_173 hR hA ?_
  · intro v e
    refine hV v S m (fun z => z.elim) GRW_r (NX h (fun S2 h9 => ?_))
    intro d2 K2 k2
    have e9 := h9.1.1
    subst e9
    refine q_320 (AB_B hA) h9.2.2.2.2.2.1 (fun b eb => by first | (exact k2 _ _ _ _ (EN_th h9 0) ⟨rfl, yn_uq eb e⟩) | (exfalso; omega) | (exfalso; grind))
theorem p_174 (hX : tb.2.1 = strB) (h : TOP r S m) : JT tb 174 321 [vr 0] [vr 300] False [] S m := by
  intro d K hV hE
  obtain ⟨⟨e301, ri, hR, hl⟩, -⟩ := id h
  obtain ⟨hA, hS, hGV, hN, hG⟩ := id ri
  have b3 := hA.2.1.1
  have b4 := hA.2.1.2.1
  have b5 := hA.2.1.2.2.1
  refine w_174 hR hA ?_
  · intro v e
    refine hV v S m (fun z => z.elim) GRW_r (NX h (fun S2 h9 => ?_))
    intro d2 K2 k2
    have e9 := h9.1.1
    subst e9
    refine q_321 (AB_B hA) h9.2.2.2.2.2.1 (fun b eb => by first | (exact k2 _ _ _ _ (EN_th h9 0) ⟨rfl, isFst_uq eb e (fun _ _ _ => Iff.rfl)⟩) | (exfalso; omega) | (exfalso; grind))
theorem p_175 {f n : Int} (r_f : R32 f) (r_n : R32 n) (hX : tb.2.1 = strB) (h : TOP r S m) : JT tb 175 327 [vr 0, vi f, vi n] [vr 300, vi f, vi n] True [(2, 1), (1, 2)] S m := by
  intro d K hV hE
  obtain ⟨⟨e301, ri, hR, hl⟩, -⟩ := id h
  obtain ⟨hA, hS, hGV, hN, hG⟩ := id ri
  have b3 := hA.2.1.1
  have b4 := hA.2.1.2.1
  have b5 := hA.2.1.2.2.1
  refine w_175 hR hA r_f r_n ?_ ?_ ?_
  · intro z1
    refine hE 2 1 S (mthrow m) (by simp) GRW_th (NX (TOP_q h (fun _ _ => rfl) (fun _ _ => rfl) LM_th) (fun S2 h9 => ?_))
    intro d2 K2 k2
    have e9 := h9.1.1
    subst e9
    refine q_327 (AB_B hA) (AB_C hA) r_f r_n (fun y1 => by first | (exact k2 _ _ _ _ (EN_th h9 1) rfl) | (exfalso; omega) | (exfalso; grind)) (fun y1 y2 => by first | (exact k2 _ _ _ _ (EN_th h9 2) rfl) | (exfalso; omega) | (exfalso; grind)) (fun T2 b y1 y2 eb x => by first | (exfalso; omega) | (exfalso; grind))
  · intro z1 z2
    refine hE 1 2 S (mthrow m) (by simp) GRW_th (NX (TOP_q h (fun _ _ => rfl) (fun _ _ => rfl) LM_th) (fun S2 h9 => ?_))
    intro d2 K2 k2
    have e9 := h9.1.1
    subst e9
    refine q_327 (AB_B hA) (AB_C hA) r_f r_n (fun y1 => by first | (exact k2 _ _ _ _ (EN_th h9 1) rfl) | (exfalso; omega) | (exfalso; grind)) (fun y1 y2 => by first | (exact k2 _ _ _ _ (EN_th h9 2) rfl) | (exfalso; omega) | (exfalso; grind)) (fun T2 b y1 y2 eb x => by first | (exfalso; omega) | (exfalso; grind))
  · intro T v z1 z2 e fF
    refine hV v T m (fun _ => R32_of (by have a := shH_R (F := fr r) (nf := r 3) n.toNat f; omega)) GRW_r (NX (TOP_c h (fun a ha => fF a (by omega)) LM_r) (fun S2 h9 => ?_))
    intro d2 K2 k2
    have e9 := h9.1.1
    subst e9
    refine q_327 (AB_B hA) (AB_C hA) r_f r_n (fun y1 => by first | (exfalso; omega) | (exfalso; grind)) (fun y1 y2 => by first | (exfalso; omega) | (exfalso; grind)) (fun T2 b y1 y2 eb x => by first | (exact k2 _ _ _ _ (EN_R h9 x) ⟨rfl, eb.trans e.symm⟩) | (exfalso; omega) | (exfalso; grind))
theorem p_177 {p f : Int} (r_p : R32 p) (r_f : R32 f) (hX : tb.2.1 = strB) (h : TOP r S m) : JT tb 177 330 [vr 0, vi p, vi f] [vr 300, vi p, vi f] True [(2, 1)] S m := by
  intro d K hV hE
  obtain ⟨⟨e301, ri, hR, hl⟩, -⟩ := id h
  obtain ⟨hA, hS, hGV, hN, hG⟩ := id ri
  have b3 := hA.2.1.1
  have b4 := hA.2.1.2.1
  have b5 := hA.2.1.2.2.1
  refine w_177 hR hA r_p r_f hl ?_ ?_
  · intro z1
    refine hE 2 1 S (mthrow m) (by simp) GRW_th (NX (TOP_q h (fun _ _ => rfl) (fun _ _ => rfl) LM_th) (fun S2 h9 => ?_))
    intro d2 K2 k2
    have e9 := h9.1.1
    subst e9
    refine q_330 (askM_L hX) (askD_L hX) hA hG r_p r_f (fun y1 => by first | (exact k2 _ _ _ _ (EN_th h9 1) rfl) | (exfalso; omega) | (exfalso; grind)) (fun T2 b y1 y2 eb x => by first | (exfalso; omega) | (exfalso; grind))
  · intro T m1 v z1 z2 e fF uM
    refine hV v T m1 (fun _ => R32_set (n := 4) (by omega) e) (GRW_S uM) (NX (TOP_c h (fun a ha => fF a (by omega)) (LM_S uM)) (fun S2 h9 => ?_))
    intro d2 K2 k2
    have e9 := h9.1.1
    subst e9
    refine q_330 (askM_L hX) (askD_L hX) hA hG r_p r_f (fun y1 => by first | (exfalso; omega) | (exfalso; grind)) (fun T2 b y1 y2 eb x => by first | (exact k2 _ _ _ _ (EN_Q h9 x) ⟨rfl, eb.trans e.symm⟩) | (exfalso; omega) | (exfalso; grind))
theorem p_180 {n k : Int} (r_n : R32 n) (r_k : R32 k) (hX : tb.2.1 = strB) (h : TOP r S m) : JT tb 180 331 [vr 0, vi n, vi k] [vr 300, vi n, vi k] True [(1, 1)] S m := by
  intro d K hV hE
  obtain ⟨⟨e301, ri, hR, hl⟩, -⟩ := id h
  obtain ⟨hA, hS, hGV, hN, hG⟩ := id ri
  have b3 := hA.2.1.1
  have b4 := hA.2.1.2.1
  have b5 := hA.2.1.2.2.1
  refine w_180 hR hA r_n r_k ?_ ?_
  · intro z1
    refine hE 1 1 S (mthrow m) (by simp) GRW_th (NX (TOP_q h (fun _ _ => rfl) (fun _ _ => rfl) LM_th) (fun S2 h9 => ?_))
    intro d2 K2 k2
    have e9 := h9.1.1
    subst e9
    refine q_331 (AB_B hA) (AB_C hA) r_n r_k (fun y1 => by first | (exact k2 _ _ _ _ (EN_th h9 1) rfl) | (exfalso; omega) | (exfalso; grind)) (fun b y1 y2 eb => by first | (exfalso; omega) | (exfalso; grind))
  · intro T v z1 z2 e fF
    refine hV v T m (fun _ => od_R z1 z2 hA.2.1.2.2.2.2.2.1 e) GRW_r (NX (TOP_c h (fun a ha => fF a (by omega)) LM_r) (fun S2 h9 => ?_))
    intro d2 K2 k2
    have e9 := h9.1.1
    subst e9
    refine q_331 (AB_B hA) (AB_C hA) r_n r_k (fun y1 => by first | (exfalso; omega) | (exfalso; grind)) (fun b y1 y2 eb => by first | (exact k2 _ _ _ _ (EN_th h9 0) ⟨rfl, eb.trans e.symm⟩) | (exfalso; omega) | (exfalso; grind))
theorem p_181 {w : Int} (r_w : R32 w) (hX : tb.2.1 = strB) (h : TOP r S m) : JT tb 181 333 [vr 0, vi w] [vr 300, vi w] True [(4, 1)] S m := by
  intro d K hV hE
  obtain ⟨⟨e301, ri, hR, hl⟩, -⟩ := id h
  obtain ⟨hA, hS, hGV, hN, hG⟩ := id ri
  have b3 := hA.2.1.1
  have b4 := hA.2.1.2.1
  have b5 := hA.2.1.2.2.1
  refine w_181 hR hA r_w ?_ ?_
  · intro z1
    refine hE 4 1 S (mthrow m) (by simp) GRW_th (NX (TOP_q h (fun _ _ => rfl) (fun _ _ => rfl) LM_th) (fun S2 h9 => ?_))
    intro d2 K2 k2
    have e9 := h9.1.1
    subst e9
    refine q_333 (AB_B hA) r_w (fun y1 => by first | (exact k2 _ _ _ _ (EN_th h9 1) rfl) | (exfalso; omega) | (exfalso; grind)) (fun b y1 eb => by first | (exfalso; omega) | (exfalso; grind))
  · intro v z1 e
    refine hV v S m (fun _ => isMax_R (by split <;> omega) e) GRW_r (NX h (fun S2 h9 => ?_))
    intro d2 K2 k2
    have e9 := h9.1.1
    subst e9
    refine q_333 (AB_B hA) r_w (fun y1 => by first | (exfalso; omega) | (exfalso; grind)) (fun b y1 eb => by first | (exact k2 _ _ _ _ (EN_th h9 0) ⟨rfl, isMax_uq eb e (fun _ _ _ => rfl)⟩) | (exfalso; omega) | (exfalso; grind))
theorem p_185 {w : Int} (r_w : R32 w) (hX : tb.2.1 = strB) (h : TOP r S m) : JT tb 185 334 [vr 0, vi w] [vr 300, vi w] False [] S m := by
  intro d K hV hE
  obtain ⟨⟨e301, ri, hR, hl⟩, -⟩ := id h
  obtain ⟨hA, hS, hGV, hN, hG⟩ := id ri
  have b3 := hA.2.1.1
  have b4 := hA.2.1.2.1
  have b5 := hA.2.1.2.2.1
  refine w_185 hR hA r_w ?_
  · intro v e1 e2
    refine hV v S m (fun z => z.elim) GRW_r (NX h (fun S2 h9 => ?_))
    intro d2 K2 k2
    have e9 := h9.1.1
    subst e9
    refine q_334 (AB_B hA) r_w (fun b f1 f2 => by first | (exact k2 _ _ _ _ (EN_th h9 0) ⟨rfl, by by_cases z : w = 0; exact (f1 z).trans (e1 z).symm; exact (f2 z).trans (e2 z).symm⟩) | (exfalso; omega) | (exfalso; grind))
theorem p_190 {p w : Int} (r_p : R32 p) (r_w : R32 w) (hX : tb.2.1 = strB) (h : TOP r S m) : JT tb 190 341 [vr 0, vi p, vi w] [vr 300, vi p, vi w] True [(2, 1)] S m := by
  intro d K hV hE
  obtain ⟨⟨e301, ri, hR, hl⟩, -⟩ := id h
  obtain ⟨hA, hS, hGV, hN, hG⟩ := id ri
  have b3 := hA.2.1.1
  have b4 := hA.2.1.2.1
  have b5 := hA.2.1.2.2.1
  refine w_190 hR hA r_p r_w ?_ ?_
  · intro z1
    refine hE 2 1 S (mthrow m) (by simp) GRW_th (NX (TOP_q h (fun _ _ => rfl) (fun _ _ => rfl) LM_th) (fun S2 h9 => ?_))
    intro d2 K2 k2
    have e9 := h9.1.1
    subst e9
    refine q_341 (AB_B hA) (AB_C hA) r_p r_w (fun y1 => by first | (exact k2 _ _ _ _ (EN_th h9 1) rfl) | (exfalso; omega) | (exfalso; grind)) (fun b y1 f1 f2 => by first | (exfalso; omega) | (exfalso; grind))
  · intro v z1 e1 e2
    refine hV v S m (fun _ => led_R hA e1 e2) GRW_r (NX h (fun S2 h9 => ?_))
    intro d2 K2 k2
    have e9 := h9.1.1
    subst e9
    refine q_341 (AB_B hA) (AB_C hA) r_p r_w (fun y1 => by first | (exfalso; omega) | (exfalso; grind)) (fun b y1 f1 f2 => by first | (exact k2 _ _ _ _ (EN_th h9 0) ⟨rfl, led_uq (fun z => (f1 z).trans (e1 z).symm) f2 e2⟩) | (exfalso; omega) | (exfalso; grind))
theorem p_191 {k w : Int} (r_k : R32 k) (r_w : R32 w) (hX : tb.2.1 = strB) (h : TOP r S m) : JT tb 191 342 [vr 0, vi k, vi w] [vr 300, vi k, vi w] True [(4, 1)] S m := by
  intro d K hV hE
  obtain ⟨⟨e301, ri, hR, hl⟩, -⟩ := id h
  obtain ⟨hA, hS, hGV, hN, hG⟩ := id ri
  have b3 := hA.2.1.1
  have b4 := hA.2.1.2.1
  have b5 := hA.2.1.2.2.1
  refine w_191 hR hA r_k r_w ?_ ?_
  · intro z1
    refine hE 4 1 S (mthrow m) (by simp) GRW_th (NX (TOP_q h (fun _ _ => rfl) (fun _ _ => rfl) LM_th) (fun S2 h9 => ?_))
    intro d2 K2 k2
    have e9 := h9.1.1
    subst e9
    refine q_342 (AB_B hA) (AB_C hA) r_k r_w (fun y1 => by first | (exact k2 _ _ _ _ (EN_th h9 1) rfl) | (exfalso; omega) | (exfalso; grind)) (fun b y1 f1 f2 => by first | (exfalso; omega) | (exfalso; grind))
  · intro v z1 e
    refine hV v S m (fun _ => log_R hA z1 e) GRW_r (NX h (fun S2 h9 => ?_))
    intro d2 K2 k2
    have e9 := h9.1.1
    subst e9
    refine q_342 (AB_B hA) (AB_C hA) r_k r_w (fun y1 => by first | (exfalso; omega) | (exfalso; grind)) (fun b y1 f1 f2 => by first | (exact k2 _ _ _ _ (EN_th h9 0) ⟨rfl, by by_cases z : 0 ≤ k ∧ k < (S2 301) 11; exact (f1 z).trans (e.trans (if_pos z)).symm; exact (f2 z).trans (e.trans (if_neg z)).symm⟩) | (exfalso; omega) | (exfalso; grind))
theorem p_186 {f n w : Int} (r_f : R32 f) (r_n : R32 n) (r_w : R32 w) (hX : tb.2.1 = strB) (h : TOP r S m) : JT tb 186 337 [vr 0, vi f, vi n, vi w] [vr 300, vi f, vi n, vi w] True [(2, 1), (1, 2)] S m := by
  intro d K hV hE
  obtain ⟨⟨e301, ri, hR, hl⟩, -⟩ := id h
  obtain ⟨hA, hS, hGV, hN, hG⟩ := id ri
  have b3 := hA.2.1.1
  have b4 := hA.2.1.2.1
  have b5 := hA.2.1.2.2.1
  refine w_186 hR hA r_f r_n r_w hl ?_ ?_ ?_
  · intro z1
    refine hE 2 1 S (mthrow m) (by simp) GRW_th (NX (TOP_q h (fun _ _ => rfl) (fun _ _ => rfl) LM_th) (fun S2 h9 => ?_))
    intro d2 K2 k2
    have e9 := h9.1.1
    subst e9
    refine q_337 (askM_L hX) hA hG r_f r_n r_w (fun y1 => by first | (exact k2 _ _ _ _ (EN_th h9 1) rfl) | (exfalso; omega) | (exfalso; grind)) (fun y1 y2 => by first | (exact k2 _ _ _ _ (EN_th h9 2) rfl) | (exfalso; omega) | (exfalso; grind)) (fun T2 b y1 y2 f1 f2 x => by first | (exfalso; omega) | (exfalso; grind))
  · intro z1 z2
    refine hE 1 2 S (mthrow m) (by simp) GRW_th (NX (TOP_q h (fun _ _ => rfl) (fun _ _ => rfl) LM_th) (fun S2 h9 => ?_))
    intro d2 K2 k2
    have e9 := h9.1.1
    subst e9
    refine q_337 (askM_L hX) hA hG r_f r_n r_w (fun y1 => by first | (exact k2 _ _ _ _ (EN_th h9 1) rfl) | (exfalso; omega) | (exfalso; grind)) (fun y1 y2 => by first | (exact k2 _ _ _ _ (EN_th h9 2) rfl) | (exfalso; omega) | (exfalso; grind)) (fun T2 b y1 y2 f1 f2 x => by first | (exfalso; omega) | (exfalso; grind))
  · intro T m1 v z1 z2 e1 e2 fF uM
    refine hV v T m1 (fun _ => go_R1 ri z1 e1 e2) (GRW_S uM) (NX (TOP_c h (fun a ha => fF a (by omega)) (LM_S uM)) (fun S2 h9 => ?_))
    intro d2 K2 k2
    have e9 := h9.1.1
    subst e9
    refine q_337 (askM_L hX) hA hG r_f r_n r_w (fun y1 => by first | (exfalso; omega) | (exfalso; grind)) (fun y1 y2 => by first | (exfalso; omega) | (exfalso; grind)) (fun T2 b y1 y2 f1 f2 x => by first | (exact k2 _ _ _ _ (EN_Q h9 x) ⟨rfl, by by_cases z : w = 0; exact (f2 z).trans (e2 z).symm; exact (f1 z).trans (e1 z).symm⟩) | (exfalso; omega) | (exfalso; grind))
theorem p_187 {n w : Int} (r_n : R32 n) (r_w : R32 w) (hX : tb.2.1 = strB) (h : TOP r S m) : JT tb 187 338 [vr 0, vi n, vi w] [vr 300, vi n, vi w] True [(1, 1)] S m := by
  intro d K hV hE
  obtain ⟨⟨e301, ri, hR, hl⟩, -⟩ := id h
  obtain ⟨hA, hS, hGV, hN, hG⟩ := id ri
  have b3 := hA.2.1.1
  have b4 := hA.2.1.2.1
  have b5 := hA.2.1.2.2.1
  refine w_187 hR hA r_n r_w hl ?_ ?_
  · intro z1
    refine hE 1 1 S (mthrow m) (by simp) GRW_th (NX (TOP_q h (fun _ _ => rfl) (fun _ _ => rfl) LM_th) (fun S2 h9 => ?_))
    intro d2 K2 k2
    have e9 := h9.1.1
    subst e9
    refine q_338 (askM_L hX) hA hG r_n r_w (fun y1 => by first | (exact k2 _ _ _ _ (EN_th h9 1) rfl) | (exfalso; omega) | (exfalso; grind)) (fun T2 b y1 f1 f2 x => by first | (exfalso; omega) | (exfalso; grind))
  · intro T m1 v z1 e1 e2 fF uM
    refine hV v T m1 (fun _ => go_R2 ri e1 e2) (GRW_S uM) (NX (TOP_c h (fun a ha => fF a (by omega)) (LM_S uM)) (fun S2 h9 => ?_))
    intro d2 K2 k2
    have e9 := h9.1.1
    subst e9
    refine q_338 (askM_L hX) hA hG r_n r_w (fun y1 => by first | (exfalso; omega) | (exfalso; grind)) (fun T2 b y1 f1 f2 x => by first | (exact k2 _ _ _ _ (EN_Q h9 x) ⟨rfl, by by_cases z : w = 0; exact (f2 z).trans (e2 z).symm; exact (f1 z).trans (e1 z).symm⟩) | (exfalso; omega) | (exfalso; grind))
theorem p_188 {n w : Int} (r_n : R32 n) (r_w : R32 w) (hX : tb.2.1 = strB) (h : TOP r S m) : JT tb 188 339 [vr 0, vi n, vi w] [vr 300, vi n, vi w] True [(1, 1)] S m := by
  intro d K hV hE
  obtain ⟨⟨e301, ri, hR, hl⟩, -⟩ := id h
  obtain ⟨hA, hS, hGV, hN, hG⟩ := id ri
  have b3 := hA.2.1.1
  have b4 := hA.2.1.2.1
  have b5 := hA.2.1.2.2.1
  refine w_188 hR hA r_n r_w hl ?_ ?_
  · intro z1
    refine hE 1 1 S (mthrow m) (by simp) GRW_th (NX (TOP_q h (fun _ _ => rfl) (fun _ _ => rfl) LM_th) (fun S2 h9 => ?_))
    intro d2 K2 k2
    have e9 := h9.1.1
    subst e9
    refine q_339 (askM_L hX) hA hG r_n r_w (fun y1 => by first | (exact k2 _ _ _ _ (EN_th h9 1) rfl) | (exfalso; omega) | (exfalso; grind)) (fun T2 b y1 eb x => by first | (exfalso; omega) | (exfalso; grind))
  · intro T m1 v z1 e fF uM
    refine hV v T m1 (fun _ => R32_of (by have a := spN_R (c := whN evL r n) (w := w) (fun i => by have := bits_le (setZ (goN evL 1 (putR r 12 i) n.toNat 4) (fun p => wholeM (pr (goN evL 1 (putR r 12 i) n.toNat)) p (pr (goN evL 1 (putR r 12 i) n.toNat) p 0))); unfold whN; omega) 6; omega)) (GRW_S uM) (NX (TOP_c h (fun a ha => fF a (by omega)) (LM_S uM)) (fun S2 h9 => ?_))
    intro d2 K2 k2
    have e9 := h9.1.1
    subst e9
    refine q_339 (askM_L hX) hA hG r_n r_w (fun y1 => by first | (exfalso; omega) | (exfalso; grind)) (fun T2 b y1 eb x => by first | (exact k2 _ _ _ _ (EN_Q h9 x) ⟨rfl, eb.trans e.symm⟩) | (exfalso; omega) | (exfalso; grind))
theorem p_139 {k w : Int} (r_k : R32 k) (r_w : R32 w) (hX : tb.2.1 = strB) (h : TOP r S m) : JT tb 139 279 [vr 0, vi k, vi w] [vr 300, vi k, vi w] True [(2, 1), (4, 2)] S m := by
  intro d K hV hE
  obtain ⟨⟨e301, ri, hR, hl⟩, -⟩ := id h
  obtain ⟨hA, hS, hGV, hN, hG⟩ := id ri
  have b3 := hA.2.1.1
  have b4 := hA.2.1.2.1
  have b5 := hA.2.1.2.2.1
  refine w_139 hR hA r_k r_w ?_ ?_ ?_
  · intro z1
    refine hE 2 1 S (mthrow m) (by simp) GRW_th (NX (TOP_q h (fun _ _ => rfl) (fun _ _ => rfl) LM_th) (fun S2 h9 => ?_))
    intro d2 K2 k2
    have e9 := h9.1.1
    subst e9
    refine q_279 (AB_B hA) r_k r_w (fun y1 => by first | (exact k2 _ _ _ _ (EN_th h9 1) rfl) | (exfalso; omega) | (exfalso; grind)) (fun y1 y2 => by first | (exact k2 _ _ _ _ (EN_th h9 2) rfl) | (exfalso; omega) | (exfalso; grind)) (fun y1 y2 => by first | (exfalso; omega) | (exfalso; grind))
  · intro z1 z2
    refine hE 4 2 S (mthrow m) (by simp) GRW_th (NX (TOP_q h (fun _ _ => rfl) (fun _ _ => rfl) LM_th) (fun S2 h9 => ?_))
    intro d2 K2 k2
    have e9 := h9.1.1
    subst e9
    refine q_279 (AB_B hA) r_k r_w (fun y1 => by first | (exact k2 _ _ _ _ (EN_th h9 1) rfl) | (exfalso; omega) | (exfalso; grind)) (fun y1 y2 => by first | (exact k2 _ _ _ _ (EN_th h9 2) rfl) | (exfalso; omega) | (exfalso; grind)) (fun y1 y2 => by first | (exfalso; omega) | (exfalso; grind))
  · intro z1 z2
    refine hV _ S m (fun _ => R32_of (by have := hA.1 (151 + 3 * k + w) (by omega); show -1000000 ≤ r (151 + 3 * k + w) ∧ r (151 + 3 * k + w) ≤ 1000000; omega)) GRW_r (NX h (fun S2 h9 => ?_))
    intro d2 K2 k2
    have e9 := h9.1.1
    subst e9
    refine q_279 (AB_B hA) r_k r_w (fun y1 => by first | (exfalso; omega) | (exfalso; grind)) (fun y1 y2 => by first | (exfalso; omega) | (exfalso; grind)) (fun y1 y2 => by first | (exact k2 _ _ _ _ (EN_th h9 0) ⟨rfl, rfl⟩) | (exfalso; omega) | (exfalso; grind))
theorem p_156 {n p : Int} (r_n : R32 n) (r_p : R32 p) (hX : tb.2.1 = strB) (h : TOP r S m) : JT tb 156 296 [vr 0, vi n, vi p] [vr 300, vi n, vi p] True [(2, 1), (1, 2)] S m := by
  intro d K hV hE
  obtain ⟨⟨e301, ri, hR, hl⟩, -⟩ := id h
  obtain ⟨hA, hS, hGV, hN, hG⟩ := id ri
  have b3 := hA.2.1.1
  have b4 := hA.2.1.2.1
  have b5 := hA.2.1.2.2.1
  refine w_156 hR hA r_n r_p hl ?_ ?_ ?_
  · intro z1 z2
    refine hE 2 1 S (mthrow m) (by simp) GRW_th (NX (TOP_q h (fun _ _ => rfl) (fun _ _ => rfl) LM_th) (fun S2 h9 => ?_))
    intro d2 K2 k2
    have e9 := h9.1.1
    subst e9
    refine q_296 (askM_L hX) (askD_L hX) EvD_L hA hG r_n r_p (fun y1 y2 => by first | (exact k2 _ _ _ _ (EN_th h9 1) rfl) | (exfalso; omega) | (exfalso; grind)) (fun y1 y2 => by first | (exact k2 _ _ _ _ (EN_th h9 2) rfl) | (exfalso; omega) | (exfalso; grind)) (fun T2 b mo c y1 y2 eb e3 x => by first | (exfalso; omega) | (exfalso; grind))
  · intro z1 z2
    refine hE 1 2 S (mthrow m) (by simp) GRW_th (NX (TOP_q h (fun _ _ => rfl) (fun _ _ => rfl) LM_th) (fun S2 h9 => ?_))
    intro d2 K2 k2
    have e9 := h9.1.1
    subst e9
    refine q_296 (askM_L hX) (askD_L hX) EvD_L hA hG r_n r_p (fun y1 y2 => by first | (exact k2 _ _ _ _ (EN_th h9 1) rfl) | (exfalso; omega) | (exfalso; grind)) (fun y1 y2 => by first | (exact k2 _ _ _ _ (EN_th h9 2) rfl) | (exfalso; omega) | (exfalso; grind)) (fun T2 b mo c y1 y2 eb e3 x => by first | (exfalso; omega) | (exfalso; grind))
  · intro T m1 v z1 z2 e fF uM e2
    refine hV v T m1 (fun _ => till_R hA z2 e e2) (GRW_S uM) (NX (TOP_c h (fun a ha => fF a (by omega) (by omega)) (LM_S uM)) (fun S2 h9 => ?_))
    intro d2 K2 k2
    have e9 := h9.1.1
    subst e9
    refine q_296 (askM_L hX) (askD_L hX) EvD_L hA hG r_n r_p (fun y1 y2 => by first | (exfalso; omega) | (exfalso; grind)) (fun y1 y2 => by first | (exfalso; omega) | (exfalso; grind)) (fun T2 b mo c y1 y2 eb e3 x => by first | (exact k2 _ _ _ _ (EN_V h9 x) ⟨rfl, till_uq b3 b4 e e2 y2 eb e3⟩) | (exfalso; omega) | (exfalso; grind))
theorem p_169 (hX : tb.2.1 = strB) (h : TOP r S m) : JT tb 169 314 [vr 0] [vr 300] False [] S m := by
  intro d K hV hE
  obtain ⟨⟨e301, ri, hR, hl⟩, -⟩ := id h
  obtain ⟨hA, hS, hGV, hN, hG⟩ := id ri
  have b3 := hA.2.1.1
  have b4 := hA.2.1.2.1
  have b5 := hA.2.1.2.2.1
  refine w_169 hR hA ?_
  · intro T v e1 e2 fF
    refine hV v T m (fun z => z.elim) GRW_r (NX (TOP_c h (fun a ha => fF a (by omega)) LM_r) (fun S2 h9 => ?_))
    intro d2 K2 k2
    have e9 := h9.1.1
    subst e9
    refine q_314 (AB_B hA) (fun T2 b f1 f2 x => by first | (exact k2 _ _ _ _ (EN_R h9 x) ⟨rfl, by rw [f2, e2]; exact (settle_eq b4 e1 f1).symm⟩) | (exfalso; omega) | (exfalso; grind))
theorem p_166 {p : Int} (r_p : R32 p) (hX : tb.2.1 = strB) (h : TOP r S m) : JT tb 166 326 [vr 0, vi p] [vr 300, vi p] True [(2, 1)] S m := by
  intro d K hV hE
  obtain ⟨⟨e301, ri, hR, hl⟩, -⟩ := id h
  obtain ⟨hA, hS, hGV, hN, hG⟩ := id ri
  have b3 := hA.2.1.1
  have b4 := hA.2.1.2.1
  have b5 := hA.2.1.2.2.1
  refine w_166 hR hA r_p hGV ?_ ?_
  · intro z1 z2
    refine hE 2 1 S (mthrow m) (by simp) GRW_th (NX (TOP_q h (fun _ _ => rfl) (fun _ _ => rfl) LM_th) (fun S2 h9 => ?_))
    intro d2 K2 k2
    have e9 := h9.1.1
    subst e9
    refine q_326 (AB_B hA) r_p (fun y1 y2 => by first | (exact k2 _ _ _ _ (EN_th h9 1) rfl) | (exfalso; omega) | (exfalso; grind)) (fun T2 b e2 e3 x => by first | (exfalso; omega) | (exfalso; grind))
  · intro T v z1 fF e
    refine hV v T m (fun _ => pairs_R b4 e) GRW_r (NX (TOP_c h (fun a ha => fF.1 a (by omega) (by omega) (by omega)) LM_r) (fun S2 h9 => ?_))
    intro d2 K2 k2
    have e9 := h9.1.1
    subst e9
    refine q_326 (AB_B hA) r_p (fun y1 y2 => by first | (exfalso; omega) | (exfalso; grind)) (fun T2 b e2 e3 x => by first | (exact k2 _ _ _ _ (EN_R h9 x) ⟨rfl, pairs_uq b4 e e2 e3⟩) | (exfalso; omega) | (exfalso; grind))
theorem p_165 {p q k : Int} (r_p : R32 p) (r_q : R32 q) (r_k : R32 k) (hX : tb.2.1 = strB) (h : TOP r S m) : JT tb 165 312 [vr 0, vi p, vi q, vi k] [vr 300, vi p, vi q, vi k] True [(2, 1), (1, 2)] S m := by
  intro d K hV hE
  obtain ⟨⟨e301, ri, hR, hl⟩, -⟩ := id h
  obtain ⟨hA, hS, hGV, hN, hG⟩ := id ri
  have b3 := hA.2.1.1
  have b4 := hA.2.1.2.1
  have b5 := hA.2.1.2.2.1
  refine w_165 hR hA r_k r_p r_q hGV ?_ ?_ ?_
  · intro z1
    refine hE 2 1 S (mthrow m) (by simp) GRW_th (NX (TOP_q h (fun _ _ => rfl) (fun _ _ => rfl) LM_th) (fun S2 h9 => ?_))
    intro d2 K2 k2
    have e9 := h9.1.1
    subst e9
    refine q_312 (AB_B hA) r_p r_q r_k (fun y1 => by first | (exact k2 _ _ _ _ (EN_th h9 1) rfl) | (exfalso; omega) | (exfalso; grind)) (fun y1 y2 y3 => by first | (exact k2 _ _ _ _ (EN_th h9 2) rfl) | (exfalso; omega) | (exfalso; grind)) (fun b a2 c2 n2 y1 y2 y3 y4 f1 f2 f3 => by first | (exfalso; omega) | (exfalso; grind))
  · intro z1 z2 z3
    refine hE 1 2 S (mthrow m) (by simp) GRW_th (NX (TOP_q h (fun _ _ => rfl) (fun _ _ => rfl) LM_th) (fun S2 h9 => ?_))
    intro d2 K2 k2
    have e9 := h9.1.1
    subst e9
    refine q_312 (AB_B hA) r_p r_q r_k (fun y1 => by first | (exact k2 _ _ _ _ (EN_th h9 1) rfl) | (exfalso; omega) | (exfalso; grind)) (fun y1 y2 y3 => by first | (exact k2 _ _ _ _ (EN_th h9 2) rfl) | (exfalso; omega) | (exfalso; grind)) (fun b a2 c2 n2 y1 y2 y3 y4 f1 f2 f3 => by first | (exfalso; omega) | (exfalso; grind))
  · intro T v z1 z2 z3 fF e
    refine hV v T m (fun _ => tog_R hA z1 z2 fF e) GRW_r (NX (TOP_c h (fun a ha => fF.1 a (by omega) (by omega)) LM_r) (fun S2 h9 => ?_))
    intro d2 K2 k2
    have e9 := h9.1.1
    subst e9
    refine q_312 (AB_B hA) r_p r_q r_k (fun y1 => by first | (exfalso; omega) | (exfalso; grind)) (fun y1 y2 y3 => by first | (exfalso; omega) | (exfalso; grind)) (fun b a2 c2 n2 y1 y2 y3 y4 f1 f2 f3 => by first | (exact k2 _ _ _ _ (EN_th h9 0) ⟨rfl, tog_uq (P := pr (S2 301)) z1 z2 z3 fF e y4 f1 f2 f3⟩) | (exfalso; omega) | (exfalso; grind))
end Pair0
