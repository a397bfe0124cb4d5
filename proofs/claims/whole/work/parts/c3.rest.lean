/-! ===== BOTH SIDES TOGETHER: the tape, the texts, undone, kept ===== -/
section Pair3
variable {tb : Tab} {r : Int → Int} {S : Nat → Int → Int} {m : AM}
/-- twenty bytes are fed -/
theorem p_128 {a b c e f : Int} (h : TOP r S m) : JT tb 128 218 [vr 0, vi a, vi b, vi c, vi e, vi f] [vr 300, vi a, vi b, vi c, vi e, vi f] False [] S m := by
  intro d K hV hE
  obtain ⟨-, ⟨t1, t2, t3, t4⟩, cc, -⟩ := id h
  refine w_128 (by rw [t1]; exact t2) ?_ ?_
  · intro z1
    refine hV _ S m (fun z => z.elim) GRW_r (fun S2 s2 => ?_)
    intro d2 K2 k2
    have s300 : S2 300 = S 300 := s2 300 (by decide)
    refine q_218 (by rw [s300]; exact t2) ?_ ?_
    · intro _
      exact k2 _ _ _ _ (EN_th (TOP_316 h s2) 0) ⟨rfl, rfl⟩
    · intro T x y
      rw [s300] at y
      omega
  · intro z1
    refine hV _ _ m (fun z => z.elim) GRW_r (fun S2 s2 => ?_)
    intro d2 K2 k2
    have s300 : S2 300 = S 300 := (s2 300 (by decide)).trans (fdT_o (by decide) (by decide))
    refine q_218 (by rw [s300]; exact t2) ?_ ?_
    · intro y
      rw [s300] at y
      omega
    · intro T x y eT ex
      have E300 : ∀ j, T 300 j = if j = 8 then S 300 8 + 20 else if j = 0 then 0 else S 300 j := fun j => by
        rw [eT]
        show (if j = 8 then upS S2 300 0 0 300 8 + 20 else upS S2 300 0 0 300 j) = _
        have p8 : upS S2 300 0 0 300 8 = S 300 8 := by rw [upS_at, if_neg (by decide), s300]
        have pj : upS S2 300 0 0 300 j = if j = 0 then 0 else S 300 j := by
          rw [upS_at, s300]
          by_cases z0 : j = 0
          · rw [if_pos ⟨rfl, z0⟩, if_pos z0]
          · rw [if_neg (fun q => z0 q.2), if_neg z0]
        rw [p8, pj]
      have E305 : T 305 = fun j => if S 300 8 ≤ j ∧ j < S 300 8 + 20 then fdV a b c e f (j - S 300 8) else S 305 j := by
        rw [eT]
        show (fun j => if upS S2 300 0 0 300 8 ≤ j ∧ j < upS S2 300 0 0 300 8 + 20 then fdV a b c e f (j - upS S2 300 0 0 300 8) else upS S2 300 0 0 305 j) = _
        rw [show upS S2 300 0 0 300 8 = S 300 8 from by rw [upS_at, if_neg (by decide), s300], show upS S2 300 0 0 305 = S 305 from (up_lit (by decide)).trans ((s2 305 (by decide)).trans (fdT_o (by decide) (by decide)))]
      have Ea : ∀ a', a' ≠ 300 → a' ≠ 305 → T a' = S2 a' := fun a' h0 h1 => by
        rw [eT]
        show (if a' = 305 then _ else if a' = 300 then _ else upS S2 300 0 0 a') = _
        rw [if_neg h1, if_neg h0]
        exact up_lit h0
      have E0 : ∀ j, T 0 j = if j = 1 then S 0 1 + 20 else S 0 j := fun j => by rw [Ea 0 (by decide) (by decide), s2 0 (by decide), fdT_0]
      have E1 : T 1 = fun j => if S 300 8 ≤ j ∧ j < S 300 8 + 20 then fdV a b c e f (j - S 300 8) else S 305 j := by rw [Ea 1 (by decide) (by decide), s2 1 (by decide), fdT_1, t1, t3]
      refine k2 T _ r 0 ⟨TOP_tp h (fun a' ha h0 h1 h5 => ?_) (fun j hj => by rw [E0, if_neg (by omega)]) (fun j hj => by rw [E300, if_neg (by omega), if_neg (by omega)]) ⟨by rw [E0, if_pos rfl, E300, if_pos rfl, t1], by rw [E300, if_pos rfl]; omega, by rw [E1, E305], fun j j0 j1 => ?_⟩ (by rw [E0, if_neg (by decide), E300, if_neg (by decide), if_neg (by decide)]; exact cc) LM_r, Ea 316 (by decide) (by decide), by rw [E300, if_neg (by decide), if_pos rfl]⟩ ⟨rfl, by rw [ex, s300, t1]⟩
      · rw [Ea a' (by unfold CL at ha; omega) h5, s2 a' (by unfold CL at ha; omega)]
        exact fdT_o h1 h0
      · rw [E305]
        dsimp only
        split
        · exact fd_rg _ _ _ _ _ _
        · exact t4 j j0 j1
/-- where the tape ends -/
theorem p_130 {n : Int} (r_n : R32 n) (h : TOP r S m) : JT tb 130 219 [vr 0, vi n] [vr 300, vi n] False [] S m := by
  intro d K hV hE
  obtain ⟨-, ⟨t1, t2, t3, t4⟩, cc, -⟩ := id h
  refine w_130 (by rw [t1]; exact t2) r_n ?_ ?_
  · intro z1
    refine hV _ S m (fun z => z.elim) GRW_r (fun S2 s2 => ?_)
    intro d2 K2 k2
    have s300 : S2 300 = S 300 := s2 300 (by decide)
    refine q_219 (by rw [s300]; exact t2) r_n ?_ ?_
    · intro _
      exact k2 _ _ _ _ (EN_th (TOP_316 h s2) 0) ⟨rfl, rfl⟩
    · intro y
      rw [s300, ← t1] at y
      exact absurd y z1
  · intro z1
    refine hV _ _ m (fun z => z.elim) GRW_r (fun S2 s2 => ?_)
    intro d2 K2 k2
    have s300 : S2 300 = S 300 := s2 300 (by decide)
    refine q_219 (by rw [s300]; exact t2) r_n ?_ ?_
    · intro y
      rw [s300, ← t1] at y
      exact absurd z1 y
    · intro y
      have u1 : upS (upS S2 300 0 0) 300 8 n 1 = upS (upS S2 300 0 0) 300 8 n 305 := by
        rw [up_lit (by decide), up_lit (by decide), up_lit (by decide), up_lit (by decide), s2 1 (by decide), s2 305 (by decide), up_lit (by decide), up_lit (by decide)]
        exact t3
      refine k2 _ _ r 0 ⟨TOP_tp h (fun a' ha h0 h1 h5 => ?_) (fun j hj => ?_) (fun j hj => ?_) ⟨?_, ?_, u1, fun j j0 j1 => ?_⟩ ?_ LM_r, ?_, ?_⟩ ⟨rfl, rfl⟩
      · rw [up_lit (by unfold CL at ha; omega), up_lit (by unfold CL at ha; omega), s2 a' (by unfold CL at ha; omega), up_lit h0]
      · rw [up_lit (by decide), up_lit (by decide), s2 0 (by decide), upS_at, if_neg (by omega)]
      · rw [upS_at, if_neg (by omega), upS_at, if_neg (by omega), s300]
      · rw [up_lit (by decide), up_lit (by decide), s2 0 (by decide), upS_at, if_pos ⟨rfl, rfl⟩, upS_at, if_pos ⟨rfl, rfl⟩]
      · rw [upS_at, if_pos ⟨rfl, rfl⟩]; omega
      · rw [up_lit (by decide), up_lit (by decide), s2 305 (by decide), up_lit (by decide)]; exact t4 j j0 j1
      · rw [up_lit (by decide), up_lit (by decide), s2 0 (by decide), upS_at, if_neg (by decide), upS_at, if_neg (by decide), upS_at, if_neg (by decide), s300]; exact cc
      · rw [up_lit (by decide), up_lit (by decide)]
      · rw [upS_at, if_neg (by decide), upS_at, if_pos ⟨rfl, rfl⟩]
theorem p_133 (h : TOP r S m) : JT tb 133 248 [vr 0] [vr 300] False [] S m := by
  intro d K hV hE
  obtain ⟨-, -, cc, -⟩ := id h
  refine w_133 ?_
  refine hV _ S m (fun z => z.elim) GRW_r (fun S2 s2 => ?_)
  intro d2 K2 k2
  refine q_248 ?_
  exact k2 _ _ _ _ (EN_th (TOP_316 h s2) 0) ⟨rfl, by rw [s2 300 (by decide)]; exact cc.symm⟩
theorem p_197 {w : Int} (r_w : R32 w) (h : TOP r S m) : JT tb 197 347 [vr 0, vi w] [vr 300, vi w] False [] S m := by
  intro d K hV hE
  obtain ⟨⟨a1, ri, hR, hl⟩, -, -, -, ⟨e1, -⟩, -⟩ := id h
  obtain ⟨hA, -⟩ := id ri
  refine w_197 hR hA r_w hl ?_
  intro v x1 x2 x3 x4 x5 x6 x7 x8
  refine hV _ S m (fun z => z.elim) GRW_r (fun S2 s2 => ?_)
  intro d2 K2 k2
  have s301 : S2 301 = r := (s2 301 (by decide)).trans a1
  have s6 : S2 300 6 = S 0 9 := by rw [s2 300 (by decide)]; exact e1.symm
  have hT := TOP_316 h s2
  subst s301
  refine q_347 (AB_B hA) r_w ?_
  intro b y1 y2 y3 y4 y5 y6 y7 y8
  refine k2 _ _ _ _ (EN_th hT 0) ⟨rfl, ?_⟩
  have c : (0 ≤ w ∧ w ≤ 2) ∨ w = 3 ∨ w = 4 ∨ (5 ≤ w ∧ w ≤ 9) ∨ w = 10 ∨ w = 11 ∨ w = 12 ∨ (w < 0 ∨ 12 < w) := by omega
  rcases c with c | c | c | c | c | c | c | c
  · rw [x1 c, y1 c]
  · rw [x2 c, y2 c]
  · rw [x3 c, y3 c]
  · rw [x4 c, y4 c]
  · rw [x5 c, y5 c]; rfl
  · rw [x6 c, y6 c]
  · rw [x7 c, y7 c, s6]
  · rw [x8 c, y8 c]
/-- the tape is used up -/
theorem EN_u {U : Nat → Int → Int} {S2 : Nat → Int → Int} {c : Int} (h : TOP r S m) (s2 : ∀ a, a ≠ 316 → S2 a = upS S 0 1 0 a) (x : SR (upS (upS S2 300 8 0) 300 0 c) U) : EN r S2 U m c := by
  obtain ⟨-, ⟨t1, t2, t3, t4⟩, cc, -⟩ := id h
  have s300 : S2 300 = S 300 := s2 300 (by decide)
  have ua : ∀ a, a ≠ 300 → (a < 306 ∨ 311 < a) → U a = S2 a := fun a a0 a1 => (x.1 a a0 a1).trans ((up_lit a0).trans (up_lit a0))
  have u3 : ∀ j, j = 3 ∨ j = 6 ∨ j = 12 → U 300 j = S 300 j := fun j hj => by rw [x.2 j (by omega), upS_at, if_neg (by omega), upS_at, if_neg (by omega), s300]
  have u8 : U 300 8 = 0 := by rw [x.2 8 (by omega), upS_at, if_neg (by decide), upS_at, if_pos ⟨rfl, rfl⟩]
  refine ⟨TOP_tp h (fun a' ha h0 h1 h5 => ?_) (fun j hj => ?_) (fun j hj => u3 j (by omega)) ⟨?_, by rw [u8]; omega, ?_, fun j j0 j1 => ?_⟩ ?_ LM_r, ua 316 (by decide) (by decide), by rw [x.2 0 (by omega), upS_at, if_pos ⟨rfl, rfl⟩]⟩
  · rw [ua a' (by unfold CL at ha; omega) (by unfold CL at ha; omega), s2 a' (by unfold CL at ha; omega), up_lit h0]
  · rw [ua 0 (by decide) (by decide), s2 0 (by decide), upS_at, if_neg (by omega)]
  · rw [ua 0 (by decide) (by decide), s2 0 (by decide), upS_at, if_pos ⟨rfl, rfl⟩, u8]
  · rw [ua 1 (by decide) (by decide), ua 305 (by decide) (by decide), s2 1 (by decide), s2 305 (by decide), up_lit (by decide), up_lit (by decide)]; exact t3
  · rw [ua 305 (by decide) (by decide), s2 305 (by decide), up_lit (by decide)]; exact t4 j j0 j1
  · rw [ua 0 (by decide) (by decide), s2 0 (by decide), upS_at, if_neg (by decide), u3 12 (by omega)]; exact cc
theorem p_157 (h : TOP r S m) : JT tb 157 298 [vr 0] [vr 300] True [(1, 1)] S m := by
  intro d K hV hE
  obtain ⟨⟨a1, ri, hR, hl⟩, ⟨t1, t2, t3, t4⟩, cc, -⟩ := id h
  obtain ⟨hA, hS, hGV, hN, hG⟩ := id ri
  have b3 := hA.2.1.1
  have b4 := hA.2.1.2.1
  have t5 : ∀ j, 0 ≤ j → j < 400 → 0 ≤ S 1 j ∧ S 1 j < 256 := by rw [t3]; exact t4
  have key : ∀ (S2 : Nat → Int → Int), (∀ a, a ≠ 316 → S2 a = upS S 0 1 0 a) → S2 301 = r ∧ S2 305 = S 1 ∧ S2 300 8 = S 0 1 ∧ TB S2 := fun S2 s2 => by
    have e5 : S2 305 = S 1 := by rw [s2 305 (by decide), up_lit (by decide), t3]
    exact ⟨by rw [s2 301 (by decide), up_lit (by decide)]; exact a1, e5, by rw [s2 300 (by decide), up_lit (by decide), t1], fun j j0 j1 => by rw [e5]; exact t5 j j0 j1⟩
  refine w_157 hR hA hGV (by rw [t1]; exact t2) t5 ?_ ?_
  · intro z1
    refine hE 1 1 _ _ (by simp) GRW_th (fun S2 s2 => ?_)
    intro d2 K2 k2
    obtain ⟨k1, k5, k8, kB⟩ := key S2 s2
    refine q_298 (AB_B (by rw [k1]; exact hA)) kB (by rw [k8, t1]; exact t2) ?_ ?_
    · intro _
      exact k2 _ _ _ _ (EN_u (TOP_q h (fun _ _ => rfl) (fun _ _ => rfl) LM_th) s2 SR_rf) rfl
    · intro T b y1
      rw [k5, k8] at y1
      exact absurd y1 z1
  · intro v z1 e
    refine hV v _ m (fun _ => R32_set b4 e) GRW_r (fun S2 s2 => ?_)
    intro d2 K2 k2
    obtain ⟨k1, k5, k8, kB⟩ := key S2 s2
    refine q_298 (AB_B (by rw [k1]; exact hA)) kB (by rw [k8, t1]; exact t2) ?_ ?_
    · intro y1
      rw [k5, k8] at y1
      exact absurd z1 y1
    · intro T b y1 eb x
      rw [k5, k8] at eb
      have en := EN_u h s2 x
      subst k1
      exact k2 _ _ _ _ en ⟨rfl, eb.trans e.symm⟩
theorem p_158 (h : TOP r S m) : JT tb 158 299 [vr 0] [vr 300] True [(1, 1)] S m := by
  intro d K hV hE
  obtain ⟨⟨a1, ri, hR, hl⟩, ⟨t1, t2, t3, t4⟩, cc, -⟩ := id h
  obtain ⟨hA, hS, hGV, hN, hG⟩ := id ri
  have b3 := hA.2.1.1
  have b4 := hA.2.1.2.1
  have t5 : ∀ j, 0 ≤ j → j < 400 → 0 ≤ S 1 j ∧ S 1 j < 256 := by rw [t3]; exact t4
  have key : ∀ (S2 : Nat → Int → Int), (∀ a, a ≠ 316 → S2 a = upS S 0 1 0 a) → S2 301 = r ∧ S2 305 = S 1 ∧ S2 300 8 = S 0 1 ∧ TB S2 := fun S2 s2 => by
    have e5 : S2 305 = S 1 := by rw [s2 305 (by decide), up_lit (by decide), t3]
    exact ⟨by rw [s2 301 (by decide), up_lit (by decide)]; exact a1, e5, by rw [s2 300 (by decide), up_lit (by decide), t1], fun j j0 j1 => by rw [e5]; exact t5 j j0 j1⟩
  refine w_158 hR hA hGV (by rw [t1]; exact t2) t5 ?_ ?_
  · intro z1
    refine hE 1 1 _ _ (by simp) GRW_th (fun S2 s2 => ?_)
    intro d2 K2 k2
    obtain ⟨k1, k5, k8, kB⟩ := key S2 s2
    refine q_299 (AB_B (by rw [k1]; exact hA)) kB (by rw [k8, t1]; exact t2) ?_ ?_
    · intro _
      exact k2 _ _ _ _ (EN_u (TOP_q h (fun _ _ => rfl) (fun _ _ => rfl) LM_th) s2 SR_rf) rfl
    · intro T b y1
      rw [k5, k8] at y1
      exact absurd y1 z1
  · intro v z1 e
    refine hV v _ m (fun _ => isMinP_R (by omega) e) GRW_r (fun S2 s2 => ?_)
    intro d2 K2 k2
    obtain ⟨k1, k5, k8, kB⟩ := key S2 s2
    refine q_299 (AB_B (by rw [k1]; exact hA)) kB (by rw [k8, t1]; exact t2) ?_ ?_
    · intro y1
      rw [k5, k8] at y1
      exact absurd z1 y1
    · intro T b y1 eb x
      rw [k5, k8] at eb
      have en := EN_u h s2 x
      subst k1
      exact k2 _ _ _ _ en ⟨rfl, isMinP_uq eb e (fun _ _ _ => Iff.rfl) (fun _ _ _ => rfl)⟩
theorem p_159 (h : TOP r S m) : JT tb 159 301 [vr 0] [vr 300] True [(1, 1)] S m := by
  intro d K hV hE
  obtain ⟨⟨a1, ri, hR, hl⟩, ⟨t1, t2, t3, t4⟩, cc, -⟩ := id h
  obtain ⟨hA, hS, hGV, hN, hG⟩ := id ri
  have b3 := hA.2.1.1
  have b4 := hA.2.1.2.1
  have t5 : ∀ j, 0 ≤ j → j < 400 → 0 ≤ S 1 j ∧ S 1 j < 256 := by rw [t3]; exact t4
  have key : ∀ (S2 : Nat → Int → Int), (∀ a, a ≠ 316 → S2 a = upS S 0 1 0 a) → S2 301 = r ∧ S2 305 = S 1 ∧ S2 300 8 = S 0 1 ∧ TB S2 := fun S2 s2 => by
    have e5 : S2 305 = S 1 := by rw [s2 305 (by decide), up_lit (by decide), t3]
    exact ⟨by rw [s2 301 (by decide), up_lit (by decide)]; exact a1, e5, by rw [s2 300 (by decide), up_lit (by decide), t1], fun j j0 j1 => by rw [e5]; exact t5 j j0 j1⟩
  refine w_159 hR hA hGV (by rw [t1]; exact t2) t5 ?_ ?_
  · intro z1
    refine hE 1 1 _ _ (by simp) GRW_th (fun S2 s2 => ?_)
    intro d2 K2 k2
    obtain ⟨k1, k5, k8, kB⟩ := key S2 s2
    refine q_301 (AB_B (by rw [k1]; exact hA)) kB (by rw [k8, t1]; exact t2) ?_ ?_
    · intro _
      exact k2 _ _ _ _ (EN_u (TOP_q h (fun _ _ => rfl) (fun _ _ => rfl) LM_th) s2 SR_rf) rfl
    · intro T b y1
      rw [k5, k8] at y1
      exact absurd y1 z1
  · intro v z1 e
    refine hV v _ m (fun _ => lookM_R e) GRW_r (fun S2 s2 => ?_)
    intro d2 K2 k2
    obtain ⟨k1, k5, k8, kB⟩ := key S2 s2
    refine q_301 (AB_B (by rw [k1]; exact hA)) kB (by rw [k8, t1]; exact t2) ?_ ?_
    · intro y1
      rw [k5, k8] at y1
      exact absurd z1 y1
    · intro T b y1 eb x
      rw [k5, k8] at eb
      have en := EN_u h s2 x
      subst k1
      exact k2 _ _ _ _ en ⟨rfl, lookM_uq e eb⟩
/-- a seed is told -/
theorem p_192 {n : Int} (h : TOP r S m) : JT tb 192 343 [vr 0, vi n] [vr 300, vi n] False [] S m := by
  intro d K hV hE
  obtain ⟨⟨a1, ri, hR, hl⟩, ⟨t1, t2, t3, t4⟩, cc, ⟨d1, d2', d3, d4, d5⟩, ⟨e1, e2, e3, e4⟩, f1, f2⟩ := id h
  obtain ⟨hA, hS, hGV, hN, hG⟩ := id ri
  refine w_192 hR hA ?_
  refine hV _ _ m (fun z => z.elim) GRW_r (fun S2 s2 => ?_)
  intro d2 K2 k2
  refine q_343 ?_
  intro T eT
  have lq : LQ r (putR r 12 n) := LQ_put (by decide)
  have s301 : S2 301 = r := by rw [s2 301 (by decide), up_lit (by decide)]; exact a1
  have rq : RI (putR r 12 n) := by
    refine ⟨AB_seed hA, fun k k0 k1 => ?_, fun p k p0 p1 k0 k1 => ?_, fun k k0 k1 => ?_, by rw [lawD_LQ lq]; exact hG⟩
    · exact (show dr (putR r 12 n) k 2 = dr r k 2 from if_neg (by omega)) ▸ hS k k0 k1
    · rw [show pr (putR r 12 n) p 0 = pr r p 0 from if_neg (by omega), show pr (putR r 12 n) p (2 + k) = pr r p (2 + k) from if_neg (by omega)]
      exact hGV p k p0 p1 k0 k1
    · rw [show dr (putR r 12 n) k 0 = dr r k 0 from if_neg (by omega), show dr (putR r 12 n) k 1 = dr r k 1 from if_neg (by omega)]
      exact hN k k0 k1
  have Ea : ∀ a, a ≠ 300 → a ≠ 301 → T a = S2 a := fun a h0 h1 => by
    rw [eT]
    show (if a = 301 then _ else upS S2 300 0 0 a) = _
    rw [if_neg h1]; exact up_lit h0
  have E1 : T 301 = putR r 12 n := by rw [eT, s301]; rfl
  have E3 : ∀ j, j ≠ 0 → T 300 j = S 300 j := fun j hj => by
    rw [eT]
    show upS S2 300 0 0 300 j = _
    rw [upS_at, if_neg (fun q => hj q.2), s2 300 (by decide), up_lit (by decide)]
  have Eb : ∀ a, a ≠ 2 → a ≠ 300 → a ≠ 301 → a ≠ 316 → T a = S a := fun a h2 h0 h1 h6 => (Ea a h0 h1).trans ((s2 a h6).trans (up_lit h2))
  have E2 : ∀ a, a ≠ 300 → a ≠ 301 → a ≠ 316 → T a = upS S 2 13 n a := fun a h0 h1 h6 => (Ea a h0 h1).trans (s2 a h6)
  have E15 : T 2 15 = S 2 15 := by rw [E2 2 (by decide) (by decide) (by decide), upS_at, if_neg (by decide)]
  refine k2 _ _ (putR r 12 n) 0 ⟨TOP_mk h rq (OUT_L d4 lq) E1 (RW_c (RW_seed hR) (fun x x0 x1 => E2 x (by omega) (by omega) (by omega))) (by rw [E15, lawD_LQ lq]; exact hl) ⟨?_, ?_, ?_, fun j j0 j1 => ?_⟩ ?_ ⟨?_, E3 3 (by decide), fun a ha => Eb a (by omega) (by omega) (by omega) (by omega)⟩ ⟨?_, ?_, ?_, ?_⟩ (Eb 312 (by decide) (by decide) (by decide) (by decide)) LM_r, Ea 316 (by decide) (by decide), ?_⟩ ⟨rfl, by rw [s301]⟩
  · rw [Eb 0 (by decide) (by decide) (by decide) (by decide), E3 8 (by decide)]; exact t1
  · rw [E3 8 (by decide)]; exact t2
  · rw [Eb 1 (by decide) (by decide) (by decide) (by decide), Eb 305 (by decide) (by decide) (by decide) (by decide)]; exact t3
  · rw [Eb 305 (by decide) (by decide) (by decide) (by decide)]; exact t4 j j0 j1
  · rw [Eb 0 (by decide) (by decide) (by decide) (by decide), E3 12 (by decide)]; exact cc
  · rw [Eb 0 (by decide) (by decide) (by decide) (by decide)]
  · rw [Eb 0 (by decide) (by decide) (by decide) (by decide), E3 6 (by decide)]; exact e1
  · rw [E3 6 (by decide)]; exact e2
  · rw [Eb 0 (by decide) (by decide) (by decide) (by decide)]; exact e3
  · intro k k0 k1
    rw [E3 6 (by decide)] at k1
    obtain ⟨p1, p2, p3, p4⟩ := e4 k k0 k1
    have sr := slW_rg (o := S 0 8) (k := k)
    have er : rkR T k = rkR S k := rkR_row E1 (fun j j0 j1 => by rw [Eb 304 (by decide) (by decide) (by decide) (by decide)]) (by rw [a1]; exact lq)
    rw [er, Eb 0 (by decide) (by decide) (by decide) (by decide), E15]
    exact ⟨p1, LQ_t (LQ_s lq) p2, RW_c p3 (fun x x0 x1 => Eb x (by omega) (by omega) (by omega) (by omega)), by rw [Eb _ (by omega) (by omega) (by omega) (by omega)]; exact p4⟩
  · rw [eT]
    show upS S2 300 0 0 300 0 = 0
    rw [upS_at, if_pos ⟨rfl, rfl⟩]
theorem CP_15 {S T : Nat → Int → Int} {w v : Nat} (h : CPw S T w v) : T w 15 = S v 15 := h.2.1.2.2.2.2
/-- the last act is undone -/
theorem p_193 (h : TOP r S m) : JT tb 193 344 [vr 0] [vr 300] False [] S m := by
  intro d K hV hE
  obtain ⟨⟨a1, ri, hR, hl⟩, ⟨t1, t2, t3, t4⟩, cc, ⟨d1, d2', d3, d4, d5⟩, ⟨e1, e2, e3, e4⟩, f1, f2⟩ := id h
  refine w_193 (D := lawD r) e3 (by omega) ?_ ?_ ?_
  · intro z
    obtain ⟨-, -, -, p4⟩ := e4 (S 0 9 - 1) (by omega) (by omega)
    rw [show 96 + 17 * ((S 0 8 + (S 0 9 - 1)) % 12).toNat = slW (S 0 8) (S 0 9 - 1) from rfl, p4]
    exact hl
  · intro z
    refine hV _ S m (fun z => z.elim) GRW_r (fun S2 s2 => ?_)
    intro d2 K2 k2
    have s300 : S2 300 = S 300 := s2 300 (by decide)
    refine q_344 (by rw [s300]; exact e2) ?_ ?_
    · intro _
      exact k2 _ _ _ _ (EN_th (TOP_316 h s2) 0) ⟨rfl, rfl⟩
    · intro T y
      rw [s300] at y
      omega
  · intro T1 z C
    refine hV _ _ m (fun z => z.elim) GRW_r (fun S2 s2 => ?_)
    intro d2 K2 k2
    have c1 := C.1
    have k0 : ∀ a, a ≠ 0 → (a < 2 ∨ 19 ≤ a) → a ≠ 316 → S2 a = S a := fun a h0 h1 h6 => by rw [s2 a h6, c1 a (by omega), up_lit h0]
    have s300 : S2 300 = S 300 := k0 300 (by decide) (by decide) (by decide)
    refine q_344 (by rw [s300]; exact e2) ?_ ?_
    · intro y
      rw [s300] at y
      omega
    · intro T y eT
      obtain ⟨kk, hkk⟩ : ∃ kk, kk = S 0 9 - 1 := ⟨_, rfl⟩
      have k6 : S 300 6 - 1 = kk := by omega
      obtain ⟨p1, p2, p3, p4⟩ := e4 kk (by omega) (by omega)
      have sr := slW_rg (o := S 0 8) (k := kk)
      have Ea : ∀ a, a ≠ 300 → a ≠ 301 → T a = S2 a := fun a h0 h1 => by
        rw [eT]
        show (if a = 301 then _ else if a = 300 then _ else upS S2 300 0 0 a) = _
        rw [if_neg h1, if_neg h0]; exact up_lit h0
      have Eb : ∀ a, a ≠ 0 → (a < 2 ∨ 19 ≤ a) → a ≠ 300 → a ≠ 301 → a ≠ 316 → T a = S a := fun a h0 h1 h2 h3 h6 => (Ea a h2 h3).trans (k0 a h0 h1 h6)
      have E3 : ∀ j, T 300 j = if j = 6 then kk else if j = 0 then 0 else S 300 j := fun j => by
        rw [eT]
        show (if j = 6 then upS S2 300 0 0 300 6 - 1 else upS S2 300 0 0 300 j) = _
        rw [show upS S2 300 0 0 300 6 = S 300 6 from by rw [upS_at, if_neg (by decide), s300]]
        by_cases z6 : j = 6
        · rw [if_pos z6, if_pos z6]; exact k6
        · rw [if_neg z6, if_neg z6, upS_at, s300]
          by_cases z0 : j = 0
          · rw [if_pos ⟨rfl, z0⟩, if_pos z0]
          · rw [if_neg (fun q => z0 q.2), if_neg z0]
      have E1 : T 301 = rkR S kk := by
        rw [eT]
        funext j
        show (if 0 ≤ j ∧ j < 415 then upS S2 300 0 0 304 (415 * (upS S2 300 0 0 300 6 - 1) + j) else upS S2 300 0 0 301 j) = _
        rw [show upS S2 300 0 0 300 6 = S 300 6 from by rw [upS_at, if_neg (by decide), s300], show upS S2 300 0 0 304 = S 304 from (up_lit (by decide)).trans (k0 304 (by decide) (by decide) (by decide)), show upS S2 300 0 0 301 = S 301 from (up_lit (by decide)).trans (k0 301 (by decide) (by decide) (by decide)), k6]
        rfl
      have E0 : ∀ j, T 0 j = if j = 9 then kk else S 0 j := fun j => by
        rw [Ea 0 (by decide) (by decide), s2 0 (by decide), c1 0 (by decide), upS_at]
        by_cases z9 : j = 9
        · rw [if_pos ⟨rfl, z9⟩, if_pos z9]; exact hkk.symm
        · rw [if_neg (fun q => z9 q.2), if_neg z9]
      have lq := p2
      have p3' : RW (upS S 0 9 (S 0 9 - 1)) (slW (S 0 8) kk) (rkR S kk) := RW_c p3 (fun x x0 x1 => up_lit (by omega))
      have C2 : CPw (upS S 0 9 (S 0 9 - 1)) T1 2 (slW (S 0 8) kk) := by rw [hkk]; exact C
      have R2 : RW T 2 (rkR S kk) := RW_c (RW_cp p1.1 p3' C2) (fun x x0 x1 => by rw [Ea x (by omega) (by omega), s2 x (by omega)])
      have E15 : T 2 15 = S 2 15 := by
        rw [Ea 2 (by decide) (by decide), s2 2 (by decide), CP_15 C2, up_lit (by omega)]
        exact p4
      refine k2 _ _ (rkR S kk) 0 ⟨TOP_mk h p1 (OUT_L d4 lq) E1 R2 (by rw [E15, lawD_LQ lq]; exact hl) ⟨?_, ?_, ?_, fun j j0 j1 => ?_⟩ ?_ ⟨?_, ?_, fun a ha => Eb a (by omega) (by omega) (by omega) (by omega) (by omega)⟩ ⟨?_, ?_, ?_, ?_⟩ (Eb 312 (by decide) (by decide) (by decide) (by decide) (by decide)) LM_r, Ea 316 (by decide) (by decide), ?_⟩ ⟨rfl, rfl⟩
      · rw [E0, if_neg (by decide), E3, if_neg (by decide), if_neg (by decide)]; exact t1
      · rw [E3, if_neg (by decide), if_neg (by decide)]; exact t2
      · rw [Eb 1 (by decide) (by decide) (by decide) (by decide) (by decide), Eb 305 (by decide) (by decide) (by decide) (by decide) (by decide)]; exact t3
      · rw [Eb 305 (by decide) (by decide) (by decide) (by decide) (by decide)]; exact t4 j j0 j1
      · rw [E0, if_neg (by decide), E3, if_neg (by decide), if_neg (by decide)]; exact cc
      · rw [E0, if_neg (by decide)]
      · rw [E3, if_neg (by decide), if_neg (by decide)]
      · rw [E0, if_pos rfl, E3, if_pos rfl]
      · rw [E3, if_pos rfl]; omega
      · rw [E0, if_neg (by decide)]; exact e3
      · intro k q0 q1
        rw [E3, if_pos rfl] at q1
        obtain ⟨v1, v2, v3, v4⟩ := e4 k q0 (by omega)
        have sr2 := slW_rg (o := S 0 8) (k := k)
        have er : rkR T k = rkR S k := rkR_row E1 (fun j j0 j1 => by rw [Eb 304 (by decide) (by decide) (by decide) (by decide) (by decide)]) (by rw [a1]; exact lq)
        rw [er, E0, if_neg (by decide), E15]
        exact ⟨v1, LQ_t (LQ_s lq) v2, RW_c v3 (fun x x0 x1 => Eb x (by omega) (by omega) (by omega) (by omega) (by omega)), by rw [Eb _ (by omega) (by omega) (by omega) (by omega) (by omega)]; exact v4⟩
      · rw [E3, if_neg (by decide), if_pos rfl]
/-- the image is kept: neither answers -/
theorem p_195 (h : TOP r S m) {d : Nat} {K : Out → AM → Prop} (hK : ∀ S1, (∀ (d2 : Nat) (K2 : Out → AM → Prop), (∀ T r2, TOP r2 T m → T 316 = S1 316 → K2 (.inl none) (X T m)) → Runs tb pg (d2 + 70) 345 [vr 300] (X S1 m) K2) → S1 316 = S 316 → K (.inl none) (X S1 m)) : Runs tb pg (d + 70) 195 [vr 0] (X S m) K := by
  obtain ⟨⟨a1, ri, hR, hl⟩, ⟨t1, t2, t3, t4⟩, cc, ⟨d1, d2', d3, d4, d5⟩, ⟨e1, e2, e3, e4⟩, f1, f2⟩ := id h
  refine w_195 (D := lawD r) hl ?_
  intro T1 C
  have c1 := C.1
  have k0 : ∀ a, a ≠ 0 → (a < 36 ∨ 53 ≤ a) → upS T1 0 6 1 a = S a := fun a h0 h1 => by rw [up_lit h0, c1 a (by omega)]
  refine hK _ ?_ (k0 316 (by decide) (by decide))
  intro d2 K2 k2
  refine q_345 ?_
  intro T eT
  have s300 : upS T1 0 6 1 300 = S 300 := k0 300 (by decide) (by decide)
  have Ea : ∀ a, a ≠ 300 → a ≠ 302 → T a = upS T1 0 6 1 a := fun a h0 h2 => by
    rw [eT, up_lit h0]
    show (if a = 302 then _ else upS (upS T1 0 6 1) 300 0 0 a) = _
    rw [if_neg h2]; exact up_lit h0
  have Eb : ∀ a, a ≠ 0 → (a < 36 ∨ 53 ≤ a) → a ≠ 300 → a ≠ 302 → T a = S a := fun a h0 h1 h2 h3 => (Ea a h2 h3).trans (k0 a h0 h1)
  have E3 : ∀ j, T 300 j = if j = 3 then 1 else if j = 0 then 0 else S 300 j := fun j => by
    rw [eT, upS_at]
    by_cases z3 : j = 3
    · rw [if_pos ⟨rfl, z3⟩, if_pos z3]
    · rw [if_neg (fun q => z3 q.2), if_neg z3]
      show upS (upS T1 0 6 1) 300 0 0 300 j = _
      rw [upS_at, s300]
      by_cases z0 : j = 0
      · rw [if_pos ⟨rfl, z0⟩, if_pos z0]
      · rw [if_neg (fun q => z0 q.2), if_neg z0]
  have E2 : T 302 = r := by
    rw [eT, up_lit (by decide)]
    funext j
    show (if 0 ≤ j ∧ j < 815 then upS (upS T1 0 6 1) 300 0 0 301 j else upS (upS T1 0 6 1) 300 0 0 302 j) = r j
    rw [show upS (upS T1 0 6 1) 300 0 0 301 = r from (up_lit (by decide)).trans ((k0 301 (by decide) (by decide)).trans a1), show upS (upS T1 0 6 1) 300 0 0 302 = S 302 from (up_lit (by decide)).trans (k0 302 (by decide) (by decide))]
    by_cases z : 0 ≤ j ∧ j < 815
    · rw [if_pos z]
    · rw [if_neg z, d5 j (by omega), d4 j (by omega)]
  have E0 : ∀ j, T 0 j = if j = 6 then 1 else S 0 j := fun j => by
    rw [Ea 0 (by decide) (by decide), upS_at]
    by_cases z6 : j = 6
    · rw [if_pos ⟨rfl, z6⟩, if_pos z6]
    · rw [if_neg (fun q => z6 q.2), if_neg z6, c1 0 (by decide)]
  have R36 : RW T 36 r := RW_c (RW_cp ri.1 hR C) (fun x x0 x1 => by rw [Ea x (by omega) (by omega), up_lit (by omega)])
  have E15 : T 36 15 = S 2 15 := by rw [Ea 36 (by decide) (by decide), up_lit (by decide)]; exact CP_15 C
  refine k2 T r ⟨⟨(Eb 301 (by decide) (by decide) (by decide) (by decide)).trans a1, ri, RW_c hR (fun x x0 x1 => Eb x (by omega) (by omega) (by omega) (by omega)), by rw [Eb 2 (by decide) (by decide) (by decide) (by decide)]; exact hl⟩, ⟨?_, ?_, ?_, fun j j0 j1 => ?_⟩, ?_, ⟨?_, ?_, fun _ => ?_, d4, by rw [E2]; exact d4⟩, ⟨?_, ?_, ?_, ?_⟩, GR_q f1 (Eb 312 (by decide) (by decide) (by decide) (by decide)), f2⟩ (Ea 316 (by decide) (by decide))
  · rw [E0, if_neg (by decide), E3, if_neg (by decide), if_neg (by decide)]; exact t1
  · rw [E3, if_neg (by decide), if_neg (by decide)]; exact t2
  · rw [Eb 1 (by decide) (by decide) (by decide) (by decide), Eb 305 (by decide) (by decide) (by decide) (by decide)]; exact t3
  · rw [Eb 305 (by decide) (by decide) (by decide) (by decide)]; exact t4 j j0 j1
  · rw [E0, if_neg (by decide), E3, if_neg (by decide), if_neg (by decide)]; exact cc
  · rw [E0, if_pos rfl, E3, if_pos rfl]
  · rw [E3, if_pos rfl]; exact Or.inr rfl
  · rw [E2, E15]; exact ⟨ri, R36, hl⟩
  · rw [E0, if_neg (by decide), E3, if_neg (by decide), if_neg (by decide)]; exact e1
  · rw [E3, if_neg (by decide), if_neg (by decide)]; exact e2
  · rw [E0, if_neg (by decide)]; exact e3
  · exact memI_w e4 (fun a ha => Eb a (by omega) (by omega) (by omega) (by omega)) (by rw [E0, if_neg (by decide)]) (by rw [E3, if_neg (by decide), if_neg (by decide)])
/-- back to the image -/
theorem p_196 (h : TOP r S m) : JT tb 196 346 [vr 0] [vr 300] False [] S m := by
  intro d K hV hE
  obtain ⟨⟨a1, ri, hR, hl⟩, ⟨t1, t2, t3, t4⟩, cc, ⟨d1, d2', d3, d4, d5⟩, ⟨e1, e2, e3, e4⟩, f1, f2⟩ := id h
  refine w_196 (D := lawD (S 302)) (by rw [d1]; exact d2') (fun z => (d3 (by rw [← d1]; exact z)).2.2) ?_ ?_
  · intro z
    refine hV _ S m (fun z => z.elim) GRW_r (fun S2 s2 => ?_)
    intro d2 K2 k2
    have s300 : S2 300 = S 300 := s2 300 (by decide)
    refine q_346 (by rw [s300]; exact d2') ?_ ?_
    · intro _
      exact k2 _ _ _ _ (EN_th (TOP_316 h s2) 0) ⟨rfl, rfl⟩
    · intro T y
      rw [s300] at y
      omega
  · intro T1 z C
    refine hV _ _ m (fun z => z.elim) GRW_r (fun S2 s2 => ?_)
    intro d2 K2 k2
    have c1 := C.1
    obtain ⟨p1, p2, p3⟩ := d3 (by rw [← d1]; exact z)
    have k0 : ∀ a, a ≠ 0 → (a < 2 ∨ 19 ≤ a) → a ≠ 316 → S2 a = S a := fun a h0 h1 h6 => by rw [s2 a h6, up_lit h0, c1 a (by omega)]
    have s300 : S2 300 = S 300 := k0 300 (by decide) (by decide) (by decide)
    refine q_346 (by rw [s300]; exact d2') ?_ ?_
    · intro y
      rw [s300] at y
      omega
    · intro T y eT
      have Ea : ∀ a, a ≠ 300 → a ≠ 301 → T a = S2 a := fun a h0 h1 => by
        rw [eT, up_lit h0]
        show (if a = 301 then _ else upS S2 300 0 0 a) = _
        rw [if_neg h1]; exact up_lit h0
      have Eb : ∀ a, a ≠ 0 → (a < 2 ∨ 19 ≤ a) → a ≠ 300 → a ≠ 301 → a ≠ 316 → T a = S a := fun a h0 h1 h2 h3 h6 => (Ea a h2 h3).trans (k0 a h0 h1 h6)
      have E3 : ∀ j, T 300 j = if j = 6 then 0 else if j = 0 then 0 else S 300 j := fun j => by
        rw [eT, upS_at]
        by_cases z6 : j = 6
        · rw [if_pos ⟨rfl, z6⟩, if_pos z6]
        · rw [if_neg (fun q => z6 q.2), if_neg z6]
          show upS S2 300 0 0 300 j = _
          rw [upS_at, s300]
          by_cases z0 : j = 0
          · rw [if_pos ⟨rfl, z0⟩, if_pos z0]
          · rw [if_neg (fun q => z0 q.2), if_neg z0]
      have E1 : T 301 = S 302 := by
        rw [eT, up_lit (by decide)]
        funext j
        show (if 0 ≤ j ∧ j < 815 then upS S2 300 0 0 302 j else upS S2 300 0 0 301 j) = _
        rw [show upS S2 300 0 0 302 = S 302 from (up_lit (by decide)).trans (k0 302 (by decide) (by decide) (by decide)), show upS S2 300 0 0 301 = r from (up_lit (by decide)).trans ((k0 301 (by decide) (by decide) (by decide)).trans a1)]
        by_cases z : 0 ≤ j ∧ j < 815
        · rw [if_pos z]
        · rw [if_neg z, d5 j (by omega), d4 j (by omega)]
      have E0 : ∀ j, T 0 j = if j = 9 then 0 else S 0 j := fun j => by
        rw [Ea 0 (by decide) (by decide), s2 0 (by decide), upS_at]
        by_cases z9 : j = 9
        · rw [if_pos ⟨rfl, z9⟩, if_pos z9]
        · rw [if_neg (fun q => z9 q.2), if_neg z9, c1 0 (by decide)]
      have R2 : RW T 2 (S 302) := RW_c (RW_cp p1.1 p2 C) (fun x x0 x1 => by rw [Ea x (by omega) (by omega), s2 x (by omega), up_lit (by omega)])
      have E15 : T 2 15 = S 36 15 := by rw [Ea 2 (by decide) (by decide), s2 2 (by decide), up_lit (by decide)]; exact CP_15 C
      refine k2 _ _ (S 302) 0 ⟨TOP_mk h p1 d5 E1 R2 (by rw [E15]; exact p3) ⟨?_, ?_, ?_, fun j j0 j1 => ?_⟩ ?_ ⟨?_, ?_, fun a ha => Eb a (by omega) (by omega) (by omega) (by omega) (by omega)⟩ ⟨?_, ?_, ?_, fun k q0 q1 => ?_⟩ (Eb 312 (by decide) (by decide) (by decide) (by decide) (by decide)) LM_r, Ea 316 (by decide) (by decide), ?_⟩ ⟨rfl, rfl⟩
      · rw [E0, if_neg (by decide), E3, if_neg (by decide), if_neg (by decide)]; exact t1
      · rw [E3, if_neg (by decide), if_neg (by decide)]; exact t2
      · rw [Eb 1 (by decide) (by decide) (by decide) (by decide) (by decide), Eb 305 (by decide) (by decide) (by decide) (by decide) (by decide)]; exact t3
      · rw [Eb 305 (by decide) (by decide) (by decide) (by decide) (by decide)]; exact t4 j j0 j1
      · rw [E0, if_neg (by decide), E3, if_neg (by decide), if_neg (by decide)]; exact cc
      · rw [E0, if_neg (by decide)]
      · rw [E3, if_neg (by decide), if_neg (by decide)]
      · rw [E0, if_pos rfl, E3, if_pos rfl]
      · rw [E3, if_pos rfl]; omega
      · rw [E0, if_neg (by decide)]; exact e3
      · rw [E3, if_pos rfl] at q1; omega
      · rw [E3, if_neg (by decide), if_pos rfl]
end Pair3
