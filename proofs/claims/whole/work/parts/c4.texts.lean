/-! ===== BOTH SIDES TOGETHER: the texts ===== -/
section RowOf
variable {r q : Int → Int}
theorem prr_of (e : ∀ j, 3 ≤ j → j < 415 → q j = r j) {p k : Int} (p0 : 0 ≤ p) (p1 : p < 6) (k0 : 0 ≤ k) (k1 : k < 20) : pr q p k = pr r p k := e _ (by omega) (by omega)
theorem frr_of (e : ∀ j, 3 ≤ j → j < 415 → q j = r j) {f k : Int} (f0 : 0 ≤ f) (f1 : f < 6) (k0 : 0 ≤ k) (k1 : k < 3) : fr q f k = fr r f k := e _ (by omega) (by omega)
theorem drr_of (e : ∀ j, 3 ≤ j → j < 415 → q j = r j) {f k : Int} (f0 : 0 ≤ f) (f1 : f < 8) (k0 : 0 ≤ k) (k1 : k < 3) : dr q f k = dr r f k := e _ (by omega) (by omega)
theorem grr_of (e : ∀ j, 3 ≤ j → j < 415 → q j = r j) {f k : Int} (f0 : 0 ≤ f) (f1 : f < 60) (k0 : 0 ≤ k) (k1 : k < 4) : gr q f k = gr r f k := e _ (by omega) (by omega)
theorem AB_of (h : AB r) (e : ∀ j, 3 ≤ j → j < 415 → q j = r j) (h0 : ∀ j, (j < 3 ∨ 415 ≤ j) → -1 ≤ q j ∧ q j ≤ 10000) (q0 : 0 ≤ q 0 ∧ q 0 ≤ 12) (q1 : -1 ≤ q 1 ∧ q 1 ≤ 12) : AB q := by
  obtain ⟨b0, b1, b2, b3, b4, b5⟩ := h
  have c4 := b1.2.1
  have c5 := b1.2.2.1
  refine ⟨fun j hj => ?_, ?_, ?_, ?_, ?_, ?_⟩
  · by_cases z : 3 ≤ j ∧ j < 415
    · rw [e j z.1 z.2]; exact b0 j hj
    · exact h0 j (by omega)
  · unfold B1 at *
    rw [e 3 (by decide) (by decide), e 4 (by decide) (by decide), e 5 (by decide) (by decide), e 8 (by decide) (by decide), e 11 (by decide) (by decide), e 6 (by decide) (by decide), e 10 (by decide) (by decide)]
    exact ⟨b1.1, b1.2.1, b1.2.2.1, q0, q1, b1.2.2.2.2.2⟩
  · intro p h0 h1
    rw [prr_of e h0 h1 (by decide) (by decide), prr_of e h0 h1 (by decide) (by decide)]
    refine ⟨(b2 p h0 h1).1, (b2 p h0 h1).2.1, fun k k0 k1 => ?_⟩
    rw [prr_of e h0 h1 (by omega) (by omega), prr_of e h0 h1 (by omega) (by omega)]
    exact (b2 p h0 h1).2.2 k k0 k1
  · intro f h0 h1
    rw [frr_of e h0 h1 (by decide) (by decide), frr_of e h0 h1 (by decide) (by decide), frr_of e h0 h1 (by decide) (by decide)]
    exact b3 f h0 h1
  · intro k h0 h1
    rw [e 5 (by decide) (by decide)] at h1
    rw [drr_of e h0 (by omega) (by decide) (by decide), drr_of e h0 (by omega) (by decide) (by decide)]
    exact b4 k h0 h1
  · intro p h0 h1
    rw [e 4 (by decide) (by decide)] at h1
    rw [prr_of e h0 (by omega) (by decide) (by decide), prr_of e h0 (by omega) (by decide) (by decide), e 3 (by decide) (by decide)]
    exact b5 p h0 h1
theorem RI_of (h : RI r) (e : ∀ j, 3 ≤ j → j < 415 → q j = r j) (h0 : ∀ j, (j < 3 ∨ 415 ≤ j) → -1 ≤ q j ∧ q j ≤ 10000) (q0 : 0 ≤ q 0 ∧ q 0 ≤ 12) (q1 : -1 ≤ q 1 ∧ q 1 ≤ 12) (hg : goodL (lawD q)) : RI q := by
  obtain ⟨a, s, v, n, g⟩ := h
  have b4 := a.2.1.2.1
  have b5 := a.2.1.2.2.1
  refine ⟨AB_of a e h0 q0 q1, fun k k0 k1 => ?_, fun p k p0 p1 k0 k1 => ?_, fun k k0 k1 => ?_, hg⟩
  · rw [e 5 (by decide) (by decide)] at k1
    rw [drr_of e k0 (by omega) (by decide) (by decide)]
    exact s k k0 k1
  · rw [e 4 (by decide) (by decide)] at p1
    rw [prr_of e p0 (by omega) (by decide) (by decide), prr_of e p0 (by omega) (by omega) (by omega)]
    exact v p k p0 p1 k0 k1
  · rw [e 5 (by decide) (by decide)] at k1
    rw [drr_of e k0 (by omega) (by decide) (by decide), drr_of e k0 (by omega) (by decide) (by decide), e 4 (by decide) (by decide)]
    exact n k k0 k1
theorem RW_of {S : Nat → Int → Int} {w : Nat} (h : AB r) (hR : RW S w r) (e : ∀ j, 3 ≤ j → j < 415 → q j = r j) (e0 : q 0 = r 0) : RW S w q := by
  have b3 := h.2.1.1
  have b4 := h.2.1.2.1
  have b5 := h.2.1.2.2.1
  have b11 := h.2.1.2.2.2.2.2.2.1
  obtain ⟨⟨c0, c1, c2, c3⟩, cf, cp, cd, cl, cs⟩ := hR
  refine ⟨⟨by rw [e 3 (by decide) (by decide)]; exact c0, by rw [e 4 (by decide) (by decide)]; exact c1, by rw [e 12 (by decide) (by decide)]; exact c2, by rw [e0]; exact c3⟩, ?_, ?_, ?_, ?_, ?_⟩
  · intro f h0 h1
    rw [e 3 (by decide) (by decide)] at h1
    rw [frr_of e h0 (by omega) (by decide) (by decide), frr_of e h0 (by omega) (by decide) (by decide), frr_of e h0 (by omega) (by decide) (by decide)]
    exact cf f h0 h1
  · intro p h0 h1
    rw [e 4 (by decide) (by decide)] at h1
    have pp := AB_pp h h0 h1
    rw [prr_of e h0 (by omega) (by decide) (by decide), prr_of e h0 (by omega) (by decide) (by decide)]
    refine ⟨(cp p h0 h1).1, (cp p h0 h1).2.1, fun k k0 k1 => ?_, fun z k k0 k1 => ?_⟩
    · rw [prr_of e h0 (by omega) (by omega) (by omega)]; exact (cp p h0 h1).2.2.1 k k0 k1
    · rw [prr_of e h0 (by omega) (by omega) (by omega), prr_of e h0 (by omega) (by omega) (by omega)]; exact (cp p h0 h1).2.2.2 z k k0 k1
  · unfold RWd at *
    rw [e 5 (by decide) (by decide)]
    refine ⟨cd.1, fun k k0 k1 => ?_⟩
    rw [drr_of e k0 (by omega) (by decide) (by decide), drr_of e k0 (by omega) (by decide) (by decide), drr_of e k0 (by omega) (by decide) (by decide)]
    exact cd.2 k k0 k1
  · unfold RWl at *
    rw [e 11 (by decide) (by decide)]
    refine ⟨cl.1, fun k x k0 k1 x0 x1 => ?_⟩
    rw [grr_of e k0 (by omega) x0 x1]
    exact cl.2 k x k0 k1 x0 x1
  · intro j j0 j1
    rw [e _ (by omega) (by omega)]
    exact cs j j0 j1
end RowOf
section Pair4
variable {tb : Tab} {r : Int → Int} {S : Nat → Int → Int} {m : AM}
theorem SQ_R {S T : Nat → Int → Int} (h : SR S T) : SQ S T := ⟨fun a a0 _ a1 => h.1 a a0 a1, h.2⟩
/-- a text is wrong: where, is told -/
theorem EN_w {T S2 U : Nat → Int → Int} {m1 : AM} {c e : Int} (h : TOP r S m) (hT : ∀ a, CL a → a ≠ 0 → T a = S a) (h300 : T 300 = S 300) (z : T 0 1 = 0 ∧ T 0 2 = e ∧ ∀ j, j ≠ 1 → j ≠ 2 → T 0 j = S 0 j) (hL : LM m m1) (s2 : ∀ a, a ≠ 316 → S2 a = T a) (x : SQ (upS (upS (upS S2 300 0 c) 300 8 0) 300 12 e) U) : EN r S2 U m1 c := by
  obtain ⟨-, ⟨t1, t2, t3, t4⟩, cc, -⟩ := id h
  have s300 : S2 300 = S 300 := (s2 300 (by decide)).trans h300
  have ua : ∀ a, a ≠ 300 → a ≠ 303 → (a < 306 ∨ 311 < a) → U a = S2 a := fun a a0 a3 a1 => (x.1 a a0 a3 a1).trans ((up_lit a0).trans ((up_lit a0).trans (up_lit a0)))
  have uS : ∀ a, CL a → a ≠ 0 → U a = S a := fun a ha h0 => (ua a (by unfold CL at ha; omega) (by unfold CL at ha; omega) (by unfold CL at ha; omega)).trans ((s2 a (by unfold CL at ha; omega)).trans (hT a ha h0))
  have u0 : U 0 = T 0 := (ua 0 (by decide) (by decide) (by decide)).trans (s2 0 (by decide))
  have u3 : ∀ j, j = 3 ∨ j = 6 → U 300 j = S 300 j := fun j hj => by rw [x.2 j (by omega), upS_at, if_neg (by omega), upS_at, if_neg (by omega), upS_at, if_neg (by omega), s300]
  have u8 : U 300 8 = 0 := by rw [x.2 8 (by omega), upS_at, if_neg (by decide), upS_at, if_pos ⟨rfl, rfl⟩]
  refine ⟨TOP_tp h (fun a ha h0 h1 h5 => uS a ha h0) (fun j hj => by rw [u0]; exact z.2.2 j (by omega) (by omega)) u3 ⟨by rw [u0, z.1, u8], by rw [u8]; omega, ?_, fun j j0 j1 => ?_⟩ ?_ hL, ua 316 (by decide) (by decide) (by decide), by rw [x.2 0 (by omega), upS_at, if_neg (by decide), upS_at, if_neg (by decide), upS_at, if_pos ⟨rfl, rfl⟩]⟩
  · rw [uS 1 (by unfold CL; omega) (by decide), uS 305 (by unfold CL; omega) (by decide)]; exact t3
  · rw [uS 305 (by unfold CL; omega) (by decide)]; exact t4 j j0 j1
  · rw [u0, z.2.1, x.2 12 (by omega), upS_at, if_pos ⟨rfl, rfl⟩]
/-- a text is read: the row is another one, nothing is remembered -/
theorem EN_n {q : Int → Int} {T S2 U : Nat → Int → Int} {m1 : AM} (h : TOP r S m) (hq : RI q) (ho : OUT q) (hR : RW T 2 q) (hl : LWo m1 (T 2 15) (lawD q)) (hT : ∀ a, (a = 1 ∨ (36 ≤ a ∧ a < 52) ∨ 300 ≤ a) → T a = S a) (z : T 0 1 = 0 ∧ T 0 2 = -1 ∧ T 0 9 = 0 ∧ ∀ j, j ≠ 1 → j ≠ 2 → j ≠ 9 → T 0 j = S 0 j) (hL : LM m m1) (s2 : ∀ a, a ≠ 316 → S2 a = T a) (x : SQ (sR (upS (upS (upS (upS S2 300 0 0) 300 8 0) 300 12 (-1)) 300 6 0) q) U) : EN q S2 U m1 0 := by
  obtain ⟨-, ⟨t1, t2, t3, t4⟩, cc, -, ⟨e1, e2, e3, e4⟩, -⟩ := id h
  have s300 : S2 300 = S 300 := (s2 300 (by decide)).trans (hT 300 (by omega))
  have ua : ∀ a, a ≠ 300 → a ≠ 301 → a ≠ 303 → (a < 306 ∨ 311 < a) → U a = S2 a := fun a a0 a1 a3 a2 => (x.1 a a0 a3 a2).trans (by
    show (if a = 301 then q else _) = _
    rw [if_neg a1, up_lit a0, up_lit a0, up_lit a0, up_lit a0])
  have uT : ∀ a, a ≠ 300 → a ≠ 301 → a ≠ 303 → (a < 306 ∨ 311 < a) → a ≠ 316 → U a = T a := fun a a0 a1 a3 a2 a6 => (ua a a0 a1 a3 a2).trans (s2 a a6)
  have u3 : U 300 3 = S 300 3 := (x.2 3 (by omega)).trans (by
    show upS (upS (upS (upS S2 300 0 0) 300 8 0) 300 12 (-1)) 300 6 0 300 3 = _
    rw [upS_at, if_neg (by decide), upS_at, if_neg (by decide), upS_at, if_neg (by decide), upS_at, if_neg (by decide), s300])
  have u8 : U 300 8 = 0 := (x.2 8 (by omega)).trans (by
    show upS (upS (upS (upS S2 300 0 0) 300 8 0) 300 12 (-1)) 300 6 0 300 8 = _
    rw [upS_at, if_neg (by decide), upS_at, if_neg (by decide), upS_at, if_pos ⟨rfl, rfl⟩])
  have u12 : U 300 12 = -1 := (x.2 12 (by omega)).trans (by
    show upS (upS (upS (upS S2 300 0 0) 300 8 0) 300 12 (-1)) 300 6 0 300 12 = _
    rw [upS_at, if_neg (by decide), upS_at, if_pos ⟨rfl, rfl⟩])
  have u6 : U 300 6 = 0 := (x.2 6 (by omega)).trans (by
    show upS (upS (upS (upS S2 300 0 0) 300 8 0) 300 12 (-1)) 300 6 0 300 6 = _
    rw [upS_at, if_pos ⟨rfl, rfl⟩])
  have u00 : U 300 0 = 0 := (x.2 0 (by omega)).trans (by
    show upS (upS (upS (upS S2 300 0 0) 300 8 0) 300 12 (-1)) 300 6 0 300 0 = _
    rw [upS_at, if_neg (by decide), upS_at, if_neg (by decide), upS_at, if_neg (by decide), upS_at, if_pos ⟨rfl, rfl⟩])
  have u1 : U 301 = q := (x.1 301 (by decide) (by decide) (by decide)).trans (if_pos rfl)
  have U0 : U 0 = T 0 := uT 0 (by decide) (by decide) (by decide) (by decide) (by decide)
  have U2 : ∀ a, 2 ≤ a → a < 19 → U a = T a := fun a a0 a1 => uT a (by omega) (by omega) (by omega) (by omega) (by omega)
  refine ⟨TOP_mk h hq ho u1 (RW_c hR (fun a a0 a1 => U2 a (by omega) (by omega))) (by rw [U2 2 (by decide) (by decide)]; exact hl) ⟨by rw [U0, z.1, u8], by rw [u8]; omega, ?_, fun j j0 j1 => ?_⟩ (by rw [U0, z.2.1, u12]) ⟨by rw [U0]; exact z.2.2.2 6 (by decide) (by decide) (by decide), u3, fun a ha => ?_⟩ ⟨by rw [U0, z.2.2.1, u6], by rw [u6]; omega, by rw [U0, z.2.2.2 8 (by decide) (by decide) (by decide)]; exact e3, fun k k0 k1 => by rw [u6] at k1; omega⟩ ?_ hL, ua 316 (by decide) (by decide) (by decide) (by decide), u00⟩
  · rw [uT 1 (by decide) (by decide) (by decide) (by decide) (by decide), uT 305 (by decide) (by decide) (by decide) (by decide) (by decide), hT 1 (by omega), hT 305 (by omega)]; exact t3
  · rw [uT 305 (by decide) (by decide) (by decide) (by decide) (by decide), hT 305 (by omega)]; exact t4 j j0 j1
  · rw [uT a (by omega) (by omega) (by omega) (by omega) (by omega)]; exact hT a (by omega)
  · rw [uT 312 (by decide) (by decide) (by decide) (by decide) (by decide)]; exact hT 312 (by omega)
theorem p_131 (hX : tb.2.1 = strB) (h : TOP r S m) : JT tb 131 239 [vr 0] [vr 300] True [(1, 1), (3, 2)] S m := by
  intro d K hV hE
  obtain ⟨⟨a1, ri, hR, hl⟩, ⟨t1, t2, t3, t4⟩, cc, ⟨d1, d2', d3, d4, d5⟩, -⟩ := id h
  obtain ⟨hA, hS, hGV, hN, hG⟩ := id ri
  have t5 : ∀ j, 0 ≤ j → j < 400 → 0 ≤ S 1 j ∧ S 1 j < 256 := by rw [t3]; exact t4
  have r0 := hA.2.1.2.2.2.1
  have key : ∀ (T S2 : Nat → Int → Int), (∀ a, 300 ≤ a → T a = S a) → (∀ a, a ≠ 316 → S2 a = T a) → S2 301 = r ∧ S2 305 = S 1 ∧ S2 300 8 = S 0 1 ∧ TB S2 := fun T S2 hT s2 => by
    have e5 : S2 305 = S 1 := by rw [s2 305 (by decide), hT 305 (by decide), t3]
    exact ⟨by rw [s2 301 (by decide), hT 301 (by decide)]; exact a1, e5, by rw [s2 300 (by decide), hT 300 (by decide), t1], fun j j0 j1 => by rw [e5]; exact t5 j j0 j1⟩
  refine w_131 hR hA hX hS hG hl (by rw [t1]; exact t2) t5 ?_ ?_ ?_
  · intro e T m1 e1 f0 z1 uM
    refine hE 1 1 T _ (by simp) (GRW_St uM) (fun S2 s2 => ?_)
    intro d2 K2 k2
    obtain ⟨k1, k5, k8, kB⟩ := key T S2 (fun a ha => f0 a (by omega) (by omega) (by omega) (by omega)) s2
    refine q_239 hX (askD_L hX) EvD_L (by rw [k1]; exact hA) (by rw [k1]; exact hS) (by rw [k1]; exact hG) (by rw [k8, t1]; exact t2) kB ?_ ?_ ?_
    · intro b U eb _ _ x
      rw [k1, k5, k8, e1] at eb
      cases eb
      exact k2 _ _ _ _ (EN_w h (fun a ha h0 => f0 a h0 (by unfold CL at ha; omega) (by unfold CL at ha; omega) (by unfold CL at ha; omega)) (f0 300 (by decide) (by decide) (by decide) (by decide)) z1 (LM_t (LM_S uM) LM_th) s2 x) rfl
    · intro q e U eb
      rw [k1, k5, k8, e1] at eb
      cases eb
    · intro q e U eb
      rw [k1, k5, k8, e1] at eb
      cases eb
  · intro q e T m1 e1 ok r12 f0 z1 uM
    have q0 := (RI_rd ri (by rw [t1]; exact t2.1) ok e1).2
    refine hE 3 2 T _ (by simp) (GRW_St uM) (fun S2 s2 => ?_)
    intro d2 K2 k2
    obtain ⟨k1, k5, k8, kB⟩ := key T S2 (fun a ha => f0 a (by omega) (by omega) (by omega) (by omega)) s2
    refine q_239 hX (askD_L hX) EvD_L (by rw [k1]; exact hA) (by rw [k1]; exact hS) (by rw [k1]; exact hG) (by rw [k8, t1]; exact t2) kB ?_ ?_ ?_
    · intro b U eb
      rw [k1, k5, k8, e1] at eb
      cases eb
    · intro q2 e2 U eb _ x
      exact k2 _ _ _ _ (EN_w h (fun a ha h0 => f0 a h0 (by unfold CL at ha; omega) (by unfold CL at ha; omega) (by unfold CL at ha; omega)) (f0 300 (by decide) (by decide) (by decide) (by decide)) z1 (LM_t (LM_S uM) LM_th) s2 x) rfl
    · intro q2 e2 U eb _ n12
      rw [k1, k5, k8, e1] at eb
      cases eb
      omega
  · intro q e T m1 e1 ok r12 hR2 l2 f1 f36 z1 uM
    obtain ⟨rq, q0⟩ := RI_rd ri (by rw [t1]; exact t2.1) ok e1
    have lq : LQ r (putR q 0 (q 0 + 1)) := LQ_t ok.2.2 (fun j hj => if_neg (by omega))
    have rq2 : RI (putR q 0 (q 0 + 1)) := by
      refine RI_of rq (fun j j0 j1 => if_neg (by omega)) (fun j hj => ?_) (by show 0 ≤ (if (0 : Int) = 0 then q 0 + 1 else q 0) ∧ (if (0 : Int) = 0 then q 0 + 1 else q 0) ≤ 12; rw [if_pos rfl]; omega) (by show -1 ≤ (if (1 : Int) = 0 then q 0 + 1 else q 1) ∧ (if (1 : Int) = 0 then q 0 + 1 else q 1) ≤ 12; rw [if_neg (by decide)]; exact rq.1.2.1.2.2.2.2.1) (by rw [lawD_LQ lq]; exact hG)
      show -1 ≤ (if j = 0 then q 0 + 1 else q j) ∧ (if j = 0 then q 0 + 1 else q j) ≤ 10000
      split
      · omega
      · exact rq.1.1 j (by omega)
    refine hV (q 0 + 1) T m1 (fun _ => R32_of (by omega)) (GRW_S uM) (fun S2 s2 => ?_)
    intro d2 K2 k2
    have hT : ∀ a, (a = 1 ∨ (36 ≤ a ∧ a < 52) ∨ 300 ≤ a) → T a = S a := fun a ha => by
      rcases ha with ha | ha
      · rw [ha]; exact f1
      · exact f36 a (by omega) (by omega) (by omega)
    obtain ⟨k1, k5, k8, kB⟩ := key T S2 (fun a ha => hT a (by omega)) s2
    refine q_239 hX (askD_L hX) EvD_L (by rw [k1]; exact hA) (by rw [k1]; exact hS) (by rw [k1]; exact hG) (by rw [k8, t1]; exact t2) kB ?_ ?_ ?_
    · intro b U eb
      rw [k1, k5, k8, e1] at eb
      cases eb
    · intro q2 e2 U eb n12
      rw [k1, k5, k8, e1] at eb
      cases eb
      omega
    · intro q2 e2 U eb _ _ x
      rw [k1, k5, k8, e1] at eb
      cases eb
      exact k2 _ _ _ _ (EN_n h rq2 (OUT_L d4 lq) hR2 (by rw [l2, lawD_LQ lq]; exact LWo_M (LM_S uM) hl) hT z1 (LM_S uM) s2 x) ⟨rfl, rfl⟩
theorem nrm_lw {t : Int → Int} {n k : Int} : nrm (fun j => if 0 ≤ j then lwR r k n t n (415 + j) else 0) n = nrm t n := by
  funext j
  unfold nrm
  by_cases z : 0 ≤ j ∧ j < n
  · rw [if_pos z, if_pos z]
    dsimp only
    rw [if_pos z.1]
    unfold lwR
    rw [if_neg (by omega), if_neg (by omega), if_pos (by omega), show 415 + j - 415 = j by omega]
  · rw [if_neg z, if_neg z]
theorem parL_n {t u : Int → Int} {n : Int} (h : nrm t n = nrm u n) : parL t n = parL u n := by unfold parL; rw [h]
theorem p_132 (hX : tb.2.1 = strB) (hD : tb.1 2 = [vi 0, vn, vn, vn, vn, vn]) (h : TOP r S m) : JT tb 132 247 [vr 0] [vr 300] True [(1, 1)] S m := by
  intro d K hV hE
  obtain ⟨⟨a1, ri, hR, hl⟩, ⟨t1, t2, t3, t4⟩, cc, ⟨d1, d2', d3, d4, d5⟩, -, -, hm⟩ := id h
  obtain ⟨hA, hS, hGV, hN, hG⟩ := id ri
  have t5 : ∀ j, 0 ≤ j → j < 400 → 0 ≤ S 1 j ∧ S 1 j < 256 := by rw [t3]; exact t4
  have key : ∀ (T S2 : Nat → Int → Int), (∀ a, 300 ≤ a → T a = S a) → (∀ a, a ≠ 316 → S2 a = T a) → S2 301 = r ∧ S2 305 = S 1 ∧ S2 300 8 = S 0 1 ∧ TB S2 := fun T S2 hT s2 => by
    have e5 : S2 305 = S 1 := by rw [s2 305 (by decide), hT 305 (by decide), t3]
    exact ⟨by rw [s2 301 (by decide), hT 301 (by decide)]; exact a1, e5, by rw [s2 300 (by decide), hT 300 (by decide), t1], fun j j0 j1 => by rw [e5]; exact t5 j j0 j1⟩
  refine w_132 hX hD hm (by rw [t1]; exact t2) t5 ?_ ?_
  · intro e T e1 f0 z1
    refine hE 1 1 T _ (by simp) GRW_th (fun S2 s2 => ?_)
    intro d2 K2 k2
    obtain ⟨k1, k5, k8, kB⟩ := key T S2 (fun a ha => f0 a (by omega) (by omega)) s2
    refine q_247 hX (by rw [k8, t1]; exact t2) kB ?_ ?_
    · intro b U eb _ _ x
      rw [k5, k8, e1] at eb
      cases eb
      exact k2 _ _ _ _ (EN_w h (fun a ha h0 => f0 a h0 (by unfold CL at ha; omega)) (f0 300 (by decide) (by decide)) z1 LM_th s2 (SQ_R x)) rfl
    · intro q e U eb
      rw [k5, k8, e1] at eb
      cases eb
  · intro q e T m1 e1 f0 f2 z1 nw
    have hL := LM_N nw
    have q12 := nw.1.2.1
    have q400 := nw.1.2.2
    refine hV (q.length : Int) T m1 (fun _ => R32_of (by omega)) ?_ (fun S2 s2 => ?_)
    · unfold GRW
      rw [nw.1.1]
      dsimp only
      omega
    · intro d2 K2 k2
      obtain ⟨k1, k5, k8, kB⟩ := key T S2 (fun a ha => f0 a (by omega) (by omega) (by omega)) s2
      refine q_247 hX (by rw [k8, t1]; exact t2) kB ?_ ?_
      · intro b U eb
        rw [k5, k8, e1] at eb
        cases eb
      · intro q2 e2 U eb x
        rw [k5, k8, e1] at eb
        cases eb
        obtain ⟨n, hn⟩ : ∃ n, n = S 0 1 := ⟨_, rfl⟩
        have n4 : 0 ≤ n ∧ n ≤ 400 := by rw [hn, t1]; exact t2
        rw [k1, k5, k8, ← hn] at x
        rw [← hn] at e1
        obtain ⟨q1, hq1⟩ : ∃ q1, q1 = lwR r (q.length : Int) n (S 1) n := ⟨_, rfl⟩
        rw [← hq1] at x
        have v1 : q1 1 = q.length := by rw [hq1]; unfold lwR; rw [if_pos rfl]
        have v2 : q1 2 = n := by rw [hq1]; unfold lwR; rw [if_neg (by decide), if_pos rfl]
        have v0 : q1 0 = r 0 := by rw [hq1]; unfold lwR; rw [if_neg (by decide), if_neg (by decide), if_neg (by omega)]
        have ve : ∀ j, 3 ≤ j → j < 415 → q1 j = r j := fun j j0 j1 => by rw [hq1]; unfold lwR; rw [if_neg (by omega), if_neg (by omega), if_neg (by omega)]
        have vp : parL (lawD q1).2.2 n = .inr (q, e) := by
          show parL (fun j => if 0 ≤ j then q1 (415 + j) else 0) n = _
          rw [hq1, parL_n nrm_lw]; exact e1
        have vg : goodL (lawD q1) := Or.inr ⟨by show 0 ≤ q1 2 ∧ q1 2 ≤ 400; rw [v2]; exact n4, q, e, by show parL _ (q1 2) = _; rw [v2]; exact vp⟩
        have vl : lawL (lawD q1) = q := by
          show lawL (q1 1, q1 2, (lawD q1).2.2) = q
          rw [v2]; exact lawL_q v1 vp
        have rq : RI q1 := by
          refine RI_of ri ve (fun j hj => ?_) (by rw [v0]; exact hA.2.1.2.2.2.1) (by rw [v1]; omega) vg
          rw [hq1]
          unfold lwR
          split
          · omega
          · split
            · omega
            · split
              · have := t5 (j - 415) (by omega) (by omega); omega
              · exact hA.1 j (by omega)
        have oq : OUT q1 := fun j hj => by
          rw [hq1]
          unfold lwR
          rw [if_neg (by omega), if_neg (by omega), if_neg (by omega)]
          exact d4 j hj
        have w2 : RW T 2 r := by
          refine RW_c (S := upS S 2 15 (T 2 15)) ?_ (fun a a0 a1 => ?_)
          · obtain ⟨⟨c0, c1, c2, c3⟩, g1, g2, g3, g4, g5⟩ := hR
            have uu : ∀ k : Nat, k ≠ 0 → upS S 2 15 (T 2 15) (2 + k) = S (2 + k) := fun k hk => up_lit (by omega)
            refine ⟨⟨by rw [upS_at, if_neg (by decide)]; exact c0, by rw [upS_at, if_neg (by decide)]; exact c1, by rw [upS_at, if_neg (by decide)]; exact c2, by rw [upS_at, if_neg (by decide)]; exact c3⟩, g1, g2, g3, g4, g5⟩
          · by_cases z : a = 2
            · subst z
              funext j
              rw [upS_at]
              by_cases y : j = 15
              · rw [if_pos ⟨rfl, y⟩, y]
              · rw [if_neg (fun q => y q.2)]; exact f2.2 j y
            · rw [up_lit z]; exact f0 a (by omega) z (by omega)
        have lw : LWo m1 (T 2 15) (lawD q1) := by
          rw [f2.1]
          exact Or.inr ⟨by omega, by rw [Int.toNat_natCast]; exact nw.2.2 (lawD q1) v1 vl⟩
        exact k2 _ _ _ _ (EN_n h rq oq (RW_of hA w2 ve v0) lw (fun a ha => f0 a (by omega) (by omega) (by omega)) z1 hL s2 (SQ_R x)) ⟨rfl, rfl⟩
end Pair4
