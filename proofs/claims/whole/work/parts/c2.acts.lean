/-! ===== BOTH SIDES TOGETHER: acts ===== -/
theorem ACT_301 {r : Int → Int} {S T T1 S2 : Nat → Int → Int} {m : AM} (h : TOP r S m) (g1 : REM S T1) (g3 : EW T1 T 2) (s2 : ∀ a, a ≠ 316 → S2 a = T a) : S2 301 = r ∧ 0 ≤ S2 300 6 ∧ S2 300 6 ≤ 12 := by
  obtain ⟨⟨a1, -⟩, -, -, -, ⟨e1, e2, e3, -⟩, -⟩ := h
  have oT := fun (a : Nat) (a0 : a ≠ 0) (a1 : a < 96 ∨ 300 ≤ a) => REM_o g1 e3 (by omega) a0 a1
  rw [s2 301 (by decide), s2 300 (by decide), g3 301 (by decide), g3 300 (by decide), oT 301 (by decide) (by decide), oT 300 (by decide) (by decide)]
  exact ⟨a1, e2⟩
theorem payP_AB {r : Int → Int} {k : Int} (hk : 0 ≤ k ∧ k < r 5) (h : AB r) : AB (payP r k (3 * (r 5 - 1))) := by
  have q5 := h.2.1.2.2.1
  obtain ⟨b0, b1, b2, b3, b4, b5⟩ := h
  have e : ∀ j, j < 151 ∨ 175 ≤ j → j ≠ 5 → payP r k (3 * (r 5 - 1)) j = r j := fun j hj hj5 => by
    unfold payP
    rw [if_neg hj5, if_neg (by omega)]
  have e5 : payP r k (3 * (r 5 - 1)) 5 = r 5 - 1 := by unfold payP; rw [if_pos rfl]
  refine ⟨fun j hj => ?_, ?_, ?_, ?_, ?_, ?_⟩
  · unfold payP
    split
    · omega
    · split
      · exact b0 _ (by omega)
      · exact b0 j hj
  · unfold B1 at *
    rw [e5]
    simp only [e 3 (by decide) (by decide), e 4 (by decide) (by decide), e 0 (by decide) (by decide), e 1 (by decide) (by decide), e 8 (by decide) (by decide), e 11 (by decide) (by decide), e 6 (by decide) (by decide), e 10 (by decide) (by decide)]
    omega
  · intro p h0 h1
    have g := b2 p h0 h1
    have w : ∀ c, 0 ≤ c → c < 20 → pr (payP r k (3 * (r 5 - 1))) p c = pr r p c := fun c c0 c1 => e _ (by omega) (by omega)
    refine ⟨by rw [w 0 (by decide) (by decide)]; exact g.1, by rw [w 1 (by decide) (by decide)]; exact g.2.1, fun k2 k0 k1 => ?_⟩
    rw [w _ (by omega) (by omega), w _ (by omega) (by omega)]
    exact g.2.2 k2 k0 k1
  · intro f h0 h1
    have w : ∀ c, 0 ≤ c → c < 3 → fr (payP r k (3 * (r 5 - 1))) f c = fr r f c := fun c c0 c1 => e _ (by omega) (by omega)
    rw [w 0 (by decide) (by decide), w 1 (by decide) (by decide), w 2 (by decide) (by decide)]
    exact b3 f h0 h1
  · intro q q0 q1
    rw [e5] at q1
    have w : ∀ c, 0 ≤ c → c < 3 → dr (payP r k (3 * (r 5 - 1))) q c = if q < k then dr r q c else dr r (q + 1) c := fun c c0 c1 => by
      show payP r k (3 * (r 5 - 1)) (151 + 3 * q + c) = if q < k then r (151 + 3 * q + c) else r (151 + 3 * (q + 1) + c)
      unfold payP
      rw [if_neg (by omega)]
      by_cases z : q < k
      · rw [if_neg (by omega), if_pos z]
      · rw [if_pos (by omega), if_neg z]; congr 1; omega
    rw [w 0 (by decide) (by decide), w 1 (by decide) (by decide)]
    by_cases z : q < k
    · rw [if_pos z, if_pos z]; exact b4 q q0 (by omega)
    · rw [if_neg z, if_neg z]; exact b4 (q + 1) (by omega) (by omega)
  · intro p h0 h1
    rw [e 4 (by decide) (by decide)] at h1
    have w : ∀ c, 0 ≤ c → c < 20 → pr (payP r k (3 * (r 5 - 1))) p c = pr r p c := fun c c0 c1 => e _ (by have := b1.2.1; omega) (by omega)
    rw [w 0 (by decide) (by decide), w 1 (by decide) (by decide), e 3 (by decide) (by decide)]
    exact b5 p h0 h1
theorem LQ_ln {r : Int → Int} {p o n : Int} (h0 : 0 ≤ r 5) (h5 : r 5 < 8) : LQ r (lendR r p o n) := fun j hj => lendR_o h0 (by omega) (by omega) h5
theorem LQ_py {r : Int → Int} {k : Int} (hk : 0 ≤ k ∧ k < r 5) (h5 : r 5 ≤ 8) : LQ r (payP r k (3 * (r 5 - 1))) := fun j hj => by
  unfold payP
  rw [if_neg (by omega), if_neg (by omega)]
theorem wrt_RI {r : Int → Int} {p f : Int} (ri : RI r) (hp : 0 ≤ p ∧ p < r 4) (hf : 0 ≤ f ∧ f < r 3) : RI (logsR (wrtR evL r p f) p 0 f) := by
  have hA := ri.1
  have pp := AB_pp hA hp.1 hp.2
  have b3 := hA.2.1.1
  exact RI_k ri (logsR_AB (by omega) (by decide) (by omega) (wrtR_AB hp.1 pp.2.2 hf dpt_rg hA)) (KP_t (KP_wrt hp.1 pp.2.2 (by omega) (by omega)) KP_lg) (LQ_t (LQ_wrt hp.1 pp.2.2 (by omega)) LQ_lg)
theorem str_RI {r : Int → Int} {p : Int} (ri : RI r) (hp : 0 ≤ p ∧ p < r 4) : RI (leavesR (logsR r p 1 (pr r p 1)) p) := by
  have hA := ri.1
  have pp := AB_pp hA hp.1 hp.2
  have b3 := hA.2.1.1
  exact RI_k ri (leavesR_AB hp.1 pp.2.2 (logsR_AB (by omega) (by decide) (by omega) hA)) (KP_t KP_lg (KP_lv hp.1 pp.2.2)) (LQ_t LQ_lg (LQ_lv hp.1 pp.2.2))
theorem trd_RI {r : Int → Int} {p n : Int} (ri : RI r) (hp : 0 ≤ p ∧ p < r 4) (hn : 0 ≤ n) : RI (trP r p n (pr r p 0)) := by
  have hA := ri.1
  have pp := AB_pp hA hp.1 hp.2
  exact RI_k ri (trP_AB hp.1 pp.2.2 (by omega) hn hA) (KP_tr hp.1 pp.2.2 (by omega)) (LQ_tr hp.1 pp.2.2 (by omega))
section Pair2
variable {tb : Tab} {r : Int → Int} {S : Nat → Int → Int} {m : AM}
theorem p_146 {n : Int} (r_n : R32 n) (hX : tb.2.1 = strB) (h : TOP r S m) : JT tb 146 284 [vr 0, vi n] [vr 300, vi n] True [(1, 1)] S m := by
  intro d K hV hE
  obtain ⟨⟨e301, ri, hR, hl⟩, -, -, -, ⟨e1, e2, e3, -⟩, -⟩ := id h
  obtain ⟨hA, hS, hGV, hN, hG⟩ := id ri
  have b3 := hA.2.1.1
  have b4 := hA.2.1.2.1
  have b5 := hA.2.1.2.2.1
  refine w_146 hR hA e3 (by omega) r_n hl ?_ ?_
  · intro z1
    refine hE 1 1 S (mthrow m) (by simp) GRW_th (NX (TOP_q h (fun _ _ => rfl) (fun _ _ => rfl) LM_th) (fun S2 h9 => ?_))
    intro d2 K2 k2
    have e9 := h9.1.1
    subst e9
    refine q_284 (askM_L hX) hA hG h9.2.2.2.2.1.2.1 r_n (fun y1 => by first | (exact k2 _ _ _ _ (EN_th h9 1) rfl) | (exfalso; omega) | (exfalso; grind)) (fun U b y1 x eb => by first | (exfalso; omega) | (exfalso; grind))
  · intro T T1 m1 v z1 e g1 g2 g3 g4 uM
    refine hV v T m1 (fun _ => R32_of (by have a := goC_rg (ev := evL) (w := 1) (r := r) n.toNat; omega)) (GRW_S uM) (fun S2 s2 => ?_)
    intro d2 K2 k2
    obtain ⟨e9, h6⟩ := ACT_301 h g1 g3 s2
    subst e9
    refine q_284 (askM_L hX) hA hG h6 r_n (fun y1 => by first | (exfalso; omega) | (exfalso; grind)) (fun U b y1 x eb => by first | (exact k2 _ _ _ _ (TOP_act h g1 g2 g3 g4 (LM_S uM) (RI_go ri n.toNat) ((goN_AB hA n.toNat).2) s2 x) ⟨rfl, eb.trans e.symm⟩) | (exfalso; omega) | (exfalso; grind))
theorem p_147 {p f : Int} (r_p : R32 p) (r_f : R32 f) (hX : tb.2.1 = strB) (h : TOP r S m) : JT tb 147 285 [vr 0, vi p, vi f] [vr 300, vi p, vi f] True [(2, 1), (0, 2)] S m := by
  intro d K hV hE
  obtain ⟨⟨e301, ri, hR, hl⟩, -, -, -, ⟨e1, e2, e3, -⟩, -⟩ := id h
  obtain ⟨hA, hS, hGV, hN, hG⟩ := id ri
  have b3 := hA.2.1.1
  have b4 := hA.2.1.2.1
  have b5 := hA.2.1.2.2.1
  refine w_147 hR hA e3 (by omega) r_p r_f hl ?_ ?_ ?_
  · intro z1
    refine hE 2 1 S (mthrow m) (by simp) GRW_th (NX (TOP_q h (fun _ _ => rfl) (fun _ _ => rfl) LM_th) (fun S2 h9 => ?_))
    intro d2 K2 k2
    have e9 := h9.1.1
    subst e9
    refine q_285 (askD_L hX) hA hG h9.2.2.2.2.1.2.1 r_p r_f (fun y1 => by first | (exact k2 _ _ _ _ (EN_th h9 1) rfl) | (exfalso; omega) | (exfalso; grind)) (fun y1 y2 y3 => by first | (exact k2 _ _ _ _ (EN_th h9 2) rfl) | (exact absurd y3 z3) | (exact absurd z3 y3) | (exfalso; omega) | (exfalso; grind)) (fun U b y1 y2 y3 eb x _ => by first | (exact absurd y3 z3) | (exact absurd z3 y3) | (exfalso; omega) | (exfalso; grind))
  · intro z1 z2 z3
    refine hE 0 2 S (mthrow m) (by simp) GRW_th (NX (TOP_q h (fun _ _ => rfl) (fun _ _ => rfl) LM_th) (fun S2 h9 => ?_))
    intro d2 K2 k2
    have e9 := h9.1.1
    subst e9
    refine q_285 (askD_L hX) hA hG h9.2.2.2.2.1.2.1 r_p r_f (fun y1 => by first | (exact k2 _ _ _ _ (EN_th h9 1) rfl) | (exfalso; omega) | (exfalso; grind)) (fun y1 y2 y3 => by first | (exact k2 _ _ _ _ (EN_th h9 2) rfl) | (exact absurd y3 z3) | (exact absurd z3 y3) | (exfalso; omega) | (exfalso; grind)) (fun U b y1 y2 y3 eb x _ => by first | (exact absurd y3 z3) | (exact absurd z3 y3) | (exfalso; omega) | (exfalso; grind))
  · intro T T1 m1 v z1 z2 z3 e g1 g2 g3 g4 uM
    refine hV v T m1 (fun _ => R32_of (by have b := dpt_rg (r := r) (p := p) (f := f); omega)) (GRW_S uM) (fun S2 s2 => ?_)
    intro d2 K2 k2
    obtain ⟨e9, h6⟩ := ACT_301 h g1 g3 s2
    subst e9
    refine q_285 (askD_L hX) hA hG h6 r_p r_f (fun y1 => by first | (exfalso; omega) | (exfalso; grind)) (fun y1 y2 y3 => by first | (exact absurd y3 z3) | (exact absurd z3 y3) | (exfalso; omega) | (exfalso; grind)) (fun U b y1 y2 y3 eb x _ => by first | (exact k2 _ _ _ _ (TOP_act h g1 g2 g3 g4 (LM_S uM) (wrt_RI ri z1 z2) (LQ_t (LQ_wrt z1.1 (by have := (AB_pp hA z1.1 z1.2).2.2; omega) (by have := (AB_pp hA z1.1 z1.2).1; omega)) LQ_lg) s2 x) ⟨rfl, eb.trans e.symm⟩) | (exact absurd y3 z3) | (exact absurd z3 y3) | (exfalso; omega) | (exfalso; grind))
theorem p_148 {p : Int} (r_p : R32 p) (hX : tb.2.1 = strB) (h : TOP r S m) : JT tb 148 286 [vr 0, vi p] [vr 300, vi p] True [(2, 1), (0, 2)] S m := by
  intro d K hV hE
  obtain ⟨⟨e301, ri, hR, hl⟩, -, -, -, ⟨e1, e2, e3, -⟩, -⟩ := id h
  obtain ⟨hA, hS, hGV, hN, hG⟩ := id ri
  have b3 := hA.2.1.1
  have b4 := hA.2.1.2.1
  have b5 := hA.2.1.2.2.1
  refine w_148 hR hA e3 (by omega) r_p hl ?_ ?_ ?_
  · intro z1
    refine hE 2 1 S (mthrow m) (by simp) GRW_th (NX (TOP_q h (fun _ _ => rfl) (fun _ _ => rfl) LM_th) (fun S2 h9 => ?_))
    intro d2 K2 k2
    have e9 := h9.1.1
    subst e9
    refine q_286 hA h9.2.2.2.2.1.2.1 r_p (fun y1 => by first | (exact k2 _ _ _ _ (EN_th h9 1) rfl) | (exfalso; omega) | (exfalso; grind)) (fun y1 y2 => by first | (exact k2 _ _ _ _ (EN_th h9 2) rfl) | (exact absurd y2 z2) | (exact absurd z2 y2) | (exfalso; omega) | (exfalso; grind)) (fun y1 y2 => by first | (exact absurd y2 z2) | (exact absurd z2 y2) | (exfalso; omega) | (exfalso; grind))
  · intro z1 z2
    refine hE 0 2 S (mthrow m) (by simp) GRW_th (NX (TOP_q h (fun _ _ => rfl) (fun _ _ => rfl) LM_th) (fun S2 h9 => ?_))
    intro d2 K2 k2
    have e9 := h9.1.1
    subst e9
    refine q_286 hA h9.2.2.2.2.1.2.1 r_p (fun y1 => by first | (exact k2 _ _ _ _ (EN_th h9 1) rfl) | (exfalso; omega) | (exfalso; grind)) (fun y1 y2 => by first | (exact k2 _ _ _ _ (EN_th h9 2) rfl) | (exact absurd y2 z2) | (exact absurd z2 y2) | (exfalso; omega) | (exfalso; grind)) (fun y1 y2 => by first | (exact absurd y2 z2) | (exact absurd z2 y2) | (exfalso; omega) | (exfalso; grind))
  · intro T T1 z1 z2 g1 g2 g3 g4
    refine hV (pr r p 1) T m (fun _ => R32_of (by have := (AB_pp hA z1.1 z1.2).2.1; omega)) GRW_r (fun S2 s2 => ?_)
    intro d2 K2 k2
    obtain ⟨e9, h6⟩ := ACT_301 h g1 g3 s2
    subst e9
    refine q_286 hA h6 r_p (fun y1 => by first | (exfalso; omega) | (exfalso; grind)) (fun y1 y2 => by first | (exact absurd y2 z2) | (exact absurd z2 y2) | (exfalso; omega) | (exfalso; grind)) (fun y1 y2 => by first | (exact k2 _ _ _ _ (TOP_act h g1 g2 g3 g4 LM_r (str_RI ri z1) (LQ_t LQ_lg (LQ_lv z1.1 (by have := (AB_pp hA z1.1 z1.2).2.2; omega))) s2 SR_rf) ⟨rfl, rfl⟩) | (exact absurd y2 z2) | (exact absurd z2 y2) | (exfalso; omega) | (exfalso; grind))
theorem p_149 {p n : Int} (r_p : R32 p) (r_n : R32 n) (hX : tb.2.1 = strB) (h : TOP r S m) : JT tb 149 287 [vr 0, vi p, vi n] [vr 300, vi p, vi n] True [(2, 1), (1, 2), (0, 3)] S m := by
  intro d K hV hE
  obtain ⟨⟨e301, ri, hR, hl⟩, -, -, -, ⟨e1, e2, e3, -⟩, -⟩ := id h
  obtain ⟨hA, hS, hGV, hN, hG⟩ := id ri
  have b3 := hA.2.1.1
  have b4 := hA.2.1.2.1
  have b5 := hA.2.1.2.2.1
  refine w_149 hR hA e3 (by omega) r_p r_n hl ?_ ?_ ?_ ?_
  · intro z1
    refine hE 2 1 S (mthrow m) (by simp) GRW_th (NX (TOP_q h (fun _ _ => rfl) (fun _ _ => rfl) LM_th) (fun S2 h9 => ?_))
    intro d2 K2 k2
    have e9 := h9.1.1
    subst e9
    refine q_287 hA h9.2.2.2.2.1.2.1 r_p r_n (fun y1 => by first | (exact k2 _ _ _ _ (EN_th h9 1) rfl) | (exfalso; omega) | (exfalso; grind)) (fun y1 y2 => by first | (exact k2 _ _ _ _ (EN_th h9 2) rfl) | (exfalso; omega) | (exfalso; grind)) (fun y1 y2 y3 => by first | (exact k2 _ _ _ _ (EN_th h9 3) rfl) | (exact absurd y3 z3) | (exact absurd z3 y3) | (exfalso; omega) | (exfalso; grind)) (fun b y1 y2 y3 eb => by first | (exact absurd y3 z3) | (exact absurd z3 y3) | (exfalso; omega) | (exfalso; grind))
  · intro z1 z2
    refine hE 1 2 S (mthrow m) (by simp) GRW_th (NX (TOP_q h (fun _ _ => rfl) (fun _ _ => rfl) LM_th) (fun S2 h9 => ?_))
    intro d2 K2 k2
    have e9 := h9.1.1
    subst e9
    refine q_287 hA h9.2.2.2.2.1.2.1 r_p r_n (fun y1 => by first | (exact k2 _ _ _ _ (EN_th h9 1) rfl) | (exfalso; omega) | (exfalso; grind)) (fun y1 y2 => by first | (exact k2 _ _ _ _ (EN_th h9 2) rfl) | (exfalso; omega) | (exfalso; grind)) (fun y1 y2 y3 => by first | (exact k2 _ _ _ _ (EN_th h9 3) rfl) | (exact absurd y3 z3) | (exact absurd z3 y3) | (exfalso; omega) | (exfalso; grind)) (fun b y1 y2 y3 eb => by first | (exact absurd y3 z3) | (exact absurd z3 y3) | (exfalso; omega) | (exfalso; grind))
  · intro z1 z2 z3
    refine hE 0 3 S (mthrow m) (by simp) GRW_th (NX (TOP_q h (fun _ _ => rfl) (fun _ _ => rfl) LM_th) (fun S2 h9 => ?_))
    intro d2 K2 k2
    have e9 := h9.1.1
    subst e9
    refine q_287 hA h9.2.2.2.2.1.2.1 r_p r_n (fun y1 => by first | (exact k2 _ _ _ _ (EN_th h9 1) rfl) | (exfalso; omega) | (exfalso; grind)) (fun y1 y2 => by first | (exact k2 _ _ _ _ (EN_th h9 2) rfl) | (exfalso; omega) | (exfalso; grind)) (fun y1 y2 y3 => by first | (exact k2 _ _ _ _ (EN_th h9 3) rfl) | (exact absurd y3 z3) | (exact absurd z3 y3) | (exfalso; omega) | (exfalso; grind)) (fun b y1 y2 y3 eb => by first | (exact absurd y3 z3) | (exact absurd z3 y3) | (exfalso; omega) | (exfalso; grind))
  · intro T T1 v z1 z2 z3 e g1 g2 g3 g4
    refine hV v T m (fun _ => R32_of (by have pp := AB_pp hA z1.1 z1.2; have a := trM_R (x := fun k => pr r p (14 + k)) z2 (pr r p 0).toNat (fun i _ i1 => ((hA.2.2.1 p z1.1 (by omega)).2.2 i (by omega) (by omega)).1); omega)) GRW_r (fun S2 s2 => ?_)
    intro d2 K2 k2
    obtain ⟨e9, h6⟩ := ACT_301 h g1 g3 s2
    subst e9
    refine q_287 hA h6 r_p r_n (fun y1 => by first | (exfalso; omega) | (exfalso; grind)) (fun y1 y2 => by first | (exfalso; omega) | (exfalso; grind)) (fun y1 y2 y3 => by first | (exact absurd y3 z3) | (exact absurd z3 y3) | (exfalso; omega) | (exfalso; grind)) (fun b y1 y2 y3 eb => by first | (exact k2 _ _ _ _ (TOP_act h g1 g2 g3 g4 LM_r (trd_RI ri z1 (by omega)) (LQ_tr z1.1 (by have := (AB_pp hA z1.1 z1.2).2.2; omega) (by have := (AB_pp hA z1.1 z1.2).1; omega)) s2 SR_rf) ⟨rfl, by rw [eb, e]; congr 1; funext k; exact congrArg (S2 301) (by omega)⟩) | (exact absurd y3 z3) | (exact absurd z3 y3) | (exfalso; omega) | (exfalso; grind))
theorem p_150 {p q n : Int} (r_p : R32 p) (r_q : R32 q) (r_n : R32 n) (hX : tb.2.1 = strB) (h : TOP r S m) : JT tb 150 288 [vr 0, vi p, vi q, vi n] [vr 300, vi p, vi q, vi n] True [(2, 1), (1, 2), (0, 3)] S m := by
  intro d K hV hE
  obtain ⟨⟨e301, ri, hR, hl⟩, -, -, -, ⟨e1, e2, e3, -⟩, -⟩ := id h
  obtain ⟨hA, hS, hGV, hN, hG⟩ := id ri
  have b3 := hA.2.1.1
  have b4 := hA.2.1.2.1
  have b5 := hA.2.1.2.2.1
  refine w_150 hR hA e3 (by omega) r_p r_q r_n hl ?_ ?_ ?_ ?_
  · intro z1
    refine hE 2 1 S (mthrow m) (by simp) GRW_th (NX (TOP_q h (fun _ _ => rfl) (fun _ _ => rfl) LM_th) (fun S2 h9 => ?_))
    intro d2 K2 k2
    have e9 := h9.1.1
    subst e9
    refine q_288 hA h9.2.2.2.2.1.2.1 r_p r_q r_n (fun y1 => by first | (exact k2 _ _ _ _ (EN_th h9 1) rfl) | (exfalso; omega) | (exfalso; grind)) (fun y1 y2 y3 => by first | (exact k2 _ _ _ _ (EN_th h9 2) rfl) | (exfalso; omega) | (exfalso; grind)) (fun y1 y2 y3 y4 y5 => by first | (exact k2 _ _ _ _ (EN_th h9 3) rfl) | (exfalso; omega) | (exfalso; grind)) (fun b y1 y2 y3 y4 y5 eb => by first | (exfalso; omega) | (exfalso; grind))
  · intro z1 z2 z3
    refine hE 1 2 S (mthrow m) (by simp) GRW_th (NX (TOP_q h (fun _ _ => rfl) (fun _ _ => rfl) LM_th) (fun S2 h9 => ?_))
    intro d2 K2 k2
    have e9 := h9.1.1
    subst e9
    refine q_288 hA h9.2.2.2.2.1.2.1 r_p r_q r_n (fun y1 => by first | (exact k2 _ _ _ _ (EN_th h9 1) rfl) | (exfalso; omega) | (exfalso; grind)) (fun y1 y2 y3 => by first | (exact k2 _ _ _ _ (EN_th h9 2) rfl) | (exfalso; omega) | (exfalso; grind)) (fun y1 y2 y3 y4 y5 => by first | (exact k2 _ _ _ _ (EN_th h9 3) rfl) | (exfalso; omega) | (exfalso; grind)) (fun b y1 y2 y3 y4 y5 eb => by first | (exfalso; omega) | (exfalso; grind))
  · intro z1 z2 z3 z4 z5
    refine hE 0 3 S (mthrow m) (by simp) GRW_th (NX (TOP_q h (fun _ _ => rfl) (fun _ _ => rfl) LM_th) (fun S2 h9 => ?_))
    intro d2 K2 k2
    have e9 := h9.1.1
    subst e9
    refine q_288 hA h9.2.2.2.2.1.2.1 r_p r_q r_n (fun y1 => by first | (exact k2 _ _ _ _ (EN_th h9 1) rfl) | (exfalso; omega) | (exfalso; grind)) (fun y1 y2 y3 => by first | (exact k2 _ _ _ _ (EN_th h9 2) rfl) | (exfalso; omega) | (exfalso; grind)) (fun y1 y2 y3 y4 y5 => by first | (exact k2 _ _ _ _ (EN_th h9 3) rfl) | (exfalso; omega) | (exfalso; grind)) (fun b y1 y2 y3 y4 y5 eb => by first | (exfalso; omega) | (exfalso; grind))
  · intro T T1 z1 z2 z3 z4 z5 g1 g2 g3 g4
    refine hV (r 5) T m (fun _ => R32_of (by omega)) GRW_r (fun S2 s2 => ?_)
    intro d2 K2 k2
    obtain ⟨e9, h6⟩ := ACT_301 h g1 g3 s2
    subst e9
    refine q_288 hA h6 r_p r_q r_n (fun y1 => by first | (exfalso; omega) | (exfalso; grind)) (fun y1 y2 y3 => by first | (exfalso; omega) | (exfalso; grind)) (fun y1 y2 y3 y4 y5 => by first | (exfalso; omega) | (exfalso; grind)) (fun b y1 y2 y3 y4 y5 eb => by first | (exact k2 _ _ _ _ (TOP_act h g1 g2 g3 g4 LM_r (RI_ln ri z5 z1 z2 z4) (LQ_ln (by omega) z5) s2 SR_rf) ⟨rfl, eb⟩) | (exfalso; omega) | (exfalso; grind))
theorem p_151 {k : Int} (r_k : R32 k) (hX : tb.2.1 = strB) (h : TOP r S m) : JT tb 151 289 [vr 0, vi k] [vr 300, vi k] True [(2, 1), (0, 2)] S m := by
  intro d K hV hE
  obtain ⟨⟨e301, ri, hR, hl⟩, -, -, -, ⟨e1, e2, e3, -⟩, -⟩ := id h
  obtain ⟨hA, hS, hGV, hN, hG⟩ := id ri
  have b3 := hA.2.1.1
  have b4 := hA.2.1.2.1
  have b5 := hA.2.1.2.2.1
  refine w_151 hR hA e3 (by omega) r_k hN hl ?_ ?_ ?_
  · intro z1
    refine hE 2 1 S (mthrow m) (by simp) GRW_th (NX (TOP_q h (fun _ _ => rfl) (fun _ _ => rfl) LM_th) (fun S2 h9 => ?_))
    intro d2 K2 k2
    have e9 := h9.1.1
    subst e9
    refine q_289 hA h9.2.2.2.2.1.2.1 r_k (fun y1 => by first | (exact k2 _ _ _ _ (EN_th h9 1) rfl) | (exfalso; omega) | (exfalso; grind)) (fun y1 y2 => by first | (exact k2 _ _ _ _ (EN_th h9 2) rfl) | (exact absurd z2 y2) | (exfalso; omega) | (exfalso; grind)) (fun U y1 y2 y3 eU => by first | (exact absurd ⟨y2, y3⟩ z2) | (exact absurd z2 y2) | (exfalso; omega) | (exfalso; grind))
  · intro z1 z2
    refine hE 0 2 S (mthrow m) (by simp) GRW_th (NX (TOP_q h (fun _ _ => rfl) (fun _ _ => rfl) LM_th) (fun S2 h9 => ?_))
    intro d2 K2 k2
    have e9 := h9.1.1
    subst e9
    refine q_289 hA h9.2.2.2.2.1.2.1 r_k (fun y1 => by first | (exact k2 _ _ _ _ (EN_th h9 1) rfl) | (exfalso; omega) | (exfalso; grind)) (fun y1 y2 => by first | (exact k2 _ _ _ _ (EN_th h9 2) rfl) | (exact absurd z2 y2) | (exfalso; omega) | (exfalso; grind)) (fun U y1 y2 y3 eU => by first | (exact absurd ⟨y2, y3⟩ z2) | (exact absurd z2 y2) | (exfalso; omega) | (exfalso; grind))
  · intro T T1 z1 z2 g1 g2 g3 g4
    refine hV (dr r k 2) T m (fun _ => R32_of (by have := hS k z1.1 z1.2; omega)) GRW_r (fun S2 s2 => ?_)
    intro d2 K2 k2
    obtain ⟨e9, h6⟩ := ACT_301 h g1 g3 s2
    subst e9
    refine q_289 hA h6 r_k (fun y1 => by first | (exfalso; omega) | (exfalso; grind)) (fun y1 y2 => by first | (exact absurd z2 y2) | (exfalso; omega) | (exfalso; grind)) (fun U y1 y2 y3 eU => by first | (exact k2 _ _ _ _ (TOP_act h g1 g2 g3 g4 LM_r (RI_py ri z1 (payP_AB z1 hA)) (LQ_py z1 b5.2) s2 (by rw [eU]; exact SR_rf)) ⟨rfl, rfl⟩) | (exact absurd ⟨y2, y3⟩ z2) | (exact absurd z2 y2) | (exfalso; omega) | (exfalso; grind))
theorem p_152 {f n : Int} (r_f : R32 f) (r_n : R32 n) (hX : tb.2.1 = strB) (h : TOP r S m) : JT tb 152 290 [vr 0, vi f, vi n] [vr 300, vi f, vi n] True [(2, 1), (1, 2)] S m := by
  intro d K hV hE
  obtain ⟨⟨e301, ri, hR, hl⟩, -, -, -, ⟨e1, e2, e3, -⟩, -⟩ := id h
  obtain ⟨hA, hS, hGV, hN, hG⟩ := id ri
  have b3 := hA.2.1.1
  have b4 := hA.2.1.2.1
  have b5 := hA.2.1.2.2.1
  refine w_152 hR hA e3 (by omega) r_f r_n hl ?_ ?_ ?_
  · intro z1
    refine hE 2 1 S (mthrow m) (by simp) GRW_th (NX (TOP_q h (fun _ _ => rfl) (fun _ _ => rfl) LM_th) (fun S2 h9 => ?_))
    intro d2 K2 k2
    have e9 := h9.1.1
    subst e9
    refine q_290 hA h9.2.2.2.2.1.2.1 r_f r_n (fun y1 => by first | (exact k2 _ _ _ _ (EN_th h9 1) rfl) | (exfalso; omega) | (exfalso; grind)) (fun y1 y2 => by first | (exact k2 _ _ _ _ (EN_th h9 2) rfl) | (exfalso; omega) | (exfalso; grind)) (fun y1 y2 => by first | (exfalso; omega) | (exfalso; grind))
  · intro z1 z2
    refine hE 1 2 S (mthrow m) (by simp) GRW_th (NX (TOP_q h (fun _ _ => rfl) (fun _ _ => rfl) LM_th) (fun S2 h9 => ?_))
    intro d2 K2 k2
    have e9 := h9.1.1
    subst e9
    refine q_290 hA h9.2.2.2.2.1.2.1 r_f r_n (fun y1 => by first | (exact k2 _ _ _ _ (EN_th h9 1) rfl) | (exfalso; omega) | (exfalso; grind)) (fun y1 y2 => by first | (exact k2 _ _ _ _ (EN_th h9 2) rfl) | (exfalso; omega) | (exfalso; grind)) (fun y1 y2 => by first | (exfalso; omega) | (exfalso; grind))
  · intro T T1 z1 z2 g1 g2 g3 g4
    refine hV (fr r f 0) T m (fun _ => R32_of (by have := AB_ff hA z1.1 z1.2; omega)) GRW_r (fun S2 s2 => ?_)
    intro d2 K2 k2
    obtain ⟨e9, h6⟩ := ACT_301 h g1 g3 s2
    subst e9
    refine q_290 hA h6 r_f r_n (fun y1 => by first | (exfalso; omega) | (exfalso; grind)) (fun y1 y2 => by first | (exfalso; omega) | (exfalso; grind)) (fun y1 y2 => by first | (exact k2 _ _ _ _ (TOP_act h g1 g2 g3 g4 LM_r (RI_k ri (fld_AB hA (by omega) (Or.inl ⟨rfl, z2⟩)) (KP_put (by omega) (by omega)) (LQ_put (by omega))) (LQ_put (by omega)) s2 SR_rf) ⟨rfl, rfl⟩) | (exfalso; omega) | (exfalso; grind))
theorem p_153 {f n : Int} (r_f : R32 f) (r_n : R32 n) (hX : tb.2.1 = strB) (h : TOP r S m) : JT tb 153 291 [vr 0, vi f, vi n] [vr 300, vi f, vi n] True [(2, 1), (1, 2)] S m := by
  intro d K hV hE
  obtain ⟨⟨e301, ri, hR, hl⟩, -, -, -, ⟨e1, e2, e3, -⟩, -⟩ := id h
  obtain ⟨hA, hS, hGV, hN, hG⟩ := id ri
  have b3 := hA.2.1.1
  have b4 := hA.2.1.2.1
  have b5 := hA.2.1.2.2.1
  refine w_153 hR hA e3 (by omega) r_f r_n hl ?_ ?_ ?_
  · intro z1
    refine hE 2 1 S (mthrow m) (by simp) GRW_th (NX (TOP_q h (fun _ _ => rfl) (fun _ _ => rfl) LM_th) (fun S2 h9 => ?_))
    intro d2 K2 k2
    have e9 := h9.1.1
    subst e9
    refine q_291 hA h9.2.2.2.2.1.2.1 r_f r_n (fun y1 => by first | (exact k2 _ _ _ _ (EN_th h9 1) rfl) | (exfalso; omega) | (exfalso; grind)) (fun y1 y2 => by first | (exact k2 _ _ _ _ (EN_th h9 2) rfl) | (exfalso; omega) | (exfalso; grind)) (fun b u y1 y2 eu eb hAB => by first | (exfalso; omega) | (exfalso; grind))
  · intro z1 z2
    refine hE 1 2 S (mthrow m) (by simp) GRW_th (NX (TOP_q h (fun _ _ => rfl) (fun _ _ => rfl) LM_th) (fun S2 h9 => ?_))
    intro d2 K2 k2
    have e9 := h9.1.1
    subst e9
    refine q_291 hA h9.2.2.2.2.1.2.1 r_f r_n (fun y1 => by first | (exact k2 _ _ _ _ (EN_th h9 1) rfl) | (exfalso; omega) | (exfalso; grind)) (fun y1 y2 => by first | (exact k2 _ _ _ _ (EN_th h9 2) rfl) | (exfalso; omega) | (exfalso; grind)) (fun b u y1 y2 eu eb hAB => by first | (exfalso; omega) | (exfalso; grind))
  · intro T T1 v z1 z2 e g1 g2 g3 g4
    refine hV v T m (fun _ => R32_of (by have := AB_ff hA z1.1 z1.2; split at e <;> omega)) GRW_r (fun S2 s2 => ?_)
    intro d2 K2 k2
    obtain ⟨e9, h6⟩ := ACT_301 h g1 g3 s2
    subst e9
    refine q_291 hA h6 r_f r_n (fun y1 => by first | (exfalso; omega) | (exfalso; grind)) (fun y1 y2 => by first | (exfalso; omega) | (exfalso; grind)) (fun b u y1 y2 eu eb hAB => by first | (exact k2 _ _ _ _ (TOP_act h g1 g2 g3 g4 LM_r (RI_k ri (fld_AB hA (by omega) (Or.inr ⟨rfl, by have := AB_ff hA z1.1 z1.2; split at e <;> omega⟩)) (KP_put (by omega) (by omega)) (LQ_put (by omega))) (LQ_put (by omega)) s2 (by rw [show u = v from eu.trans e.symm]; exact SR_rf)) ⟨rfl, by rw [eb]; exact eu.trans e.symm⟩) | (exfalso; omega) | (exfalso; grind))
end Pair2
