/-! ===== SNOWNAMES: days ahead, what is remembered and kept ===== -/
theorem isW_m {k : Int} (h : 0 ≤ k ∧ k < 12) : isW (96 + 17 * k.toNat) := by unfold isW; omega
theorem dis_2m {k : Int} (h : 0 ≤ k ∧ k < 12) : disW 2 (96 + 17 * k.toNat) := by unfold disW; omega
theorem dis_m2 {k : Int} (h : 0 ≤ k ∧ k < 12) : disW (96 + 17 * k.toNat) 2 := by unfold disW; omega
theorem dis_19 : disW 19 2 := by unfold disW; omega
theorem dis_219 : disW 2 19 := by unfold disW; omega
theorem dis_36 : disW 36 2 := by unfold disW; omega
theorem dis_236 : disW 2 36 := by unfold disW; omega
theorem AB_seed {r : Int → Int} (h : AB r) {v : Int} : AB (putR r 12 v) := by
  have e : ∀ j, j ≠ 12 → putR r 12 v j = r j := fun j hj => if_neg hj
  obtain ⟨b0, b1, b2, b3, b4, b5⟩ := h
  refine ⟨fun j hj => by rw [e j hj]; exact b0 j hj, ?_, ?_, ?_, ?_, ?_⟩
  · unfold B1 at *
    simp only [e _ (show (3 : Int) ≠ 12 by decide), e _ (show (4 : Int) ≠ 12 by decide), e _ (show (5 : Int) ≠ 12 by decide), e _ (show (0 : Int) ≠ 12 by decide), e _ (show (1 : Int) ≠ 12 by decide), e _ (show (8 : Int) ≠ 12 by decide), e _ (show (11 : Int) ≠ 12 by decide)]
    exact b1
  · intro p h0 h1
    have g := b2 p h0 h1
    have w : ∀ k, 0 ≤ k → k < 20 → pr (putR r 12 v) p k = pr r p k := fun k k0 k1 => e _ (by omega)
    refine ⟨by rw [w 0 (by decide) (by decide)]; exact g.1, by rw [w 1 (by decide) (by decide)]; exact g.2.1, fun k k0 k1 => ?_⟩
    rw [w _ (by omega) (by omega), w _ (by omega) (by omega)]
    exact g.2.2 k k0 k1
  · intro f h0 h1
    have g := b3 f h0 h1
    have w : ∀ k, 0 ≤ k → k < 3 → fr (putR r 12 v) f k = fr r f k := fun k k0 k1 => e _ (by omega)
    rw [w 0 (by decide) (by decide), w 1 (by decide) (by decide), w 2 (by decide) (by decide)]
    exact g
  · intro k h0 h1
    have h1' : k < r 5 := by rw [e 5 (by decide)] at h1; exact h1
    have g := b4 k h0 h1'
    have w : ∀ q, 0 ≤ q → q < 3 → dr (putR r 12 v) k q = dr r k q := fun q k0 k1 => e _ (by omega)
    rw [w 0 (by decide) (by decide), w 1 (by decide) (by decide)]
    exact g
  · intro p h0 h1
    have h1' : p < r 4 := by rw [e 4 (by decide)] at h1; exact h1
    have g := b5 p h0 h1'
    have w : ∀ k, 0 ≤ k → k < 20 → pr (putR r 12 v) p k = pr r p k := fun k k0 k1 => e _ (by omega)
    rw [w 0 (by decide) (by decide), w 1 (by decide) (by decide), e 3 (by decide)]
    exact g
theorem RW_seed {S : Nat → Int → Int} {w : Nat} {r : Int → Int} {v : Int} (hR : RW S w r) : RW (upS S w 13 v) w (putR r 12 v) := by
  obtain ⟨⟨c0, c1, c2, c3⟩, cf, cp, cd, cl, cs⟩ := hR
  have o : ∀ k : Nat, k ≠ 0 → upS S w 13 v (w + k) = S (w + k) := fun k hk => if_neg (by omega)
  have e : ∀ j, j ≠ 12 → putR r 12 v j = r j := fun j hj => if_neg hj
  have z : ∀ j, j ≠ 13 → upS S w 13 v w j = S w j := fun j hj => by rw [upS_at, if_neg (fun y => hj y.2)]
  refine ⟨⟨by rw [z 0 (by decide), e 3 (by decide)]; exact c0, by rw [z 4 (by decide), e 4 (by decide)]; exact c1, by rw [upS_at, if_pos ⟨rfl, rfl⟩]; exact (if_pos rfl).symm, by rw [z 14 (by decide), e 0 (by decide)]; exact c3⟩, ?_, ?_, ?_, ?_, ?_⟩
  · intro f f0 f1
    rw [e 3 (by decide)] at f1
    have w3 : ∀ k, 0 ≤ k → k < 3 → fr (putR r 12 v) f k = fr r f k := fun k k0 k1 => e _ (by omega)
    rw [o 1 (by decide), o 2 (by decide), o 3 (by decide), w3 0 (by decide) (by decide), w3 1 (by decide) (by decide), w3 2 (by decide) (by decide)]
    exact cf f f0 f1
  · intro p p0 p1
    rw [e 4 (by decide)] at p1
    have w3 : ∀ k, 0 ≤ k → k < 20 → pr (putR r 12 v) p k = pr r p k := fun k k0 k1 => e _ (by omega)
    have g := cp p p0 p1
    rw [o 4 (by decide), o 5 (by decide), o 6 (by decide), o 7 (by decide), o 8 (by decide), w3 0 (by decide) (by decide), w3 1 (by decide) (by decide)]
    refine ⟨g.1, g.2.1, fun k k0 k1 => ?_, fun h k k0 k1 => ?_⟩
    · rw [show pr (putR r 12 v) p (2 + k) = pr r p (2 + k) from e _ (by omega)]; exact g.2.2.1 k k0 k1
    · rw [show pr (putR r 12 v) p (8 + k) = pr r p (8 + k) from e _ (by omega), show pr (putR r 12 v) p (14 + k) = pr r p (14 + k) from e _ (by omega)]; exact g.2.2.2 h k k0 k1
  · unfold RWd at *
    rw [o 9 (by decide), o 10 (by decide), o 11 (by decide), o 12 (by decide), e 5 (by decide)]
    refine ⟨cd.1, fun k k0 k1 => ?_⟩
    have w3 : ∀ q, 0 ≤ q → q < 3 → dr (putR r 12 v) k q = dr r k q := fun q q0 q1 => e _ (by omega)
    rw [w3 0 (by decide) (by decide), w3 1 (by decide) (by decide), w3 2 (by decide) (by decide)]
    exact cd.2 k k0 k1
  · unfold RWl at *
    rw [o 13 (by decide), o 14 (by decide), e 11 (by decide)]
    refine ⟨cl.1, fun k c k0 k1 c0 c1 => ?_⟩
    rw [show gr (putR r 12 v) k c = gr r k c from e _ (by omega)]
    exact cl.2 k c k0 k1 c0 c1
  · intro j j0 j1
    rw [o 15 (by decide), e _ (by omega)]
    exact cs j j0 j1
/-- a row is remembered -/
def REM (S T : Nat → Int → Int) : Prop := ∃ (w : Nat) (o c : Int), ((S 0 9 < 12 ∧ o = S 0 8 ∧ c = S 0 9) ∨ (S 0 9 = 12 ∧ o = (S 0 8 + 1) % 12 ∧ c = S 0 9 - 1)) ∧ w = 96 + 17 * ((o + c) % 12).toNat ∧ (∀ a, a ≠ 0 → (a < w ∨ w + 17 ≤ a) → T a = S a) ∧ (T 0 8 = o ∧ T 0 9 = c + 1 ∧ ∀ j, j ≠ 8 → j ≠ 9 → T 0 j = S 0 j) ∧ (∀ r, AB r → RW S 2 r → RW T w r) ∧ T w 15 = S 2 15
theorem REM_of {S U V : Nat → Int → Int} {o c : Int} (ho : 0 ≤ o ∧ o < 12) (hc : 0 ≤ c ∧ c ≤ 11) (h : (S 0 9 < 12 ∧ o = S 0 8 ∧ c = S 0 9) ∨ (S 0 9 = 12 ∧ o = (S 0 8 + 1) % 12 ∧ c = S 0 9 - 1)) (hU : FxE 0 S U) (u8 : U 0 8 = o) (u0 : ∀ j, j ≠ 8 → j ≠ 9 → U 0 j = S 0 j) (C : CPw U V (96 + 17 * ((o + c) % 12).toNat) 2) {x : Int} (hx : x = c + 1) : REM S (upS V 0 9 x) := by
  have w0 : 96 ≤ 96 + 17 * ((o + c) % 12).toNat := by omega
  have E : ∀ a, a < 96 + 17 * ((o + c) % 12).toNat ∨ 96 + 17 * ((o + c) % 12).toNat + 17 ≤ a → V a = U a := C.1
  refine ⟨96 + 17 * ((o + c) % 12).toNat, o, c, h, rfl, fun a a0 a1 => ?_, ⟨?_, ?_, fun j j8 j9 => ?_⟩, fun r hA hR => ?_, ?_⟩
  · rw [up_lit a0, E a a1]; exact hU a a0
  · rw [upS_at, if_neg (fun z => by omega), E 0 (by omega)]; exact u8
  · rw [upS_at, if_pos ⟨rfl, rfl⟩]; exact hx
  · rw [upS_at, if_neg (fun z => j9 z.2), E 0 (by omega)]; exact u0 j j8 j9
  · have hRU : RW U 2 r := RW_k hR (fun k hk => hU _ (by omega))
    exact RW_k (RW_cp hA hRU C) (fun k hk => up_lit (by omega))
  · rw [up_lit (by omega)]
    have e := C.2.1.2.2.2.2
    rw [e, hU 2 (by decide)]
theorem putR_12 {r : Int → Int} : putR r 12 (r 12) = r := by
  funext j
  unfold putR
  by_cases e : j = 12
  · rw [if_pos e, e]
  · rw [if_neg e]
theorem spN_t {c : Int → Int} {w x : Int} (h : 0 ≤ x) : spN c w (x + 1).toNat = if spN c w x.toNat = -1 then c (x + 1) else if w = 0 then (if spN c w x.toNat < c (x + 1) then spN c w x.toNat else c (x + 1)) else (if c (x + 1) < spN c w x.toNat then spN c w x.toNat else c (x + 1)) := by
  rw [show (x + 1).toNat = x.toNat + 1 by omega]
  show (if spN c w x.toNat = -1 then c ((x.toNat : Int) + 1) else if w = 0 then (if spN c w x.toNat < c ((x.toNat : Int) + 1) then spN c w x.toNat else c ((x.toNat : Int) + 1)) else (if c ((x.toNat : Int) + 1) < spN c w x.toNat then spN c w x.toNat else c ((x.toNat : Int) + 1))) = _
  rw [Int.toNat_of_nonneg h]
theorem spN_1 {c : Int → Int} {w : Int} (h : w ≠ 0) : ∀ k : Nat, spN c w k = spN c 1 k
  | 0 => rfl
  | k + 1 => by
    show (if spN c w k = -1 then c ((k : Int) + 1) else if w = 0 then (if spN c w k < c ((k : Int) + 1) then spN c w k else c ((k : Int) + 1)) else (if c ((k : Int) + 1) < spN c w k then spN c w k else c ((k : Int) + 1))) = (if spN c 1 k = -1 then c ((k : Int) + 1) else if (1 : Int) = 0 then (if spN c 1 k < c ((k : Int) + 1) then spN c 1 k else c ((k : Int) + 1)) else (if c ((k : Int) + 1) < spN c 1 k then spN c 1 k else c ((k : Int) + 1)))
    rw [spN_1 h k, if_neg h, if_neg (show ¬ (1 : Int) = 0 by decide)]
/-- the least and the greatest of x seeds -/
def spV (c : Int → Int) (x a b : Int) : Prop := (0 ≤ a ∧ a ≤ 6) ∧ (0 ≤ b ∧ b ≤ 6) ∧ (x = 0 → a = 6 ∧ b = 0) ∧ (0 < x → a = spN c 0 x.toNat ∧ b = spN c 1 x.toNat)
theorem spV_s {c : Int → Int} {x a b v : Int} (h0 : 0 ≤ x) (h : spV c x a b) (hv : v = c (x + 1)) (hb : 0 ≤ v ∧ v ≤ 6) : spV c (x + 1) (if v < a then v else a) (if b < v then v else b) := by
  obtain ⟨h1, h2, h3, h4⟩ := h
  refine ⟨by split <;> omega, by split <;> omega, fun z => by omega, fun _ => ?_⟩
  rw [spN_t h0, spN_t h0, ← hv]
  by_cases z : x = 0
  · obtain ⟨e1, e2⟩ := h3 z
    subst z
    rw [if_pos (show spN c 0 (0 : Int).toNat = -1 from rfl), if_pos (show spN c 1 (0 : Int).toNat = -1 from rfl)]
    constructor <;> split <;> omega
  · obtain ⟨e1, e2⟩ := h4 (by omega)
    have k1 : (if a = -1 then v else if (0 : Int) = 0 then (if a < v then a else v) else (if v < a then a else v)) = (if v < a then v else a) := by rw [if_neg (show ¬ a = -1 by omega), if_pos rfl]; split <;> split <;> omega
    have k2 : (if b = -1 then v else if (1 : Int) = 0 then (if b < v then b else v) else (if v < b then b else v)) = (if b < v then v else b) := by rw [if_neg (show ¬ b = -1 by omega), if_neg (show ¬ (1 : Int) = 0 by decide)]; split <;> split <;> omega
    rw [← e1, ← e2]
    exact ⟨k1.symm, k2.symm⟩
theorem EWu {S T : Nat → Int → Int} {i v : Int} {w : Nat} (h : EW S T w) : EW S (upS T w i v) w := fun a ha => (up_lit (by omega)).trans (h a ha)
theorem bits_6 : ∀ s : Fin 64, 0 ≤ bitsM (s : Nat) 31 ∧ bitsM (s : Nat) 31 ≤ 6 := by decide +kernel
theorem bits6 {s : Int} (h : 0 ≤ s ∧ s < 64) : 0 ≤ bitsM s 31 ∧ bitsM s 31 ≤ 6 := by
  have e := bits_6 ⟨s.toNat, by omega⟩
  dsimp only at e
  rw [Int.toNat_of_nonneg h.1] at e
  exact e
section Snow4
variable {tb : Tab} {d : Nat} {m : AM} {K : Out → AM → Prop} {S : Nat → Int → Int} {r : Int → Int}
theorem hs_186 {E : Nat} : pg.2.1 186 E = none := rfl
theorem k186_0 : pg.1 186 0 = [.aload 0, .iload 1, .invokeinterface 142 2, .iload 2, .bipush 0, .bipush 60, .invokeinterface 145 3, .aload 0, .getfield 904, .aload 0, .getfield 903, .invokeinterface 106 2, .bipush 0, .istore 4, .jsr 26] := rfl
theorem a186_0 {tb : Tab} {d : Nat} {K : Out → AM → Prop} {ls st : List AV} {m : AM} : At tb d 186 K 0 ls st m = wpB tb (pg.2.1 186) (Runs tb pg d) K (At tb d 186 K) [.aload 0, .iload 1, .invokeinterface 142 2, .iload 2, .bipush 0, .bipush 60, .invokeinterface 145 3, .aload 0, .getfield 904, .aload 0, .getfield 903, .invokeinterface 106 2, .bipush 0, .istore 4, .jsr 26] ls st m := At.eq k186_0
theorem k186_26 : pg.1 186 26 = [.iload 4, .iload 2, .if_icmp .ge 45, .aload 0, .getfield 904, .invokeinterface 1 1, .iinc 4 1, .goto 26] := rfl
theorem a186_26 {tb : Tab} {d : Nat} {K : Out → AM → Prop} {ls st : List AV} {m : AM} : At tb d 186 K 26 ls st m = wpB tb (pg.2.1 186) (Runs tb pg d) K (At tb d 186 K) [.iload 4, .iload 2, .if_icmp .ge 45, .aload 0, .getfield 904, .invokeinterface 1 1, .iinc 4 1, .goto 26] ls st m := At.eq k186_26
theorem k186_45 : pg.1 186 45 = [.iload 3, .ifCond .eq 60, .aload 0, .getfield 904, .iload 1, .invokeinterface 112 2, .goto 69] := rfl
theorem a186_45 {tb : Tab} {d : Nat} {K : Out → AM → Prop} {ls st : List AV} {m : AM} : At tb d 186 K 45 ls st m = wpB tb (pg.2.1 186) (Runs tb pg d) K (At tb d 186 K) [.iload 3, .ifCond .eq 60, .aload 0, .getfield 904, .iload 1, .invokeinterface 112 2, .goto 69] ls st m := At.eq k186_45
theorem k186_60 : pg.1 186 60 = [.aload 0, .getfield 904, .getfield 802, .iload 1, .iaload, .jsr 69] := rfl
theorem a186_60 {tb : Tab} {d : Nat} {K : Out → AM → Prop} {ls st : List AV} {m : AM} : At tb d 186 K 60 ls st m = wpB tb (pg.2.1 186) (Runs tb pg d) K (At tb d 186 K) [.aload 0, .getfield 904, .getfield 802, .iload 1, .iaload, .jsr 69] ls st m := At.eq k186_60
theorem k186_69 : pg.1 186 69 = [.ireturn] := rfl
theorem a186_69 {tb : Tab} {d : Nat} {K : Out → AM → Prop} {ls st : List AV} {m : AM} : At tb d 186 K 69 ls st m = wpB tb (pg.2.1 186) (Runs tb pg d) K (At tb d 186 K) [.ireturn] ls st m := At.eq k186_69
theorem w_186 {f n w : Int} (hR : RW S 2 r) (hA : AB r) (hf : R32 f) (hn : R32 n) (hv : R32 w) (hl : LWo m (S 2 15) (lawD r)) (hX1 : ¬ (0 ≤ f ∧ f < r 3) → K (.inr 2) (X S (mthrow m))) (hX2 : (0 ≤ f ∧ f < r 3) → ¬ (0 ≤ n ∧ n ≤ 60) → K (.inr 1) (X S (mthrow m))) (hK : ∀ T m1 v, (0 ≤ f ∧ f < r 3) → (0 ≤ n ∧ n ≤ 60) → (w ≠ 0 → v = setZ ((goN evL 0 r n.toNat) 4) (fun p => pr (goN evL 0 r n.toNat) p 1 = f)) → (w = 0 → v = fr (goN evL 0 r n.toNat) f 1) → EW S T 19 → MS m m1 → K (.inl (some (vi v))) (X T m1)) : Runs tb pg (d + 6) 186 [vr 0, vi f, vi n, vi w] (X S m) K := by
  have hw := isW_2
  have b3 := hA.2.1.1
  have b4 := hA.2.1.2.1
  have b5 := hA.2.1.2.2.1
  have uhf := hf
  unfold R32 at uhf
  have uhn := hn
  unfold R32 at uhn
  have uhv := hv
  unfold R32 at uhv
  have hw9 := isW_19
  have hL : ∀ T0 : Nat → Int → Int, (0 ≤ f ∧ f < r 3) → (0 ≤ n ∧ n ≤ 60) → RW T0 19 r → EW S T0 19 → T0 19 15 = S 2 15 → At tb (d + 5) 186 K 26 [vr 0, vi f, vi n, vi w, vi 0] [] (X T0 m) := by
    intro T0 z hn9 hT0 hE0 hl0
    have gA : ∀ k, AB (goN evL 0 r k) ∧ LQ r (goN evL 0 r k) := goN_AB hA
    have hL26 : (fun i : Int => ∀ (m1 : AM) (T : Nat → Int → Int), (RW T 19 (goN evL 0 r i.toNat)) → (EW S T 19) → (T 19 15 = S 2 15) → (MS m m1) → At tb (d + 5) 186 K 26 [vr 0, vi f, vi n, vi w, vi i] [] (X T m1)) 0 := by
      refine loopZ (fun i : Int => ∀ (m1 : AM) (T : Nat → Int → Int), (RW T 19 (goN evL 0 r i.toNat)) → (EW S T 19) → (T 19 15 = S 2 15) → (MS m m1) → At tb (d + 5) 186 K 26 [vr 0, vi f, vi n, vi w, vi i] [] (X T m1)) (n) (by omega) ?_ ?_
      · intro i h0 h1 h9 m1 T hT hE hlq hM
        have hlw : LWo m1 (T 19 15) (lawD (goN evL 0 r i.toNat)) := by rw [hlq, lawD_LQ (gA i.toNat).2]; exact LWo_s hM hl
        have gs := goN_s (ev := evL) (w := 0) (r := r) h0
        rw [a186_26]
        repeat' (first | omega | (exact h9 m2 T2 (by rw [gs]; exact x2) (EW_t hE E2) (l2.trans hlq) (MS_t hM M2)) | simp only [w_aload, w_iload, w_call, w_iconst, x_g904_0, x_g903_0, w_istore, w_fall, Int.reduceToNat, w_ifc, cI, w_iinc, lgB, Nat.reduceSub, w_goto, w_if, x_g802_w0, x_iald, w_ialoads, w_ialoadw, w_ireturn, isA_w1, isA_w2, isA_w3, isA_w4, isA_w5, isA_w6, isA_w7, isA_w8, isA_w10, isA_w11, isA_w12, isA_w14, isA_w15, isA_w16, len_w1, len_w2, len_w3, len_w4, len_w5, len_w6, len_w7, len_w8, len_w10, len_w11, len_w12, len_w14, len_w15, len_w16, Int.cast_ofNat_Int, a186_0, a186_45, a186_60, a186_69, R32, List.getElem?_cons_zero, List.getElem?_cons_succ, List.set_cons_zero, List.set_cons_succ, List.cons_append, List.nil_append, List.replicate_succ, List.replicate_zero, List.take_succ_cons, List.take_zero, List.drop_succ_cons, List.drop_zero, List.reverse_cons, List.reverse_nil, List.length_cons, List.length_nil, Option.toList, true_and, and_true, eq_self, ↓reduceIte, not_true_eq_false, not_false_eq_true, true_or, or_true, hw, x_throw, hs_186, hw9] | (with_reducible refine w_1 hw9 hT (gA i.toNat).1 hlw (fun T2 m2 x2 E2 l2 M2 => ?_)) | with_reducible refine And.intro ?_ ?_ | with_reducible intro _)
        all_goals (try (first | omega | contradiction | omega))
      · intro m1 T hT hE hlq hM
        have e3 : goN evL 0 r n.toNat 3 = r 3 := goN_o hA (by decide) _
        have e9 := (hT.2.1 f z.1 (by rw [e3]; exact z.2)).2.1
        rw [a186_26]
        repeat' (first | omega | (exact hK T m1 _ z hn9 (fun _ => x5) (fun y => absurd y (by assumption)) hE hM) | (exact hK T m1 _ z hn9 (fun y => absurd (by assumption) y) (fun _ => e9) hE hM) | simp only [w_aload, w_iload, w_call, w_iconst, x_g904_0, x_g903_0, w_istore, w_fall, Int.reduceToNat, w_ifc, cI, w_iinc, lgB, Nat.reduceSub, w_goto, w_if, x_g802_w0, x_iald, w_ialoads, w_ialoadw, w_ireturn, isA_w1, isA_w2, isA_w3, isA_w4, isA_w5, isA_w6, isA_w7, isA_w8, isA_w10, isA_w11, isA_w12, isA_w14, isA_w15, isA_w16, len_w1, len_w2, len_w3, len_w4, len_w5, len_w6, len_w7, len_w8, len_w10, len_w11, len_w12, len_w14, len_w15, len_w16, Int.cast_ofNat_Int, a186_0, a186_45, a186_60, a186_69, R32, List.getElem?_cons_zero, List.getElem?_cons_succ, List.set_cons_zero, List.set_cons_succ, List.cons_append, List.nil_append, List.replicate_succ, List.replicate_zero, List.take_succ_cons, List.take_zero, List.drop_succ_cons, List.drop_zero, List.reverse_cons, List.reverse_nil, List.length_cons, List.length_nil, Option.toList, true_and, and_true, eq_self, ↓reduceIte, not_true_eq_false, not_false_eq_true, true_or, or_true, hw, x_throw, hs_186, hw9] | (with_reducible refine w_112 hw9 hT (gA n.toNat).1 hf (fun v5 x5 => ?_)) | with_reducible refine And.intro ?_ ?_ | with_reducible intro _)
        all_goals (try (first | omega | contradiction | skip))
    exact hL26 _ _ hT0 hE0 hl0 MS_r
  refine Runs.of (al := [vr 0, vi f, vi n, vi w]) (n := 1) ⟨0, _, _, rfl, xo_0⟩ rfl rfl trivial ?_
  repeat' (first | omega | (exact hL _ z z2 (RW_cp hA hR C1) C1.1 C1.2.1.2.2.2.2) | (exact hX1 z) | (exact hX2 z z2) | simp only [w_aload, w_iload, w_call, w_iconst, x_g904_0, x_g903_0, w_istore, w_fall, Int.reduceToNat, w_ifc, cI, w_iinc, lgB, Nat.reduceSub, w_goto, w_if, x_g802_w0, x_iald, w_ialoads, w_ialoadw, w_ireturn, isA_w1, isA_w2, isA_w3, isA_w4, isA_w5, isA_w6, isA_w7, isA_w8, isA_w10, isA_w11, isA_w12, isA_w14, isA_w15, isA_w16, len_w1, len_w2, len_w3, len_w4, len_w5, len_w6, len_w7, len_w8, len_w10, len_w11, len_w12, len_w14, len_w15, len_w16, Int.cast_ofNat_Int, a186_0, a186_45, a186_60, a186_69, R32, List.getElem?_cons_zero, List.getElem?_cons_succ, List.set_cons_zero, List.set_cons_succ, List.cons_append, List.nil_append, List.replicate_succ, List.replicate_zero, List.take_succ_cons, List.take_zero, List.drop_succ_cons, List.drop_zero, List.reverse_cons, List.reverse_nil, List.length_cons, List.length_nil, Option.toList, true_and, and_true, eq_self, ↓reduceIte, not_true_eq_false, not_false_eq_true, true_or, or_true, hw, x_throw, hs_186, hw9] | (with_reducible refine w_142 hR hA hf (fun z => ?_) (fun z => ?_)) | (with_reducible refine w_145 hn (by unfold R32; omega) (by unfold R32; omega) (fun z2 => ?_) (fun z2 => ?_)) | (with_reducible refine w_106 isW_19 isW_2 dis_19 hl (fun T1 C1 => ?_)) | with_reducible refine And.intro ?_ ?_ | with_reducible intro _)
  all_goals (try (first | omega | (exfalso; assumption) | skip))
theorem hs_189 {E : Nat} : pg.2.1 189 E = none := rfl
theorem k189_0 : pg.1 189 0 = [.aload 0, .getfield 904, .aload 0, .getfield 903, .invokeinterface 106 2, .aload 0, .getfield 904, .iload 1, .putfield 813, .bipush 0, .istore 3, .jsr 21] := rfl
theorem a189_0 {tb : Tab} {d : Nat} {K : Out → AM → Prop} {ls st : List AV} {m : AM} : At tb d 189 K 0 ls st m = wpB tb (pg.2.1 189) (Runs tb pg d) K (At tb d 189 K) [.aload 0, .getfield 904, .aload 0, .getfield 903, .invokeinterface 106 2, .aload 0, .getfield 904, .iload 1, .putfield 813, .bipush 0, .istore 3, .jsr 21] ls st m := At.eq k189_0
theorem k189_21 : pg.1 189 21 = [.iload 3, .iload 2, .if_icmp .ge 40, .aload 0, .getfield 904, .invokeinterface 0 1, .pop, .iinc 3 1, .goto 21] := rfl
theorem a189_21 {tb : Tab} {d : Nat} {K : Out → AM → Prop} {ls st : List AV} {m : AM} : At tb d 189 K 21 ls st m = wpB tb (pg.2.1 189) (Runs tb pg d) K (At tb d 189 K) [.iload 3, .iload 2, .if_icmp .ge 40, .aload 0, .getfield 904, .invokeinterface 0 1, .pop, .iinc 3 1, .goto 21] ls st m := At.eq k189_21
theorem k189_40 : pg.1 189 40 = [.return_] := rfl
theorem a189_40 {tb : Tab} {d : Nat} {K : Out → AM → Prop} {ls st : List AV} {m : AM} : At tb d 189 K 40 ls st m = wpB tb (pg.2.1 189) (Runs tb pg d) K (At tb d 189 K) [.return_] ls st m := At.eq k189_40
theorem w_189 {s n : Int} (hR : RW S 2 r) (hA : AB r) (hn : 0 ≤ n ∧ n ≤ 60) (hl : LWo m (S 2 15) (lawD r)) (hK : ∀ T m1, RW T 19 (goN evL 1 (putR r 12 s) n.toNat) → EW S T 19 → MS m m1 → K (.inl none) (X T m1)) : Runs tb pg (d + 6) 189 [vr 0, vi s, vi n] (X S m) K := by
  have hw := isW_2
  have b3 := hA.2.1.1
  have b4 := hA.2.1.2.1
  have b5 := hA.2.1.2.2.1
  have hw9 := isW_19
  have gA : ∀ k, AB (goN evL 1 (putR r 12 s) k) ∧ LQ (putR r 12 s) (goN evL 1 (putR r 12 s) k) := goN_AB (AB_seed hA)
  have lq : lawD (putR r 12 s) = lawD r := lawD_eq (fun j hj => if_neg (by omega))
  have hL21 : (fun i : Int => ∀ (m1 : AM) (T : Nat → Int → Int), (RW T 19 (goN evL 1 (putR r 12 s) i.toNat)) → (EW S T 19) → (T 19 15 = S 2 15) → (MS m m1) → At tb (d + 5) 189 K 21 [vr 0, vi s, vi n, vi i] [] (X T m1)) 0 := by
    refine loopZ (fun i : Int => ∀ (m1 : AM) (T : Nat → Int → Int), (RW T 19 (goN evL 1 (putR r 12 s) i.toNat)) → (EW S T 19) → (T 19 15 = S 2 15) → (MS m m1) → At tb (d + 5) 189 K 21 [vr 0, vi s, vi n, vi i] [] (X T m1)) (n) (by omega) ?_ ?_
    · intro i h0 h1 h9 m1 T hT hE hlq hM
      have hlw : LWo m1 (T 19 15) (lawD (goN evL 1 (putR r 12 s) i.toNat)) := by rw [hlq, lawD_LQ (gA i.toNat).2, lq]; exact LWo_s hM hl
      have gs := goN_s (ev := evL) (w := 1) (r := (putR r 12 s)) h0
      rw [a189_21]
      repeat' (first | omega | (exact h9 m2 T2 (by rw [gs]; exact x2) (EW_t hE E2) (l2.trans hlq) (MS_t hM M2)) | simp only [w_aload, x_g904_0, x_g903_0, w_call, w_iload, x_p813_w0, w_iconst, w_istore, w_fall, Int.reduceToNat, w_ifc, cI, w_popi, w_popr, w_iinc, lgB, Nat.reduceSub, w_goto, w_return, a189_0, a189_40, R32, List.getElem?_cons_zero, List.getElem?_cons_succ, List.set_cons_zero, List.set_cons_succ, List.cons_append, List.nil_append, List.replicate_succ, List.replicate_zero, List.take_succ_cons, List.take_zero, List.drop_succ_cons, List.drop_zero, List.reverse_cons, List.reverse_nil, List.length_cons, List.length_nil, Option.toList, true_and, and_true, eq_self, ↓reduceIte, not_true_eq_false, not_false_eq_true, true_or, or_true, hw, x_throw, hs_189, hw9] | (with_reducible refine w_0 hw9 hT (gA i.toNat).1 hlw (fun T2 m2 v2 y2 x2 E2 l2 M2 => ?_)) | with_reducible refine And.intro ?_ ?_ | with_reducible intro _)
      all_goals (try (first | omega | contradiction | omega))
    · intro m1 T hT hE hlq hM
      rw [a189_21]
      repeat' (first | omega | (exact hK T m1 hT hE hM) | simp only [w_aload, x_g904_0, x_g903_0, w_call, w_iload, x_p813_w0, w_iconst, w_istore, w_fall, Int.reduceToNat, w_ifc, cI, w_popi, w_popr, w_iinc, lgB, Nat.reduceSub, w_goto, w_return, a189_0, a189_40, R32, List.getElem?_cons_zero, List.getElem?_cons_succ, List.set_cons_zero, List.set_cons_succ, List.cons_append, List.nil_append, List.replicate_succ, List.replicate_zero, List.take_succ_cons, List.take_zero, List.drop_succ_cons, List.drop_zero, List.reverse_cons, List.reverse_nil, List.length_cons, List.length_nil, Option.toList, true_and, and_true, eq_self, ↓reduceIte, not_true_eq_false, not_false_eq_true, true_or, or_true, hw, x_throw, hs_189, hw9] | (with_reducible refine w_0 hw9 hT (gA i.toNat).1 hlw (fun T2 m2 v2 y2 x2 E2 l2 M2 => ?_)) | with_reducible refine And.intro ?_ ?_ | with_reducible intro _)
      all_goals (try (first | omega | contradiction | skip))
  refine Runs.of (al := [vr 0, vi s, vi n]) (n := 1) ⟨0, _, _, rfl, xo_0⟩ rfl rfl trivial ?_
  repeat' (first | omega | (exact hL21 _ _ (RW_seed (RW_cp hA hR C1)) (EWu C1.1) (C1.2.1.2.2.2.2) MS_r) | simp only [w_aload, x_g904_0, x_g903_0, w_call, w_iload, x_p813_w0, w_iconst, w_istore, w_fall, Int.reduceToNat, w_ifc, cI, w_popi, w_popr, w_iinc, lgB, Nat.reduceSub, w_goto, w_return, a189_0, a189_40, R32, List.getElem?_cons_zero, List.getElem?_cons_succ, List.set_cons_zero, List.set_cons_succ, List.cons_append, List.nil_append, List.replicate_succ, List.replicate_zero, List.take_succ_cons, List.take_zero, List.drop_succ_cons, List.drop_zero, List.reverse_cons, List.reverse_nil, List.length_cons, List.length_nil, Option.toList, true_and, and_true, eq_self, ↓reduceIte, not_true_eq_false, not_false_eq_true, true_or, or_true, hw, x_throw, hs_189, hw9] | (with_reducible refine w_106 isW_19 isW_2 dis_19 hl (fun T1 C1 => ?_)) | with_reducible refine And.intro ?_ ?_ | with_reducible intro _)
  all_goals (try (first | omega | (exfalso; assumption) | skip))
theorem hs_187 {E : Nat} : pg.2.1 187 E = none := rfl
theorem k187_0 : pg.1 187 0 = [.iload 1, .bipush 0, .bipush 60, .invokeinterface 145 3, .aload 0, .aload 0, .getfield 903, .getfield 813, .iload 1, .invokeinterface 189 3, .iload 2, .ifCond .eq 33, .aload 0, .getfield 904, .invokeinterface 115 1, .goto 40] := rfl
theorem a187_0 {tb : Tab} {d : Nat} {K : Out → AM → Prop} {ls st : List AV} {m : AM} : At tb d 187 K 0 ls st m = wpB tb (pg.2.1 187) (Runs tb pg d) K (At tb d 187 K) [.iload 1, .bipush 0, .bipush 60, .invokeinterface 145 3, .aload 0, .aload 0, .getfield 903, .getfield 813, .iload 1, .invokeinterface 189 3, .iload 2, .ifCond .eq 33, .aload 0, .getfield 904, .invokeinterface 115 1, .goto 40] ls st m := At.eq k187_0
theorem k187_33 : pg.1 187 33 = [.aload 0, .getfield 904, .invokeinterface 113 1, .jsr 40] := rfl
theorem a187_33 {tb : Tab} {d : Nat} {K : Out → AM → Prop} {ls st : List AV} {m : AM} : At tb d 187 K 33 ls st m = wpB tb (pg.2.1 187) (Runs tb pg d) K (At tb d 187 K) [.aload 0, .getfield 904, .invokeinterface 113 1, .jsr 40] ls st m := At.eq k187_33
theorem k187_40 : pg.1 187 40 = [.ireturn] := rfl
theorem a187_40 {tb : Tab} {d : Nat} {K : Out → AM → Prop} {ls st : List AV} {m : AM} : At tb d 187 K 40 ls st m = wpB tb (pg.2.1 187) (Runs tb pg d) K (At tb d 187 K) [.ireturn] ls st m := At.eq k187_40
theorem w_187 {n w : Int} (hR : RW S 2 r) (hA : AB r) (hn : R32 n) (hv : R32 w) (hl : LWo m (S 2 15) (lawD r)) (hX : ¬ (0 ≤ n ∧ n ≤ 60) → K (.inr 1) (X S (mthrow m))) (hK : ∀ T m1 v, (0 ≤ n ∧ n ≤ 60) → (w ≠ 0 → v = sumZ ((goN evL 1 r n.toNat) 3) (fun f => fr (goN evL 1 r n.toNat) f 1)) → (w = 0 → v = setZ ((goN evL 1 r n.toNat) 4) (fun p => pr (goN evL 1 r n.toNat) p 1 ≠ -1)) → EW S T 19 → MS m m1 → K (.inl (some (vi v))) (X T m1)) : Runs tb pg (d + 7) 187 [vr 0, vi n, vi w] (X S m) K := by
  have hw := isW_2
  have b3 := hA.2.1.1
  have b4 := hA.2.1.2.1
  have b5 := hA.2.1.2.2.1
  have hw9 := isW_19
  have s13 : S 2 13 = r 12 := hR.1.2.2.1
  have gA : AB (goN evL 1 r n.toNat) := (goN_AB hA _).1
  have uhn := hn
  unfold R32 at uhn
  have uhv := hv
  unfold R32 at uhv
  refine Runs.of (al := [vr 0, vi n, vi w]) (n := 0) ⟨0, _, _, rfl, xo_0⟩ rfl rfl trivial ?_
  repeat' (first | omega | (exact hX z) | (exact hK T5 m5 _ z (fun _ => x6) (fun y => absurd y (by assumption)) y5 u5) | (exact hK T5 m5 _ z (fun y => absurd (by assumption) y) (fun _ => x7) y5 u5) | simp only [w_iload, w_iconst, w_call, w_aload, x_g903_0, x_g813_w0, w_if, cI, Int.reduceToNat, x_g904_0, w_goto, w_fall, w_ireturn, a187_0, a187_33, a187_40, R32, List.getElem?_cons_zero, List.getElem?_cons_succ, List.set_cons_zero, List.set_cons_succ, List.cons_append, List.nil_append, List.replicate_succ, List.replicate_zero, List.take_succ_cons, List.take_zero, List.drop_succ_cons, List.drop_zero, List.reverse_cons, List.reverse_nil, List.length_cons, List.length_nil, Option.toList, true_and, and_true, eq_self, ↓reduceIte, not_true_eq_false, not_false_eq_true, true_or, or_true, hw, x_throw, hs_187, hw9] | (with_reducible refine w_145 hn (by unfold R32; omega) (by unfold R32; omega) (fun z => ?_) (fun z => ?_)) | (rw [s13]) | ((with_reducible refine w_189 hR hA z hl (fun T5 m5 x5 y5 u5 => ?_)); rw [putR_12] at x5) | (with_reducible refine w_115 hw9 x5 gA (fun v6 x6 => ?_)) | (with_reducible refine w_113 hw9 x5 gA (fun v7 x7 => ?_)) | with_reducible refine And.intro ?_ ?_ | with_reducible intro _)
  all_goals (try (first | omega | (exfalso; assumption) | skip))
theorem hs_188 {E : Nat} : pg.2.1 188 E = none := rfl
theorem k188_0 : pg.1 188 0 = [.iload 1, .bipush 0, .bipush 60, .invokeinterface 145 3, .bipush 6, .istore 3, .bipush 0, .istore 4, .bipush 1, .istore 5, .jsr 16] := rfl
theorem a188_0 {tb : Tab} {d : Nat} {K : Out → AM → Prop} {ls st : List AV} {m : AM} : At tb d 188 K 0 ls st m = wpB tb (pg.2.1 188) (Runs tb pg d) K (At tb d 188 K) [.iload 1, .bipush 0, .bipush 60, .invokeinterface 145 3, .bipush 6, .istore 3, .bipush 0, .istore 4, .bipush 1, .istore 5, .jsr 16] ls st m := At.eq k188_0
theorem k188_16 : pg.1 188 16 = [.iload 5, .bipush 6, .if_icmp .gt 64, .aload 0, .iload 5, .iload 1, .invokeinterface 189 3, .aload 0, .getfield 904, .invokeinterface 114 1, .invokeinterface 382 1, .istore 6, .iload 3, .iload 6, .invokestatic 0, .istore 3, .iload 4, .iload 6, .invokestatic 1, .istore 4, .iinc 5 1, .goto 16] := rfl
theorem a188_16 {tb : Tab} {d : Nat} {K : Out → AM → Prop} {ls st : List AV} {m : AM} : At tb d 188 K 16 ls st m = wpB tb (pg.2.1 188) (Runs tb pg d) K (At tb d 188 K) [.iload 5, .bipush 6, .if_icmp .gt 64, .aload 0, .iload 5, .iload 1, .invokeinterface 189 3, .aload 0, .getfield 904, .invokeinterface 114 1, .invokeinterface 382 1, .istore 6, .iload 3, .iload 6, .invokestatic 0, .istore 3, .iload 4, .iload 6, .invokestatic 1, .istore 4, .iinc 5 1, .goto 16] ls st m := At.eq k188_16
theorem k188_64 : pg.1 188 64 = [.iload 2, .ifCond .eq 73, .iload 4, .goto 74] := rfl
theorem a188_64 {tb : Tab} {d : Nat} {K : Out → AM → Prop} {ls st : List AV} {m : AM} : At tb d 188 K 64 ls st m = wpB tb (pg.2.1 188) (Runs tb pg d) K (At tb d 188 K) [.iload 2, .ifCond .eq 73, .iload 4, .goto 74] ls st m := At.eq k188_64
theorem k188_73 : pg.1 188 73 = [.iload 3, .jsr 74] := rfl
theorem a188_73 {tb : Tab} {d : Nat} {K : Out → AM → Prop} {ls st : List AV} {m : AM} : At tb d 188 K 73 ls st m = wpB tb (pg.2.1 188) (Runs tb pg d) K (At tb d 188 K) [.iload 3, .jsr 74] ls st m := At.eq k188_73
theorem k188_74 : pg.1 188 74 = [.ireturn] := rfl
theorem a188_74 {tb : Tab} {d : Nat} {K : Out → AM → Prop} {ls st : List AV} {m : AM} : At tb d 188 K 74 ls st m = wpB tb (pg.2.1 188) (Runs tb pg d) K (At tb d 188 K) [.ireturn] ls st m := At.eq k188_74
theorem w_188 {n w : Int} (hR : RW S 2 r) (hA : AB r) (hn : R32 n) (hv : R32 w) (hl : LWo m (S 2 15) (lawD r)) (hX : ¬ (0 ≤ n ∧ n ≤ 60) → K (.inr 1) (X S (mthrow m))) (hK : ∀ T m1 v, (0 ≤ n ∧ n ≤ 60) → v = spN (whN evL r n) w 6 → EW S T 19 → MS m m1 → K (.inl (some (vi v))) (X T m1)) : Runs tb pg (d + 7) 188 [vr 0, vi n, vi w] (X S m) K := by
  have hw := isW_2
  have b3 := hA.2.1.1
  have b4 := hA.2.1.2.1
  have b5 := hA.2.1.2.2.1
  have uhn := hn
  unfold R32 at uhn
  have uhv := hv
  unfold R32 at uhv
  have hw9 := isW_19
  have hL : (0 ≤ n ∧ n ≤ 60) → ∀ z6, At tb (d + 6) 188 K 16 [vr 0, vi n, vi w, vi 6, vi 0, vi 1, z6] [] (X S m) := by
    intro z z6
    have hL16 : (fun x : Int => ∀ (s : Int) (a : Int) (b : Int) (z6 : AV) (m1 : AM) (T : Nat → Int → Int), s = x + 1 → (EW S T 19) → (MS m m1) → (spV (whN evL r n) x a b) → At tb (d + 6) 188 K 16 [vr 0, vi n, vi w, vi a, vi b, vi s, z6] [] (X T m1)) 0 := by
      refine loopZ (fun x : Int => ∀ (s : Int) (a : Int) (b : Int) (z6 : AV) (m1 : AM) (T : Nat → Int → Int), s = x + 1 → (EW S T 19) → (MS m m1) → (spV (whN evL r n) x a b) → At tb (d + 6) 188 K 16 [vr 0, vi n, vi w, vi a, vi b, vi s, z6] [] (X T m1)) (6) (by omega) ?_ ?_
      · intro x h0 h1 h9 s a b z6 m1 T hs hT hM hs9
        have hRT : RW T 2 r := RW_k hR (fun k hk => hT _ (by omega))
        have hlT : LWo m1 (T 2 15) (lawD r) := by rw [hT 2 (by decide)]; exact LWo_s hM hl
        have gA : AB (goN evL 1 (putR r 12 s) n.toNat) := (goN_AB (AB_seed hA) _).1
        have g4 := gA.2.1.2.1
        obtain ⟨sa, sb, sc, sd⟩ := id hs9
        rw [a188_16]
        repeat' (first | omega | (exact h9 _ _ _ _ m5 T5 (by omega) (EW_t hT y5) (MS_t hM u5) sV) | simp only [w_iload, w_iconst, w_call, w_istore, w_fall, Int.reduceToNat, w_ifc, cI, w_aload, x_g904_0, w_min, w_max, w_iinc, lgB, Nat.reduceSub, w_goto, w_if, w_ireturn, a188_0, a188_64, a188_73, a188_74, R32, List.getElem?_cons_zero, List.getElem?_cons_succ, List.set_cons_zero, List.set_cons_succ, List.cons_append, List.nil_append, List.replicate_succ, List.replicate_zero, List.take_succ_cons, List.take_zero, List.drop_succ_cons, List.drop_zero, List.reverse_cons, List.reverse_nil, List.length_cons, List.length_nil, Option.toList, true_and, and_true, eq_self, ↓reduceIte, not_true_eq_false, not_false_eq_true, true_or, or_true, hw, x_throw, hs_188, hw9] | (with_reducible refine w_189 hRT hA z hlT (fun T5 m5 x5 y5 u5 => ?_)) | ((with_reducible refine w_114 hw9 x5 gA (fun v6 x6 => ?_)); have l6 : 0 ≤ v6 ∧ v6 < 64 := (by rw [x6]; have q := setZ_lt (n := goN evL 1 (putR r 12 s) n.toNat 4) (c := fun p => wholeM (pr (goN evL 1 (putR r 12 s) n.toNat)) p (pr (goN evL 1 (putR r 12 s) n.toNat) p 0)) g4.1; have b := pw_le (q := 6) g4.1 g4.2; have c : pw 6 = 64 := rfl; omega)) | ((with_reducible refine w_382 l6 (fun v7 x7 => ?_)); have e7 : v7 = whN evL r n (x + 1) := (by rw [x7, x6, hs]; rfl); have l7 := bits6 l6; rw [← x7] at l7; have sV := spV_s h0 hs9 e7 l7) | with_reducible refine And.intro ?_ ?_ | with_reducible intro _)
        all_goals (try (first | omega | contradiction | omega))
      · intro s a b z6 m1 T hs hT hM hs9
        rw [a188_16]
        repeat' (first | omega | (exact hK T m1 _ z (by rw [(hs9.2.2.2 (by decide)).2]; exact (spN_1 (by assumption) 6).symm) hT hM) | (exact hK T m1 _ z (by rw [(hs9.2.2.2 (by decide)).1, show w = 0 by omega]; rfl) hT hM) | simp only [w_iload, w_iconst, w_call, w_istore, w_fall, Int.reduceToNat, w_ifc, cI, w_aload, x_g904_0, w_min, w_max, w_iinc, lgB, Nat.reduceSub, w_goto, w_if, w_ireturn, a188_0, a188_64, a188_73, a188_74, R32, List.getElem?_cons_zero, List.getElem?_cons_succ, List.set_cons_zero, List.set_cons_succ, List.cons_append, List.nil_append, List.replicate_succ, List.replicate_zero, List.take_succ_cons, List.take_zero, List.drop_succ_cons, List.drop_zero, List.reverse_cons, List.reverse_nil, List.length_cons, List.length_nil, Option.toList, true_and, and_true, eq_self, ↓reduceIte, not_true_eq_false, not_false_eq_true, true_or, or_true, hw, x_throw, hs_188, hw9] | (with_reducible refine w_189 hRT hA z hlT (fun T5 m5 x5 y5 u5 => ?_)) | ((with_reducible refine w_114 hw9 x5 gA (fun v6 x6 => ?_)); have l6 : 0 ≤ v6 ∧ v6 < 64 := (by rw [x6]; have q := setZ_lt (n := goN evL 1 (putR r 12 s) n.toNat 4) (c := fun p => wholeM (pr (goN evL 1 (putR r 12 s) n.toNat)) p (pr (goN evL 1 (putR r 12 s) n.toNat) p 0)) g4.1; have b := pw_le (q := 6) g4.1 g4.2; have c : pw 6 = 64 := rfl; omega)) | ((with_reducible refine w_382 l6 (fun v7 x7 => ?_)); have e7 : v7 = whN evL r n (x + 1) := (by rw [x7, x6, hs]; rfl); have l7 := bits6 l6; rw [← x7] at l7; have sV := spV_s h0 hs9 e7 l7) | with_reducible refine And.intro ?_ ?_ | with_reducible intro _)
        all_goals (try (first | omega | contradiction | skip))
    exact hL16 _ _ _ _ _ _ (by omega) EW_r MS_r ⟨by decide, by decide, fun _ => ⟨rfl, rfl⟩, fun y => by omega⟩
  refine Runs.of (al := [vr 0, vi n, vi w]) (n := 4) ⟨0, _, _, rfl, xo_0⟩ rfl rfl trivial ?_
  repeat' (first | omega | (exact hX z) | (exact hL z _) | simp only [w_iload, w_iconst, w_call, w_istore, w_fall, Int.reduceToNat, w_ifc, cI, w_aload, x_g904_0, w_min, w_max, w_iinc, lgB, Nat.reduceSub, w_goto, w_if, w_ireturn, a188_0, a188_64, a188_73, a188_74, R32, List.getElem?_cons_zero, List.getElem?_cons_succ, List.set_cons_zero, List.set_cons_succ, List.cons_append, List.nil_append, List.replicate_succ, List.replicate_zero, List.take_succ_cons, List.take_zero, List.drop_succ_cons, List.drop_zero, List.reverse_cons, List.reverse_nil, List.length_cons, List.length_nil, Option.toList, true_and, and_true, eq_self, ↓reduceIte, not_true_eq_false, not_false_eq_true, true_or, or_true, hw, x_throw, hs_188] | (with_reducible refine w_145 hn (by unfold R32; omega) (by unfold R32; omega) (fun z => ?_) (fun z => ?_)) | with_reducible refine And.intro ?_ ?_ | with_reducible intro _)
  all_goals (try (first | omega | (exfalso; assumption) | skip))
theorem hs_194 {E : Nat} : pg.2.1 194 E = none := rfl
theorem k194_0 : pg.1 194 0 = [.aload 0, .getfield 909, .bipush 12, .if_icmp .lt 32, .aload 0, .aload 0, .getfield 908, .bipush 1, .iadd, .bipush 12, .irem, .putfield 908, .aload 0, .dup, .getfield 909, .bipush 1, .isub, .putfield 909, .jsr 32] := rfl
theorem a194_0 {tb : Tab} {d : Nat} {K : Out → AM → Prop} {ls st : List AV} {m : AM} : At tb d 194 K 0 ls st m = wpB tb (pg.2.1 194) (Runs tb pg d) K (At tb d 194 K) [.aload 0, .getfield 909, .bipush 12, .if_icmp .lt 32, .aload 0, .aload 0, .getfield 908, .bipush 1, .iadd, .bipush 12, .irem, .putfield 908, .aload 0, .dup, .getfield 909, .bipush 1, .isub, .putfield 909, .jsr 32] ls st m := At.eq k194_0
theorem k194_32 : pg.1 194 32 = [.aload 0, .getfield 907, .aload 0, .getfield 908, .aload 0, .getfield 909, .iadd, .bipush 12, .irem, .aaload, .aload 0, .getfield 903, .invokeinterface 106 2, .aload 0, .dup, .getfield 909, .bipush 1, .iadd, .putfield 909, .return_] := rfl
theorem a194_32 {tb : Tab} {d : Nat} {K : Out → AM → Prop} {ls st : List AV} {m : AM} : At tb d 194 K 32 ls st m = wpB tb (pg.2.1 194) (Runs tb pg d) K (At tb d 194 K) [.aload 0, .getfield 907, .aload 0, .getfield 908, .aload 0, .getfield 909, .iadd, .bipush 12, .irem, .aaload, .aload 0, .getfield 903, .invokeinterface 106 2, .aload 0, .dup, .getfield 909, .bipush 1, .iadd, .putfield 909, .return_] ls st m := At.eq k194_32
theorem w_194  (h8 : 0 ≤ S 0 8 ∧ S 0 8 < 12) (h9 : 0 ≤ S 0 9 ∧ S 0 9 ≤ 12) {D : LawD} (hl : LWo m (S 2 15) D) (hK : ∀ T, REM S T → K (.inl none) (X T m)) : Runs tb pg (d + 3) 194 [vr 0] (X S m) K := by
  refine Runs.of (al := [vr 0]) (n := 0) ⟨0, _, _, rfl, xo_0⟩ rfl rfl trivial ?_
  repeat' (first | omega | (exact hK _ (REM_of (o := S 0 8) (c := S 0 9) h8 (by omega) (Or.inl ⟨by omega, rfl, rfl⟩) FxE_r rfl (fun _ _ _ => rfl) C1 (by rw [C1.1 0 (by omega)]))) | (exact hK _ (REM_of (o := (S 0 8 + 1) % 12) (c := S 0 9 - 1) (by omega) (by omega) (Or.inr ⟨by omega, rfl, rfl⟩) (FxE_u (FxE_u FxE_r)) (by rw [upS_at, if_neg (by omega), upS_at, if_pos ⟨rfl, rfl⟩]) (fun j j8 j9 => by rw [upS_at, if_neg (fun z => j9 z.2), upS_at, if_neg (fun z => j8 z.2)]) C2 (by rw [C2.1 0 (by omega), upS_at, if_pos ⟨rfl, rfl⟩]))) | simp only [w_aload, x_g909_0, w_iconst, w_ifc, cI, Int.reduceToNat, x_g908_0, w_iadd, w_irem, x_p908_0, w_dupi, w_dupr, w_isub, x_p909_0, w_fall, x_g907_0, x_aald, x_g903_0, w_call, w_return, a194_0, a194_32, R32, List.getElem?_cons_zero, List.getElem?_cons_succ, List.set_cons_zero, List.set_cons_succ, List.cons_append, List.nil_append, List.replicate_succ, List.replicate_zero, List.take_succ_cons, List.take_zero, List.drop_succ_cons, List.drop_zero, List.reverse_cons, List.reverse_nil, List.length_cons, List.length_nil, Option.toList, true_and, and_true, eq_self, ↓reduceIte, not_true_eq_false, not_false_eq_true, true_or, or_true, x_throw, hs_194, upS_at, Int.reduceEq, Nat.reduceEqDiff, and_self, and_true, true_and, and_false, false_and, if_true, if_false, reduceIte, Int.reduceToNat] | (refine w_106 (isW_m (k := (S 0 8 + S 0 9) % 12) (by omega)) isW_2 (dis_m2 (by omega)) hl (fun T1 C1 => ?_)) | (refine w_106 (v := 2) (w := 96 + 17 * (((S 0 8 + 1) % 12 + (S 0 9 - 1)) % 12).toNat) (isW_m (by omega)) isW_2 (dis_m2 (by omega)) (D := D) hl (fun T2 C2 => ?_)) | with_reducible refine And.intro ?_ ?_ | with_reducible intro _)
  all_goals (try (first | omega | (exfalso; assumption) | skip))
theorem hs_193 {E : Nat} : pg.2.1 193 E = none := rfl
theorem k193_0 : pg.1 193 0 = [.aload 0, .getfield 909, .ifCond .gt 9, .bipush 0, .freturn] := rfl
theorem a193_0 {tb : Tab} {d : Nat} {K : Out → AM → Prop} {ls st : List AV} {m : AM} : At tb d 193 K 0 ls st m = wpB tb (pg.2.1 193) (Runs tb pg d) K (At tb d 193 K) [.aload 0, .getfield 909, .ifCond .gt 9, .bipush 0, .freturn] ls st m := At.eq k193_0
theorem k193_9 : pg.1 193 9 = [.aload 0, .dup, .getfield 909, .bipush 1, .isub, .putfield 909, .aload 0, .getfield 903, .aload 0, .getfield 907, .aload 0, .getfield 908, .aload 0, .getfield 909, .iadd, .bipush 12, .irem, .aaload, .invokeinterface 106 2, .bipush 1, .freturn] := rfl
theorem a193_9 {tb : Tab} {d : Nat} {K : Out → AM → Prop} {ls st : List AV} {m : AM} : At tb d 193 K 9 ls st m = wpB tb (pg.2.1 193) (Runs tb pg d) K (At tb d 193 K) [.aload 0, .dup, .getfield 909, .bipush 1, .isub, .putfield 909, .aload 0, .getfield 903, .aload 0, .getfield 907, .aload 0, .getfield 908, .aload 0, .getfield 909, .iadd, .bipush 12, .irem, .aaload, .invokeinterface 106 2, .bipush 1, .freturn] ls st m := At.eq k193_9
theorem w_193  (h8 : 0 ≤ S 0 8 ∧ S 0 8 < 12) (h9 : 0 ≤ S 0 9 ∧ S 0 9 ≤ 12) {D : LawD} (hl : S 0 9 ≠ 0 → LWo m (S (96 + 17 * ((S 0 8 + (S 0 9 - 1)) % 12).toNat) 15) D) (hK0 : S 0 9 = 0 → K (.inl (some (vi 0))) (X S m)) (hK : ∀ T, S 0 9 ≠ 0 → CPw (upS S 0 9 (S 0 9 - 1)) T 2 (96 + 17 * ((S 0 8 + (S 0 9 - 1)) % 12).toNat) → K (.inl (some (vi 1))) (X T m)) : Runs tb pg (d + 3) 193 [vr 0] (X S m) K := by
  refine Runs.of (al := [vr 0]) (n := 0) ⟨0, _, _, rfl, xo_0⟩ rfl rfl trivial ?_
  repeat' (first | omega | (exact hK0 (by omega)) | (exact hK _ (by omega) C1) | simp only [w_aload, x_g909_0, w_if, cI, Int.reduceToNat, w_iconst, w_zreturn, w_dupi, w_dupr, w_isub, x_p909_0, x_g903_0, x_g907_0, x_g908_0, w_iadd, w_irem, x_aald, w_call, a193_0, a193_9, R32, List.getElem?_cons_zero, List.getElem?_cons_succ, List.set_cons_zero, List.set_cons_succ, List.cons_append, List.nil_append, List.replicate_succ, List.replicate_zero, List.take_succ_cons, List.take_zero, List.drop_succ_cons, List.drop_zero, List.reverse_cons, List.reverse_nil, List.length_cons, List.length_nil, Option.toList, true_and, and_true, eq_self, ↓reduceIte, not_true_eq_false, not_false_eq_true, true_or, or_true, x_throw, hs_193, upS_at, Int.reduceEq, Nat.reduceEqDiff, and_self, and_true, true_and, and_false, false_and, if_true, if_false, reduceIte, Int.reduceToNat] | (refine w_106 (v := (96 + 17 * ((S 0 8 + (S 0 9 - 1)) % 12).toNat)) isW_2 (isW_m (by omega)) (dis_2m (by omega)) (by rw [up_lit (by omega)]; exact hl (by omega)) (fun T1 C1 => ?_)) | with_reducible refine And.intro ?_ ?_ | with_reducible intro _)
  all_goals (try (first | omega | (exfalso; assumption) | skip))
theorem hs_195 {E : Nat} : pg.2.1 195 E = none := rfl
theorem k195_0 : pg.1 195 0 = [.aload 0, .getfield 905, .aload 0, .getfield 903, .invokeinterface 106 2, .aload 0, .bipush 1, .dstore 906, .return_] := rfl
theorem a195_0 {tb : Tab} {d : Nat} {K : Out → AM → Prop} {ls st : List AV} {m : AM} : At tb d 195 K 0 ls st m = wpB tb (pg.2.1 195) (Runs tb pg d) K (At tb d 195 K) [.aload 0, .getfield 905, .aload 0, .getfield 903, .invokeinterface 106 2, .aload 0, .bipush 1, .dstore 906, .return_] ls st m := At.eq k195_0
theorem w_195  {D : LawD} (hl : LWo m (S 2 15) D) (hK : ∀ T, CPw S T 36 2 → K (.inl none) (X (upS T 0 6 1) m)) : Runs tb pg (d + 3) 195 [vr 0] (X S m) K := by
  refine Runs.of (al := [vr 0]) (n := 0) ⟨0, _, _, rfl, xo_0⟩ rfl rfl trivial ?_
  repeat' (first | omega | (exact hK _ C1) | simp only [w_aload, x_g905_0, x_g903_0, w_call, w_iconst, x_p906_0, w_return, a195_0, R32, List.getElem?_cons_zero, List.getElem?_cons_succ, List.set_cons_zero, List.set_cons_succ, List.cons_append, List.nil_append, List.replicate_succ, List.replicate_zero, List.take_succ_cons, List.take_zero, List.drop_succ_cons, List.drop_zero, List.reverse_cons, List.reverse_nil, List.length_cons, List.length_nil, Option.toList, true_and, and_true, eq_self, ↓reduceIte, not_true_eq_false, not_false_eq_true, true_or, or_true, x_throw, hs_195, upS_at, Int.reduceEq, Nat.reduceEqDiff, and_self, and_true, true_and, and_false, false_and, if_true, if_false, reduceIte, Int.reduceToNat] | (with_reducible refine w_106 isW_36 isW_2 dis_36 hl (fun T1 C1 => ?_)) | with_reducible refine And.intro ?_ ?_ | with_reducible intro _)
  all_goals (try (first | omega | (exfalso; assumption) | skip))
theorem hs_196 {E : Nat} : pg.2.1 196 E = none := rfl
theorem k196_0 : pg.1 196 0 = [.aload 0, .getfield 906, .ifCond .ne 9, .bipush 0, .freturn] := rfl
theorem a196_0 {tb : Tab} {d : Nat} {K : Out → AM → Prop} {ls st : List AV} {m : AM} : At tb d 196 K 0 ls st m = wpB tb (pg.2.1 196) (Runs tb pg d) K (At tb d 196 K) [.aload 0, .getfield 906, .ifCond .ne 9, .bipush 0, .freturn] ls st m := At.eq k196_0
theorem k196_9 : pg.1 196 9 = [.aload 0, .getfield 903, .aload 0, .getfield 905, .invokeinterface 106 2, .aload 0, .bipush 0, .putfield 909, .bipush 1, .freturn] := rfl
theorem a196_9 {tb : Tab} {d : Nat} {K : Out → AM → Prop} {ls st : List AV} {m : AM} : At tb d 196 K 9 ls st m = wpB tb (pg.2.1 196) (Runs tb pg d) K (At tb d 196 K) [.aload 0, .getfield 903, .aload 0, .getfield 905, .invokeinterface 106 2, .aload 0, .bipush 0, .putfield 909, .bipush 1, .freturn] ls st m := At.eq k196_9
theorem w_196  (h6 : S 0 6 = 0 ∨ S 0 6 = 1) {D : LawD} (hl : S 0 6 = 1 → LWo m (S 36 15) D) (hK0 : S 0 6 = 0 → K (.inl (some (vi 0))) (X S m)) (hK : ∀ T, S 0 6 = 1 → CPw S T 2 36 → K (.inl (some (vi 1))) (X (upS T 0 9 0) m)) : Runs tb pg (d + 3) 196 [vr 0] (X S m) K := by
  refine Runs.of (al := [vr 0]) (n := 0) ⟨0, _, _, rfl, xo_0⟩ rfl rfl trivial ?_
  repeat' (first | omega | (exact hK0 (by omega)) | (exact hK _ (by omega) C1) | simp only [w_aload, x_g906_0, w_if, cI, Int.reduceToNat, w_iconst, w_zreturn, x_g903_0, x_g905_0, w_call, x_p909_0, a196_0, a196_9, R32, List.getElem?_cons_zero, List.getElem?_cons_succ, List.set_cons_zero, List.set_cons_succ, List.cons_append, List.nil_append, List.replicate_succ, List.replicate_zero, List.take_succ_cons, List.take_zero, List.drop_succ_cons, List.drop_zero, List.reverse_cons, List.reverse_nil, List.length_cons, List.length_nil, Option.toList, true_and, and_true, eq_self, ↓reduceIte, not_true_eq_false, not_false_eq_true, true_or, or_true, x_throw, hs_196, upS_at, Int.reduceEq, Nat.reduceEqDiff, and_self, and_true, true_and, and_false, false_and, if_true, if_false, reduceIte, Int.reduceToNat] | (with_reducible refine w_106 isW_2 isW_36 dis_236 (hl (by omega)) (fun T1 C1 => ?_)) | with_reducible refine And.intro ?_ ?_ | with_reducible intro _)
  all_goals (try (first | omega | (exfalso; assumption) | skip))
theorem lvn : lv (-1) = vn := rfl
theorem lvr {a : Nat} : lv (a : Int) = vr a := by unfold lv; rw [if_neg (by omega), Int.toNat_natCast]
theorem w_200l {tb : Tab} {hs : Nat → Option (Nat × Nat)} {C : Nat → List AV → AM → (Out → AM → Prop) → Prop} {Q : Out → AM → Prop} {J : Nat → List AV → List AV → AM → Prop} {is : List Instr} {ls st : List AV} {S : Nat → Int → Int} {m : AM} {a : Nat} {D : LawD} (h3 : 317 ≤ a) (h : LWm m a D) : wpB tb hs C Q J (.getfield 200 :: is) ls (vr a :: st) (X S m) = wpB tb hs C Q J is ls (vi D.1 :: st) (X S m) := by
  obtain ⟨h0, n, nc, k, u, b, c, s, hc, h6, h7, h8⟩ := h
  rw [w_getf (show (X S m).1 a = _ from (X_o h3).trans hc.2.1) rfl, ← h7]
  exact propext (and_iff_right rfl)
theorem hs_197 {E : Nat} : pg.2.1 197 E = none := rfl
theorem k197_0 : pg.1 197 0 = [.iload 1, .lookupswitch 164 #[(0, 68), (1, 76), (2, 84), (3, 95), (4, 103), (5, 128), (6, 128), (7, 128), (8, 128), (9, 128), (10, 140), (11, 148), (12, 159)]] := rfl
theorem a197_0 {tb : Tab} {d : Nat} {K : Out → AM → Prop} {ls st : List AV} {m : AM} : At tb d 197 K 0 ls st m = wpB tb (pg.2.1 197) (Runs tb pg d) K (At tb d 197 K) [.iload 1, .lookupswitch 164 #[(0, 68), (1, 76), (2, 84), (3, 95), (4, 103), (5, 128), (6, 128), (7, 128), (8, 128), (9, 128), (10, 140), (11, 148), (12, 159)]] ls st m := At.eq k197_0
theorem k197_68 : pg.1 197 68 = [.aload 0, .getfield 903, .getfield 800, .ireturn] := rfl
theorem a197_68 {tb : Tab} {d : Nat} {K : Out → AM → Prop} {ls st : List AV} {m : AM} : At tb d 197 K 68 ls st m = wpB tb (pg.2.1 197) (Runs tb pg d) K (At tb d 197 K) [.aload 0, .getfield 903, .getfield 800, .ireturn] ls st m := At.eq k197_68
theorem k197_76 : pg.1 197 76 = [.aload 0, .getfield 903, .getfield 804, .ireturn] := rfl
theorem a197_76 {tb : Tab} {d : Nat} {K : Out → AM → Prop} {ls st : List AV} {m : AM} : At tb d 197 K 76 ls st m = wpB tb (pg.2.1 197) (Runs tb pg d) K (At tb d 197 K) [.aload 0, .getfield 903, .getfield 804, .ireturn] ls st m := At.eq k197_76
theorem k197_84 : pg.1 197 84 = [.aload 0, .getfield 903, .getfield 810, .getfield 0, .ireturn] := rfl
theorem a197_84 {tb : Tab} {d : Nat} {K : Out → AM → Prop} {ls st : List AV} {m : AM} : At tb d 197 K 84 ls st m = wpB tb (pg.2.1 197) (Runs tb pg d) K (At tb d 197 K) [.aload 0, .getfield 903, .getfield 810, .getfield 0, .ireturn] ls st m := At.eq k197_84
theorem k197_95 : pg.1 197 95 = [.aload 0, .getfield 903, .getfield 814, .ireturn] := rfl
theorem a197_95 {tb : Tab} {d : Nat} {K : Out → AM → Prop} {ls st : List AV} {m : AM} : At tb d 197 K 95 ls st m = wpB tb (pg.2.1 197) (Runs tb pg d) K (At tb d 197 K) [.aload 0, .getfield 903, .getfield 814, .ireturn] ls st m := At.eq k197_95
theorem k197_103 : pg.1 197 103 = [.aload 0, .getfield 903, .getfield 815, .ifnonnull 117, .bipush (-1), .goto 127] := rfl
theorem a197_103 {tb : Tab} {d : Nat} {K : Out → AM → Prop} {ls st : List AV} {m : AM} : At tb d 197 K 103 ls st m = wpB tb (pg.2.1 197) (Runs tb pg d) K (At tb d 197 K) [.aload 0, .getfield 903, .getfield 815, .ifnonnull 117, .bipush (-1), .goto 127] ls st m := At.eq k197_103
theorem k197_117 : pg.1 197 117 = [.aload 0, .getfield 903, .getfield 815, .getfield 200, .jsr 127] := rfl
theorem a197_117 {tb : Tab} {d : Nat} {K : Out → AM → Prop} {ls st : List AV} {m : AM} : At tb d 197 K 117 ls st m = wpB tb (pg.2.1 197) (Runs tb pg d) K (At tb d 197 K) [.aload 0, .getfield 903, .getfield 815, .getfield 200, .jsr 127] ls st m := At.eq k197_117
theorem k197_127 : pg.1 197 127 = [.ireturn] := rfl
theorem a197_127 {tb : Tab} {d : Nat} {K : Out → AM → Prop} {ls st : List AV} {m : AM} : At tb d 197 K 127 ls st m = wpB tb (pg.2.1 197) (Runs tb pg d) K (At tb d 197 K) [.ireturn] ls st m := At.eq k197_127
theorem k197_128 : pg.1 197 128 = [.aload 0, .getfield 903, .getfield 812, .iload 1, .bipush 5, .isub, .iaload, .ireturn] := rfl
theorem a197_128 {tb : Tab} {d : Nat} {K : Out → AM → Prop} {ls st : List AV} {m : AM} : At tb d 197 K 128 ls st m = wpB tb (pg.2.1 197) (Runs tb pg d) K (At tb d 197 K) [.aload 0, .getfield 903, .getfield 812, .iload 1, .bipush 5, .isub, .iaload, .ireturn] ls st m := At.eq k197_128
theorem k197_140 : pg.1 197 140 = [.aload 0, .getfield 903, .invokeinterface 115 1, .ireturn] := rfl
theorem a197_140 {tb : Tab} {d : Nat} {K : Out → AM → Prop} {ls st : List AV} {m : AM} : At tb d 197 K 140 ls st m = wpB tb (pg.2.1 197) (Runs tb pg d) K (At tb d 197 K) [.aload 0, .getfield 903, .invokeinterface 115 1, .ireturn] ls st m := At.eq k197_140
theorem k197_148 : pg.1 197 148 = [.aload 0, .getfield 903, .getfield 811, .getfield 400, .ireturn] := rfl
theorem a197_148 {tb : Tab} {d : Nat} {K : Out → AM → Prop} {ls st : List AV} {m : AM} : At tb d 197 K 148 ls st m = wpB tb (pg.2.1 197) (Runs tb pg d) K (At tb d 197 K) [.aload 0, .getfield 903, .getfield 811, .getfield 400, .ireturn] ls st m := At.eq k197_148
theorem k197_159 : pg.1 197 159 = [.aload 0, .getfield 909, .ireturn] := rfl
theorem a197_159 {tb : Tab} {d : Nat} {K : Out → AM → Prop} {ls st : List AV} {m : AM} : At tb d 197 K 159 ls st m = wpB tb (pg.2.1 197) (Runs tb pg d) K (At tb d 197 K) [.aload 0, .getfield 909, .ireturn] ls st m := At.eq k197_159
theorem k197_164 : pg.1 197 164 = [.bipush (-1), .ireturn] := rfl
theorem a197_164 {tb : Tab} {d : Nat} {K : Out → AM → Prop} {ls st : List AV} {m : AM} : At tb d 197 K 164 ls st m = wpB tb (pg.2.1 197) (Runs tb pg d) K (At tb d 197 K) [.bipush (-1), .ireturn] ls st m := At.eq k197_164
theorem w_197 {w : Int} (hR : RW S 2 r) (hA : AB r) (hv : R32 w) (hl : LWo m (S 2 15) (lawD r)) (hK : ∀ v, ((0 ≤ w ∧ w ≤ 2) → v = r (3 + w)) → (w = 3 → v = r 0) → (w = 4 → v = r 1) → ((5 ≤ w ∧ w ≤ 9) → v = r (6 + w - 5)) → (w = 10 → v = sumZ (r 3) (fun f => fr r f 1)) → (w = 11 → v = r 11) → (w = 12 → v = S 0 9) → (w < 0 ∨ 12 < w → v = -1) → K (.inl (some (vi v))) (X S m)) : Runs tb pg (d + 2) 197 [vr 0, vi w] (X S m) K := by
  have hw := isW_2
  have b3 := hA.2.1.1
  have b4 := hA.2.1.2.1
  have b5 := hA.2.1.2.2.1
  have hlv : (S 2 15 = -1 ∧ r 1 = -1) ∨ ∃ a : Nat, S 2 15 = a ∧ 317 ≤ a ∧ LWm m a (lawD r) := by
    rcases hl with y | ⟨y1, y2⟩
    · exact Or.inl y
    · exact Or.inr ⟨(S 2 15).toNat, by omega, by omega, y2⟩
  have uhv := hv
  unfold R32 at uhv
  refine Runs.of (al := [vr 0, vi w]) (n := 0) ⟨0, _, _, rfl, xo_0⟩ rfl rfl trivial ?_
  repeat' (first | omega | (exact hK _ (fun _ => by rw [show w = 0 by omega]; exact hR.1.1) (fun y => absurd y (by omega)) (fun y => absurd y (by omega)) (fun y => absurd y (by omega)) (fun y => absurd y (by omega)) (fun y => absurd y (by omega)) (fun y => absurd y (by omega)) (fun y => absurd y (by omega))) | (exact hK _ (fun _ => by rw [show w = 1 by omega]; exact hR.1.2.1) (fun y => absurd y (by omega)) (fun y => absurd y (by omega)) (fun y => absurd y (by omega)) (fun y => absurd y (by omega)) (fun y => absurd y (by omega)) (fun y => absurd y (by omega)) (fun y => absurd y (by omega))) | (exact hK _ (fun _ => by rw [show w = 2 by omega]; exact hR.2.2.2.1.1) (fun y => absurd y (by omega)) (fun y => absurd y (by omega)) (fun y => absurd y (by omega)) (fun y => absurd y (by omega)) (fun y => absurd y (by omega)) (fun y => absurd y (by omega)) (fun y => absurd y (by omega))) | (exact hK _ (fun y => absurd y (by omega)) (fun _ => hR.1.2.2.2) (fun y => absurd y (by omega)) (fun y => absurd y (by omega)) (fun y => absurd y (by omega)) (fun y => absurd y (by omega)) (fun y => absurd y (by omega)) (fun y => absurd y (by omega))) | (exact hK _ (fun y => absurd y (by omega)) (fun y => absurd y (by omega)) (fun _ => l2.symm) (fun y => absurd y (by omega)) (fun y => absurd y (by omega)) (fun y => absurd y (by omega)) (fun y => absurd y (by omega)) (fun y => absurd y (by omega))) | (exact hK _ (fun y => absurd y (by omega)) (fun y => absurd y (by omega)) (fun _ => rfl) (fun y => absurd y (by omega)) (fun y => absurd y (by omega)) (fun y => absurd y (by omega)) (fun y => absurd y (by omega)) (fun y => absurd y (by omega))) | (exact hK _ (fun y => absurd y (by omega)) (fun y => absurd y (by omega)) (fun y => absurd y (by omega)) (fun _ => by have e := hR.2.2.2.2.2 (w - 5) (by omega) (by omega); rw [e]; congr 1; omega) (fun y => absurd y (by omega)) (fun y => absurd y (by omega)) (fun y => absurd y (by omega)) (fun y => absurd y (by omega))) | (exact hK _ (fun y => absurd y (by omega)) (fun y => absurd y (by omega)) (fun y => absurd y (by omega)) (fun y => absurd y (by omega)) (fun _ => x4) (fun y => absurd y (by omega)) (fun y => absurd y (by omega)) (fun y => absurd y (by omega))) | (exact hK _ (fun y => absurd y (by omega)) (fun y => absurd y (by omega)) (fun y => absurd y (by omega)) (fun y => absurd y (by omega)) (fun y => absurd y (by omega)) (fun _ => hR.2.2.2.2.1.1) (fun y => absurd y (by omega)) (fun y => absurd y (by omega))) | (exact hK _ (fun y => absurd y (by omega)) (fun y => absurd y (by omega)) (fun y => absurd y (by omega)) (fun y => absurd y (by omega)) (fun y => absurd y (by omega)) (fun y => absurd y (by omega)) (fun _ => rfl) (fun y => absurd y (by omega))) | (exact hK _ (fun y => absurd y (by omega)) (fun y => absurd y (by omega)) (fun y => absurd y (by omega)) (fun y => absurd y (by omega)) (fun y => absurd y (by omega)) (fun y => absurd y (by omega)) (fun y => absurd y (by omega)) (fun _ => rfl)) | simp only [w_iload, w_switch, swB, Int.reduceToNat, w_aload, x_g903_0, x_g800_w0, w_ireturn, x_g804_w0, x_g810_w0, x_g0_w9, x_g814_w0, x_g815_w0, w_ifnonnull, w_ifnonnulln, w_iconst, w_goto, w_fall, x_g812_w0, w_isub, x_iald, w_ialoads, w_ialoadw, w_call, x_g811_w0, x_g400_w13, x_g909_0, isA_w1, isA_w2, isA_w3, isA_w4, isA_w5, isA_w6, isA_w7, isA_w8, isA_w10, isA_w11, isA_w12, isA_w14, isA_w15, isA_w16, len_w1, len_w2, len_w3, len_w4, len_w5, len_w6, len_w7, len_w8, len_w10, len_w11, len_w12, len_w14, len_w15, len_w16, Int.cast_ofNat_Int, a197_0, a197_68, a197_76, a197_84, a197_95, a197_103, a197_117, a197_127, a197_128, a197_140, a197_148, a197_159, a197_164, R32, List.getElem?_cons_zero, List.getElem?_cons_succ, List.set_cons_zero, List.set_cons_succ, List.cons_append, List.nil_append, List.replicate_succ, List.replicate_zero, List.take_succ_cons, List.take_zero, List.drop_succ_cons, List.drop_zero, List.reverse_cons, List.reverse_nil, List.length_cons, List.length_nil, Option.toList, true_and, and_true, eq_self, ↓reduceIte, not_true_eq_false, not_false_eq_true, true_or, or_true, hw, x_throw, hs_197, lvn, lvr] | (with_reducible refine w_115 hw hR hA (fun v4 x4 => ?_)) | (rw [l1]) | (rcases hlv with ⟨l1, l2⟩ | ⟨a, l1, l2, l3⟩ <;> rw [l1]) | (rw [w_200l l2 l3]) | with_reducible refine And.intro ?_ ?_ | with_reducible intro _)
  all_goals (try (first | omega | (exfalso; assumption) | skip))
end Snow4
