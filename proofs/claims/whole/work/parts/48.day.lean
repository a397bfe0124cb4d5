/-! ===== THE REFERENCE: hares; a day goes by ===== -/
noncomputable def fstC (c : Int → Prop) : Nat → Int
  | 0 => -1
  | n + 1 => if fstC c n ≠ -1 then fstC c n else @ite _ (c n) (Classical.propDecidable _) (n : Int) (-1)
theorem fstC_is {c : Int → Prop} : ∀ n : Nat, isFst c n (fstC c n)
  | 0 => Or.inl ⟨rfl, fun i h0 h1 => by omega⟩
  | n + 1 => by
    have ih := fstC_is (c := c) n
    unfold fstC
    by_cases e : fstC c n ≠ -1
    · rw [if_pos e]
      rcases ih with ⟨h1, _⟩ | ⟨h1, h2, h3, h4⟩
      · exact absurd h1 e
      · exact Or.inr ⟨h1, by omega, h3, h4⟩
    · rw [if_neg e]
      rcases ih with ⟨h1, h2⟩ | ⟨h1, h2, h3, h4⟩
      · by_cases z : c n
        · rw [if_pos z]
          exact Or.inr ⟨by omega, by omega, z, fun i i0 i1 => h2 i i0 (by omega)⟩
        · rw [if_neg z]
          refine Or.inl ⟨rfl, fun i i0 i1 => ?_⟩
          by_cases q : i = n
          · rw [q]; exact z
          · exact h2 i i0 (by omega)
      · omega
theorem bt_31 : ∀ a : Fin 64, ∀ k : Fin 31, 6 ≤ (k : Nat) → andI (shrI (a : Nat) (k : Nat)) 1 = 0 := by decide +kernel
theorem bit_31 {s k : Int} (h0 : 0 ≤ s) (h1 : s < 64) (k0 : 0 ≤ k) (k1 : k < 31) (hb : bitB s k) : k < 6 := by
  refine Classical.byContradiction fun z => ?_
  have := bt_31 ⟨s.toNat, by omega⟩ ⟨k.toNat, by omega⟩ (by show 6 ≤ k.toNat; omega)
  dsimp only at this
  rw [Int.toNat_of_nonneg h0, Int.toNat_of_nonneg k0] at this
  omega
theorem bitsM_s {s i : Int} (h : 0 ≤ i) : bitsM s (i + 1) = bitsM s i + andI (shrI s i) 1 := sumZ_s h
theorem bitsM_mono {s i j : Int} (h : 0 ≤ i) (hij : i ≤ j) : bitsM s i ≤ bitsM s j := by
  have : ∀ k : Nat, bitsM s i ≤ bitsM s (i + k) := by
    intro k
    induction k with
    | zero => rw [show i + ((0 : Nat) : Int) = i by omega]; exact Int.le_refl _
    | succ k ih =>
      rw [show i + ((k + 1 : Nat) : Int) = (i + k) + 1 by omega, bitsM_s (by omega)]
      have := andI_1 (shrI s (i + k))
      omega
  have := this (j - i).toNat
  rwa [show i + ((j - i).toNat : Int) = j by omega] at this
theorem bits_pos {s k : Int} (k0 : 0 ≤ k) (k1 : k < 31) (hb : bitB s k) : 0 < bitsM s 31 := by
  have h1 := bitsM_mono (s := s) (i := k + 1) (j := 31) (by omega) (by omega)
  have h2 := bitsM_le (s := s) k0
  rw [bitsM_s k0] at h1
  omega
/-- the one of a set of a number -/
noncomputable def oneF (s k : Int) : Int := fstC (fun i => bitB s i ∧ bitsM s i = k) 31
theorem oneF_of {s k p : Int} (p0 : 0 ≤ p) (p1 : p < 31) (hb : bitB s p) (hk : bitsM s p = k) : p = oneF s k := by
  refine isFst_uq (c := fun i => bitB s i ∧ bitsM s i = k) (n := 31) (Or.inr ⟨p0, p1, ⟨hb, hk⟩, fun i i0 i1 z => ?_⟩) (fstC_is 31) (fun _ _ _ => Iff.rfl)
  have h1 := bitsM_mono (s := s) (i := i + 1) (j := p) (by omega) (by omega)
  rw [bitsM_s i0] at h1
  have := z.1
  have := z.2
  omega
theorem drawR_AB {r : Int → Int} (h : AB r) : AB (drawR r) := by
  have e : ∀ j, j ≠ 12 → drawR r j = r j := fun j hj => by unfold drawR putR; rw [if_neg hj]
  obtain ⟨b0, b1, b2, b3, b4, b5⟩ := h
  have b3' := b1.2.1
  refine ⟨fun j hj => by rw [e j hj]; exact b0 j hj, ?_, fun q q0 q1 => ?_, fun q q0 q1 => ?_, fun k k0 k1 => ?_, fun q q0 q1 => ?_⟩
  · unfold B1 at b1 ⊢
    rw [e 3 (by decide), e 4 (by decide), e 5 (by decide), e 0 (by decide), e 1 (by decide), e 8 (by decide), e 11 (by decide), e 6 (by decide), e 10 (by decide)]
    exact b1
  · have := b2 q q0 q1
    have w : ∀ v, 0 ≤ v → pr (drawR r) q v = pr r q v := fun v v0 => e _ (by omega)
    rw [w 0 (by decide), w 1 (by decide)]
    exact ⟨this.1, this.2.1, fun k k0 k1 => by rw [w _ (by omega), w _ (by omega)]; exact this.2.2 k k0 k1⟩
  · have w : ∀ v, 0 ≤ v → fr (drawR r) q v = fr r q v := fun v v0 => e _ (by omega)
    rw [w 0 (by decide), w 1 (by decide), w 2 (by decide)]
    exact b3 q q0 q1
  · rw [e 5 (by decide)] at k1
    have w : ∀ v, 0 ≤ v → dr (drawR r) k v = dr r k v := fun v v0 => e _ (by omega)
    rw [w 0 (by decide), w 1 (by decide)]
    exact b4 k k0 k1
  · rw [e 4 (by decide)] at q1
    have w : ∀ v, 0 ≤ v → pr (drawR r) q v = pr r q v := fun v v0 => e _ (by omega)
    rw [w 0 (by decide), w 1 (by decide), e 3 (by decide)]
    exact b5 q q0 q1
theorem drawR_o {r : Int → Int} {j : Int} (h : j ≠ 12) : drawR r j = r j := by unfold drawR putR; rw [if_neg h]
/-- those who are on a field -/
noncomputable def onS (r : Int → Int) : Int := setZ (r 4) fun p => pr r p 1 ≠ -1
theorem onS_draw {r : Int → Int} (h : AB r) : onS (drawR r) = onS r := by
  unfold onS
  rw [drawR_o (by decide)]
  refine setZ_congr fun i h0 h1 => ?_
  unfold pr
  rw [drawR_o (by omega)]
theorem markR_AB {r : Int → Int} {p k v : Int} (h0 : 0 ≤ p) (h1 : p < 6) (k0 : 0 ≤ k) (k1 : k < 6) (hv : -1 ≤ v ∧ v < 8) (h : AB r) : AB (putR r (31 + 20 * p + (8 + k)) v) := by
  have e : ∀ q w, 0 ≤ q → 0 ≤ w → w < 20 → pr (putR r (31 + 20 * p + (8 + k)) v) q w = if q = p ∧ w = 8 + k then v else pr r q w := by
    intro q w q0 w0 w1
    unfold pr putR
    by_cases e : q = p ∧ w = 8 + k
    · rw [if_pos e, if_pos (by omega)]
    · rw [if_neg e, if_neg (by omega)]
  refine AB_p h (fun j hj => ?_) (fun j j0 j1 => ?_) (fun q q0 q1 => ?_) (fun q q0 q1 => ?_)
  · unfold putR; rw [if_neg (by omega)]
  · have a := h.1 j (by omega)
    unfold putR
    split <;> omega
  · have a := h.2.2.1 q q0 q1
    rw [e q 0 q0 (by decide) (by decide), e q 1 q0 (by decide) (by decide), if_neg (by omega), if_neg (by omega)]
    refine ⟨a.1, a.2.1, fun j j0 j1 => ?_⟩
    rw [e q (14 + j) q0 (by omega) (by omega), e q (2 + j) q0 (by omega) (by omega), if_neg (by omega), if_neg (by omega)]
    exact a.2.2 j j0 j1
  · have b4 := h.2.1.2.1
    have e4 : putR r (31 + 20 * p + (8 + k)) v 4 = r 4 := by unfold putR; rw [if_neg (by omega)]
    have e3 : putR r (31 + 20 * p + (8 + k)) v 3 = r 3 := by unfold putR; rw [if_neg (by omega)]
    rw [e4] at q1
    rw [e q 0 q0 (by decide) (by decide), e q 1 q0 (by decide) (by decide), if_neg (by omega), if_neg (by omega), e3]
    exact h.2.2.2.2.2 q q0 q1
/-- a hare comes to p -/
def hareR (r : Int → Int) (p : Int) : Int → Int := if pr (drawR r) p (14 + drawV r % pr r p 0) = 0 then drawR r else logsR (putR (drawR r) (31 + 20 * p + (8 + drawV r % pr r p 0)) ((pr (drawR r) p (8 + drawV r % pr r p 0) + 1) % 8)) p 3 (pr (drawR r) p 1)
theorem hareR_y {r : Int → Int} {p : Int} (h : pr (drawR r) p (14 + drawV r % pr r p 0) = 0) : hareR r p = drawR r := if_pos h
theorem hareR_n {r : Int → Int} {p : Int} (h : pr (drawR r) p (14 + drawV r % pr r p 0) ≠ 0) : hareR r p = logsR (putR (drawR r) (31 + 20 * p + (8 + drawV r % pr r p 0)) ((pr (drawR r) p (8 + drawV r % pr r p 0) + 1) % 8)) p 3 (pr (drawR r) p 1) := if_neg h
theorem hare_f {q : Int → Int} {p k v : Int} (hk : 0 ≤ k) : logsR (putR q (31 + 20 * p + (8 + k)) v) p 3 (pr (putR q (31 + 20 * p + (8 + k)) v) p 1) = logsR (putR q (31 + 20 * p + (8 + k)) v) p 3 (pr q p 1) := by
  rw [show pr (putR q (31 + 20 * p + (8 + k)) v) p 1 = pr q p 1 from by unfold pr putR; rw [if_neg (by omega)]]
noncomputable def haresR (r : Int → Int) : Int → Int := hareR (drawR r) (oneF (onS r) (drawV r % bitsM (onS r) 31))
theorem on_ex {r : Int → Int} (h : AB r) (hs : onS r ≠ 0) : ∃ j, 0 ≤ j ∧ j < 8 ∧ bitB (onS r) j := by
  have b4 := h.2.1.2.1
  have l := setZ_lt (n := r 4) (c := fun p => pr r p 1 ≠ -1) b4.1
  have w := pw_le64 b4.1 b4.2
  have e : onS r = setZ (r 4) (fun p => pr r p 1 ≠ -1) := rfl
  exact bit_ex (by omega) (by omega)
theorem on_rg {r : Int → Int} (h : AB r) : 0 ≤ onS r ∧ onS r < 64 := by
  have b4 := h.2.1.2.1
  have l := setZ_lt (n := r 4) (c := fun p => pr r p 1 ≠ -1) b4.1
  have w := pw_le64 b4.1 b4.2
  unfold onS
  omega
theorem on_mem {r : Int → Int} {p : Int} (h : AB r) (p0 : 0 ≤ p) (p1 : p < 31) (hb : bitB (onS r) p) : p < r 4 ∧ pr r p 1 ≠ -1 := by
  have b4 := h.2.1.2.1
  have rg := on_rg h
  have p6 := bit_31 rg.1 rg.2 p0 p1 hb
  have l := setZ_lt (n := r 4) (c := fun p => pr r p 1 ≠ -1) b4.1
  have pl : p < r 4 := bit_lt l.1 b4.1 l.2 (by omega) hb
  exact ⟨pl, (bit_set (c := fun p => pr r p 1 ≠ -1) (by omega) p0 pl).mp hb⟩
section Ref21
variable {tb : Tab} {d : Nat} {m : AM} {K : Out → AM → Prop} {S : Nat → Int → Int} {ev : LawD → Int → (Int → Int) → Int} {good : LawD → Prop}
theorem q_259' {s : Int} (hB : BR S) (hs : s = onS (S 301)) (hK : K (.inl (some (vi s))) (X S m)) : Runs tb pg (d + 3) 259 [vr 300] (X S m) K := q_259 hB (fun r e => by rw [show r = s from e.trans hs.symm]; exact hK)
theorem q_204' {s b : Int} (hb : b = bitsM s 31) (hK : K (.inl (some (vi b))) m) : Runs tb pg (d + 1) 204 [vi s] m K := q_204 (fun r e => by rw [show r = b from e.trans hb.symm]; exact hK)
theorem q_261' {s n p : Int} (hn0 : 0 ≤ n) (hn : n < bitsM s 31) (hp : p = oneF s n) (hK : 0 ≤ p → p < 31 → bitB s p → K (.inl (some (vi p))) m) : Runs tb pg (d + 2) 261 [vi s, vi n] m K := q_261 hn0 hn (fun r h0 h1 h2 h3 => by
  have e := oneF_of h0 h1 h2 h3
  rw [← hp] at e
  subst e
  exact hK h0 h1 h2)
theorem k262_0 : pg.1 262 0 = [.aload 0, .invokeinterface 259 1, .istore 1, .iload 1, .aload 0, .iload 1, .invokeinterface 204 1, .invokeinterface 252 2, .invokeinterface 261 2, .istore 2, .aload 0, .aload 0, .iload 2, .bipush 0, .invokeinterface 206 3, .invokeinterface 252 2, .istore 3, .aload 0, .iload 2, .bipush 14, .iload 3, .iadd, .invokeinterface 206 3, .ifCond .ne 42, .return_] := rfl
theorem a262_0 {tb : Tab} {d : Nat} {K : Out → AM → Prop} {ls st : List AV} {m : AM} : At tb d 262 K 0 ls st m = wpB tb (pg.2.1 262) (Runs tb pg d) K (At tb d 262 K) [.aload 0, .invokeinterface 259 1, .istore 1, .iload 1, .aload 0, .iload 1, .invokeinterface 204 1, .invokeinterface 252 2, .invokeinterface 261 2, .istore 2, .aload 0, .aload 0, .iload 2, .bipush 0, .invokeinterface 206 3, .invokeinterface 252 2, .istore 3, .aload 0, .iload 2, .bipush 14, .iload 3, .iadd, .invokeinterface 206 3, .ifCond .ne 42, .return_] ls st m := At.eq k262_0
theorem k262_42 : pg.1 262 42 = [.aload 0, .iload 2, .bipush 8, .iload 3, .iadd, .aload 0, .iload 2, .bipush 8, .iload 3, .iadd, .invokeinterface 206 3, .bipush 1, .iadd, .bipush 8, .irem, .invokeinterface 207 4, .aload 0, .iload 2, .bipush 3, .aload 0, .iload 2, .bipush 1, .invokeinterface 206 3, .invokeinterface 253 4, .return_] := rfl
theorem a262_42 {tb : Tab} {d : Nat} {K : Out → AM → Prop} {ls st : List AV} {m : AM} : At tb d 262 K 42 ls st m = wpB tb (pg.2.1 262) (Runs tb pg d) K (At tb d 262 K) [.aload 0, .iload 2, .bipush 8, .iload 3, .iadd, .aload 0, .iload 2, .bipush 8, .iload 3, .iadd, .invokeinterface 206 3, .bipush 1, .iadd, .bipush 8, .irem, .invokeinterface 207 4, .aload 0, .iload 2, .bipush 3, .aload 0, .iload 2, .bipush 1, .invokeinterface 206 3, .invokeinterface 253 4, .return_] ls st m := At.eq k262_42
theorem q_262a (hA : AB (S 301)) (hs : onS (S 301) ≠ 0) (hK : ∀ T, T = sR S (haresR (S 301)) → K (.inl none) (X T m)) : Runs tb pg (d + 4) 262 [vr 300] (X S m) K := by
  have hB := AB_B hA
  have b4 := hA.2.1.2.1
  obtain ⟨j, j0, j1, j2⟩ := on_ex hA hs
  have bp := bits_pos j0 (by omega) j2
  have bl := bits_le (onS (S 301))
  have dv := drawV_rg (S 301)
  have dA := drawR_AB hA
  have dB := ABs (S := S) dA
  have d2A := drawR_AB dA
  have d2B := ABs (S := S) d2A
  have pm : ∀ p, 0 ≤ p → p < 31 → bitB (onS (S 301)) p → (0 ≤ p ∧ p < 6) ∧ (1 ≤ pr (drawR (S 301)) p 0 ∧ pr (drawR (S 301)) p 0 ≤ 6) ∧ (0 ≤ drawV (drawR (S 301)) % pr (drawR (S 301)) p 0 ∧ drawV (drawR (S 301)) % pr (drawR (S 301)) p 0 < pr (drawR (S 301)) p 0) ∧ (-1 ≤ pr (drawR (drawR (S 301))) p 1 ∧ pr (drawR (drawR (S 301))) p 1 < 6) := by
    intro p p0 p1 hb
    have a := on_mem hA p0 p1 hb
    have e4 : drawR (S 301) 4 = S 301 4 := drawR_o (by decide)
    have b5 := dA.2.2.2.2.2 p p0 (by rw [e4]; exact a.1)
    have b2 := (dA.2.2.1 p p0 (by omega)).1
    have c2 := (d2A.2.2.1 p p0 (by omega)).2.1
    exact ⟨by omega, by omega, ⟨Int.emod_nonneg _ (by omega), Int.emod_lt_of_pos _ (by omega)⟩, c2⟩
  obtain ⟨s, hs0⟩ : ∃ s, s = onS (S 301) := ⟨_, rfl⟩
  rw [← hs0] at bp bl pm
  obtain ⟨b, hb0⟩ : ∃ b, b = bitsM s 31 := ⟨_, rfl⟩
  rw [← hb0] at bp bl
  obtain ⟨w, hw0⟩ : ∃ w, w = drawV (S 301) % b := ⟨_, rfl⟩
  have dm : 0 ≤ w ∧ w < b := by rw [hw0]; exact ⟨Int.emod_nonneg _ (by omega), Int.emod_lt_of_pos _ bp⟩
  obtain ⟨p, hp0⟩ : ∃ p, p = oneF s w := ⟨_, rfl⟩
  have q_252w : ∀ (d : Nat) (K : Out → AM → Prop), K (.inl (some (vi w))) (X (sR S (drawR (S 301))) m) → Runs tb pg (d + 1) 252 [vr 300, vi b] (X S m) K := fun d K h => q_252 (by omega) (by rw [← hw0]; exact h)
  have hr : haresR (S 301) = hareR (drawR (S 301)) p := by unfold haresR; rw [hp0, hw0, hb0, hs0]
  refine Runs.of (al := [vr 300]) (n := 3) ⟨300, _, _, rfl, xo_300⟩ rfl rfl trivial ?_
  repeat' (first | refine hK _ ?_ | simp only [w_aload, w_call, w_istore, w_iload, w_iconst, w_iadd, w_if, cI, Int.reduceToNat, w_return, w_irem, a262_0, a262_42, R32, List.getElem?_cons_zero, List.getElem?_cons_succ, List.set_cons_zero, List.set_cons_succ, List.cons_append, List.nil_append, List.replicate_succ, List.replicate_zero, List.take_succ_cons, List.take_zero, List.drop_succ_cons, List.drop_zero, List.reverse_cons, List.reverse_nil, List.length_cons, List.length_nil, Option.toList, true_and, and_true, eq_self, ↓reduceIte, not_true_eq_false, not_false_eq_true, true_or, or_true, upS_upS, upS_at, up300, up300b, oR3, fR3, dR3, lgR3, valM3, Int.reduceEq, Nat.reduceEqDiff, and_self, and_true, and_false, false_and, if_true, if_false, upS_301, sR_sR, sR_r, sR_0, oRs] | refine q_207 ?_ ?_ ?_ | refine q_259' hB hs0 ?_ | refine q_204' hb0 ?_ | refine q_252w _ _ ?_ | refine q_261' dm.1 (by omega) hp0 (fun p9 p8 p7 => ?_) | refine q_252 (S := sR S _) ?_ ?_ | refine q_206 dB ?_ ?_ (fun c1 c2 => ?_) | refine q_206 d2B ?_ ?_ (fun c1 c2 => ?_) | refine q_253 (S := sR S _) (markR_AB (r := drawR (drawR (S 301))) ?_ ?_ ?_ ?_ ?_ d2A) ?_ ?_ ?_ ?_ | refine q_206 (ABs (S := S) (markR_AB (r := drawR (drawR (S 301))) ?_ ?_ ?_ ?_ ?_ d2A)) ?_ ?_ (fun c1 c2 => ?_) | with_reducible refine And.intro ?_ ?_ | with_reducible intro _)
  all_goals (try (first | omega | contradiction | ((try clear hK); (try clear hK0); (try clear hB); (try clear h9); (try clear h8); (try clear h7); (try simp only [oR3, fR3, dR3, lgR3, valM3, up300, up300b] at *); (try simp only [SR_o hT, SR_f hT, SR_d hT, SR_l hT, SR_v hT, SR_m hT, SR_g hT, oR3, fR3, dR3, lgR3, valM3, up300, up300b] at *); first | done | omega | (have q9 := pm p p9 p8 p7; (try simp only [oRs] at *); first | done | omega | (rw [hr]; first | exact congrArg (sR S) (hareR_y (by omega)).symm | exact congrArg (sR S) ((hare_f (by omega)).trans (hareR_n (by omega)).symm)) | (clear pm; grind)))))
end Ref21
