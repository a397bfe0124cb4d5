/-! ===== THE REFERENCE: a name written; hares, a wind ===== -/
def wrtP (r : Int → Int) (p f n i : Int) : Int → Int := fun j => if j = 32 + 20 * p then f else if 39 + 20 * p ≤ j ∧ j < 39 + 20 * p + i then r (j - 6) else if 45 + 20 * p ≤ j ∧ j < 45 + 20 * p + i then n else r j
theorem wrtP_p {r : Int → Int} {p f n i q w : Int} (i0 : 0 ≤ i) (i1 : i ≤ 6) (w0 : 0 ≤ w) (w1 : w < 20) : pr (wrtP r p f n i) q w = if q = p ∧ w = 1 then f else if q = p ∧ 8 ≤ w ∧ w < 8 + i then pr r p (w - 6) else if q = p ∧ 14 ≤ w ∧ w < 14 + i then n else pr r q w := by
  unfold pr wrtP
  by_cases e : q = p ∧ w = 1
  · rw [if_pos e, if_pos (by omega)]
  · rw [if_neg e, if_neg (by omega)]
    by_cases e2 : q = p ∧ 8 ≤ w ∧ w < 8 + i
    · rw [if_pos e2, if_pos (by omega)]
      exact congrArg r (by omega)
    · rw [if_neg e2, if_neg (by omega)]
      by_cases e3 : q = p ∧ 14 ≤ w ∧ w < 14 + i
      · rw [if_pos e3, if_pos (by omega)]
      · rw [if_neg e3, if_neg (by omega)]
theorem wrtP_o {r : Int → Int} {p f n i j : Int} (h0 : 0 ≤ p) (h1 : p < 6) (i1 : i ≤ 6) (hj : j < 31 ∨ 151 ≤ j) : wrtP r p f n i j = r j := by
  unfold wrtP
  rw [if_neg (by omega), if_neg (by omega), if_neg (by omega)]
theorem wrtP_AB {r : Int → Int} {p f n i : Int} (h0 : 0 ≤ p) (h1 : p < 6) (i0 : 0 ≤ i) (i1 : i ≤ 6) (hf : 0 ≤ f ∧ f < r 3) (hn : 0 ≤ n ∧ n ≤ 9) (h : AB r) : AB (wrtP r p f n i) := by
  have b3 := h.2.1.1
  refine AB_p h (fun j hj => wrtP_o h0 h1 i1 hj) (fun j j0 j1 => ?_) (fun q q0 q1 => ?_) (fun q q0 q1 => ?_)
  · have a := h.1 j (by omega)
    unfold wrtP
    split
    · omega
    · split
      · next e =>
        exact h.1 (j - 6) (by omega)
      · split <;> omega
  · have := h.2.2.1 q q0 q1
    rw [wrtP_p i0 i1 (by omega) (by omega), wrtP_p i0 i1 (by omega) (by omega), if_neg (by omega), if_neg (by omega), if_neg (by omega)]
    refine ⟨this.1, ?_, fun k k0 k1 => ?_⟩
    · split
      · omega
      · rw [if_neg (by omega), if_neg (by omega)]; exact this.2.1
    · have := this.2.2 k k0 k1
      rw [wrtP_p i0 i1 (by omega) (by omega), wrtP_p i0 i1 (by omega) (by omega), if_neg (by omega), if_neg (by omega), if_neg (show ¬ (q = p ∧ 2 + k = 1) by omega), if_neg (show ¬ (q = p ∧ 8 ≤ 2 + k ∧ 2 + k < 8 + i) by omega), if_neg (show ¬ (q = p ∧ 14 ≤ 2 + k ∧ 2 + k < 14 + i) by omega)]
      refine ⟨?_, this.2⟩
      split
      · exact hn
      · exact this.1
  · rw [wrtP_o h0 h1 i1 (by omega)] at q1
    have := h.2.2.2.2.2 q q0 q1
    have b := h.2.1.2.1
    rw [wrtP_p i0 i1 (by omega) (by omega), wrtP_p i0 i1 (by omega) (by omega), wrtP_o h0 h1 i1 (by omega), if_neg (by omega), if_neg (by omega), if_neg (by omega)]
    refine ⟨this.1, ?_⟩
    split
    · exact hf.2
    · rw [if_neg (by omega), if_neg (by omega)]; exact this.2
theorem wrtP_s {r : Int → Int} {p f n i v : Int} (h : 0 ≤ i) (i1 : i < 6) (hv : v = r (33 + 20 * p + i)) : putR (putR (wrtP r p f n i) (31 + 20 * p + (8 + i)) v) (31 + 20 * p + (14 + i)) n = wrtP r p f n (i + 1) := by
  funext j
  unfold putR wrtP
  by_cases e : j = 45 + 20 * p + i
  · rw [if_pos (by omega), if_neg (by omega), if_neg (by omega), if_pos (by omega)]
  · rw [if_neg (by omega)]
    by_cases e2 : j = 39 + 20 * p + i
    · rw [if_pos (by omega), if_neg (by omega), if_pos (by omega), hv]
      exact congrArg r (by omega)
    · rw [if_neg (by omega)]
      by_cases e3 : j = 32 + 20 * p
      · rw [if_pos e3, if_pos e3]
      · rw [if_neg e3, if_neg e3]
        grind
theorem wrtP_0 {r : Int → Int} {p f n : Int} : putR r (31 + 20 * p + 1) f = wrtP r p f n 0 := by
  funext j
  unfold putR wrtP
  by_cases e : j = 32 + 20 * p
  · rw [if_pos (by omega), if_pos e]
  · rw [if_neg (by omega), if_neg e, if_neg (by omega), if_neg (by omega)]
noncomputable def wrtR (ev : LawD → Int → (Int → Int) → Int) (r : Int → Int) (p f : Int) : Int → Int := wrtP r p f (dptR ev r p f) (pr r p 0)
def blwN (r : Int → Int) : Nat → Int → Int
  | 0 => r
  | k + 1 => if pr (blwN r k) k 1 = -1 then blwN r k else if 0 < fr (blwN r k) ((pr (blwN r k) k 1 + 1) % r 3) 1 then putR (blwN r k) (31 + 20 * (k : Int) + 1) ((pr (blwN r k) k 1 + 1) % r 3) else leavesR (logsR (blwN r k) k 4 (pr (blwN r k) k 1)) k
theorem on_AB {r : Int → Int} {p f : Int} (h0 : 0 ≤ p) (h1 : p < 6) (hf : -1 ≤ f ∧ f < 6) (hf3 : f < r 3) (h : AB r) : AB (putR r (31 + 20 * p + 1) f) := by
  refine AB_p h (fun j hj => ?_) (fun j j0 j1 => ?_) (fun q q0 q1 => ?_) (fun q q0 q1 => ?_)
  · unfold putR; rw [if_neg (by omega)]
  · have a := h.1 j (by omega)
    unfold putR
    split <;> omega
  · have a := h.2.2.1 q q0 q1
    have e : ∀ w, 0 ≤ w → w < 20 → pr (putR r (31 + 20 * p + 1) f) q w = if q = p ∧ w = 1 then f else pr r q w := by
      intro w w0 w1
      unfold pr putR
      by_cases e : q = p ∧ w = 1
      · rw [if_pos e, if_pos (by omega)]
      · rw [if_neg e, if_neg (by omega)]
    rw [e 0 (by decide) (by decide), e 1 (by decide) (by decide), if_neg (by omega)]
    refine ⟨a.1, by split <;> omega, fun k k0 k1 => ?_⟩
    rw [e (14 + k) (by omega) (by omega), e (2 + k) (by omega) (by omega), if_neg (by omega), if_neg (by omega)]
    exact a.2.2 k k0 k1
  · have b4 := h.2.1.2.1
    have e4 : putR r (31 + 20 * p + 1) f 4 = r 4 := by unfold putR; rw [if_neg (by omega)]
    have e3 : putR r (31 + 20 * p + 1) f 3 = r 3 := by unfold putR; rw [if_neg (by omega)]
    rw [e4] at q1
    have a := h.2.2.2.2.2 q q0 q1
    have e : ∀ w, 0 ≤ w → w < 20 → pr (putR r (31 + 20 * p + 1) f) q w = if q = p ∧ w = 1 then f else pr r q w := by
      intro w w0 w1
      unfold pr putR
      by_cases e : q = p ∧ w = 1
      · rw [if_pos e, if_pos (by omega)]
      · rw [if_neg e, if_neg (by omega)]
    rw [e 0 (by decide) (by decide), e 1 (by decide) (by decide), e3, if_neg (by omega)]
    exact ⟨a.1, by split <;> omega⟩
theorem blwN_AB {r : Int → Int} (h : AB r) : ∀ k : Nat, (k : Int) ≤ r 4 → AB (blwN r k) ∧ blwN r k 3 = r 3 ∧ blwN r k 4 = r 4
  | 0, _ => ⟨h, rfl, rfl⟩
  | k + 1, hk => by
    have b4 := h.2.1.2.1
    obtain ⟨a, e3, e4⟩ := blwN_AB h k (by omega)
    have b2 := (a.2.2.1 k (by omega) (by omega)).2.1
    have b5 := a.2.2.2.2.2 k (by omega) (by omega)
    have m1 : pr (blwN r k) k 1 ≠ -1 → 0 ≤ (pr (blwN r k) k 1 + 1) % r 3 ∧ (pr (blwN r k) k 1 + 1) % r 3 < r 3 := fun z => ⟨Int.emod_nonneg _ (by omega), Int.emod_lt_of_pos _ (by omega)⟩
    have b3 := h.2.1.1
    unfold blwN
    split
    · exact ⟨a, e3, e4⟩
    · next z =>
      have m2 := m1 z
      split
      · refine ⟨on_AB (by omega) (by omega) (by omega) (by omega) a, ?_, ?_⟩
        · unfold putR; rw [if_neg (by omega)]; exact e3
        · unfold putR; rw [if_neg (by omega)]; exact e4
      · refine ⟨leavesR_AB (by omega) (by omega) (logsR_AB (by omega) (by omega) (by omega) a), ?_, ?_⟩
        · rw [lvlg_o (by omega) (by omega) (by omega) (by omega)]; exact e3
        · rw [lvlg_o (by omega) (by omega) (by omega) (by omega)]; exact e4
def blowsR (r : Int → Int) : Int → Int := blwN r (r 4).toNat
theorem blwN_s {r : Int → Int} {i : Int} (h : 0 ≤ i) : blwN r (i + 1).toNat = if pr (blwN r i.toNat) i 1 = -1 then blwN r i.toNat else if 0 < fr (blwN r i.toNat) ((pr (blwN r i.toNat) i 1 + 1) % r 3) 1 then putR (blwN r i.toNat) (31 + 20 * i + 1) ((pr (blwN r i.toNat) i 1 + 1) % r 3) else leavesR (logsR (blwN r i.toNat) i 4 (pr (blwN r i.toNat) i 1)) i := by
  rw [show (i + 1).toNat = i.toNat + 1 by omega]
  show (if pr (blwN r i.toNat) (i.toNat : Int) 1 = -1 then _ else _) = _
  rw [Int.toNat_of_nonneg h]
section Ref20
variable {tb : Tab} {d : Nat} {m : AM} {K : Out → AM → Prop} {S : Nat → Int → Int} {ev : LawD → Int → (Int → Int) → Int} {good : LawD → Prop}
theorem k254_0 : pg.1 254 0 = [.aload 0, .iload 1, .iload 2, .invokeinterface 251 3, .istore 3, .aload 0, .iload 1, .bipush 1, .iload 2, .invokeinterface 207 4, .bipush 0, .istore 4, .jsr 17] := rfl
theorem a254_0 {tb : Tab} {d : Nat} {K : Out → AM → Prop} {ls st : List AV} {m : AM} : At tb d 254 K 0 ls st m = wpB tb (pg.2.1 254) (Runs tb pg d) K (At tb d 254 K) [.aload 0, .iload 1, .iload 2, .invokeinterface 251 3, .istore 3, .aload 0, .iload 1, .bipush 1, .iload 2, .invokeinterface 207 4, .bipush 0, .istore 4, .jsr 17] ls st m := At.eq k254_0
theorem k254_17 : pg.1 254 17 = [.iload 4, .aload 0, .iload 1, .bipush 0, .invokeinterface 206 3, .if_icmp .ge 64, .aload 0, .iload 1, .bipush 8, .iload 4, .iadd, .aload 0, .iload 1, .bipush 2, .iload 4, .iadd, .invokeinterface 206 3, .invokeinterface 207 4, .aload 0, .iload 1, .bipush 14, .iload 4, .iadd, .iload 3, .invokeinterface 207 4, .iinc 4 1, .goto 17] := rfl
theorem a254_17 {tb : Tab} {d : Nat} {K : Out → AM → Prop} {ls st : List AV} {m : AM} : At tb d 254 K 17 ls st m = wpB tb (pg.2.1 254) (Runs tb pg d) K (At tb d 254 K) [.iload 4, .aload 0, .iload 1, .bipush 0, .invokeinterface 206 3, .if_icmp .ge 64, .aload 0, .iload 1, .bipush 8, .iload 4, .iadd, .aload 0, .iload 1, .bipush 2, .iload 4, .iadd, .invokeinterface 206 3, .invokeinterface 207 4, .aload 0, .iload 1, .bipush 14, .iload 4, .iadd, .iload 3, .invokeinterface 207 4, .iinc 4 1, .goto 17] ls st m := At.eq k254_17
theorem k254_64 : pg.1 254 64 = [.return_] := rfl
theorem a254_64 {tb : Tab} {d : Nat} {K : Out → AM → Prop} {ls st : List AV} {m : AM} : At tb d 254 K 64 ls st m = wpB tb (pg.2.1 254) (Runs tb pg d) K (At tb d 254 K) [.return_] ls st m := At.eq k254_64
theorem q_254 {p f : Int} (hM : AskD tb ev good) (hA : AB (S 301)) (hG : good (lawD (S 301))) (hp : 0 ≤ p ∧ p < 6) (hf : 0 ≤ f ∧ f < S 301 3) (hK : ∀ T, SR (sR S (wrtR ev (S 301) p f)) T → K (.inl none) (X T m)) : Runs tb pg (d + 61) 254 [vr 300, vi p, vi f] (X S m) K := by
  have hB := AB_B hA
  have b3 := hA.2.1.1
  have a := hA.2.2.1 p hp.1 hp.2
  have hL17 : (fun i : Int => ∀ (n : Int) (T : Nat → Int → Int), (n = dptR ev (S 301) p f ∧ 0 ≤ n ∧ n ≤ 9) → (SR (sR S (wrtP (S 301) p f n i)) T) → At tb (d + 60) 254 K 17 [vr 300, vi p, vi f, vi n, vi i] [] (X T m)) 0 := by
    refine loopZ (fun i : Int => ∀ (n : Int) (T : Nat → Int → Int), (n = dptR ev (S 301) p f ∧ 0 ≤ n ∧ n ≤ 9) → (SR (sR S (wrtP (S 301) p f n i)) T) → At tb (d + 60) 254 K 17 [vr 300, vi p, vi f, vi n, vi i] [] (X T m)) (pr (S 301) p 0) (by omega) ?_ ?_
    · intro i h0 h1 h9 n T hn hT
      have s := wrtP_AB (f := f) (n := n) (i := i) hp.1 hp.2 h0 (by omega) hf hn.2 hA
      have hTm := SR_m hT
      rw [sR_r] at hTm
      have hB := ABs (S := S) s
      have o1 : oR T = pr (wrtP (S 301) p f n i) := by rw [SR_o hT, oRs]
      have c0 : pr (wrtP (S 301) p f n i) p 0 = pr (S 301) p 0 := by rw [wrtP_p h0 (by omega) (by omega) (by omega), if_neg (by omega), if_neg (by omega), if_neg (by omega)]
      have c1 : pr (wrtP (S 301) p f n i) p (2 + i) = S 301 (33 + 20 * p + i) := by rw [wrtP_p h0 (by omega) (by omega) (by omega), if_neg (by omega), if_neg (by omega), if_neg (by omega)]; unfold pr; exact congrArg _ (by omega)
      rw [a254_17]
      repeat' (first | refine h9 _ _ ?_ ?_ | simp only [w_aload, w_iload, w_call, w_istore, w_iconst, w_fall, Int.reduceToNat, w_ifc, cI, w_iadd, w_iinc, lgB, Nat.reduceSub, w_goto, w_return, a254_0, a254_64, R32, List.getElem?_cons_zero, List.getElem?_cons_succ, List.set_cons_zero, List.set_cons_succ, List.cons_append, List.nil_append, List.replicate_succ, List.replicate_zero, List.take_succ_cons, List.take_zero, List.drop_succ_cons, List.drop_zero, List.reverse_cons, List.reverse_nil, List.length_cons, List.length_nil, Option.toList, true_and, and_true, eq_self, ↓reduceIte, not_true_eq_false, not_false_eq_true, true_or, or_true, upS_upS, upS_at, up300, up300b, oR3, fR3, dR3, lgR3, valM3, Int.reduceEq, Nat.reduceEqDiff, and_self, and_true, and_false, false_and, if_true, if_false] | refine q_206 hB ?_ ?_ ?_ | refine q_206 (BR3 hB) ?_ ?_ ?_ | refine q_206 (BRs hT hB) ?_ ?_ ?_ | refine q_207 ?_ ?_ ?_ | with_reducible refine And.intro ?_ ?_ | with_reducible intro _)
      all_goals (try (first | omega | contradiction | ((try clear hK); (try clear hK0); (try clear hB); (try clear h9); (try clear h8); (try clear h7); (try simp only [oR3, fR3, dR3, lgR3, valM3, up300, up300b] at *); (try simp only [SR_o hT, SR_f hT, SR_d hT, SR_l hT, SR_v hT, SR_m hT, SR_g hT, oR3, fR3, dR3, lgR3, valM3, up300, up300b] at *); first | done | omega | (simp only [o1, c0, c1] at *; first | done | omega | exact hn | (rw [← wrtP_s h0 (by omega) rfl]; exact SR_w (SR_w hT rfl) rfl) | grind))))
    · intro n T hn hT
      have hTm := SR_m hT
      rw [sR_r] at hTm
      have s := wrtP_AB (f := f) (n := n) (i := pr (S 301) p 0) hp.1 hp.2 a.1.1 (by omega) hf hn.2 hA
      have hB := ABs (S := S) s
      have o1 : oR T = pr (wrtP (S 301) p f n (pr (S 301) p 0)) := by rw [SR_o hT, oRs]
      have c0 : pr (wrtP (S 301) p f n (pr (S 301) p 0)) p 0 = pr (S 301) p 0 := by rw [wrtP_p a.1.1 (by omega) (by omega) (by omega), if_neg (by omega), if_neg (by omega), if_neg (by omega)]
      rw [a254_17]
      repeat' (first | refine hK _ ?_ | simp only [w_aload, w_iload, w_call, w_istore, w_iconst, w_fall, Int.reduceToNat, w_ifc, cI, w_iadd, w_iinc, lgB, Nat.reduceSub, w_goto, w_return, a254_0, a254_64, R32, List.getElem?_cons_zero, List.getElem?_cons_succ, List.set_cons_zero, List.set_cons_succ, List.cons_append, List.nil_append, List.replicate_succ, List.replicate_zero, List.take_succ_cons, List.take_zero, List.drop_succ_cons, List.drop_zero, List.reverse_cons, List.reverse_nil, List.length_cons, List.length_nil, Option.toList, true_and, and_true, eq_self, ↓reduceIte, not_true_eq_false, not_false_eq_true, true_or, or_true, upS_upS, upS_at, up300, up300b, oR3, fR3, dR3, lgR3, valM3, Int.reduceEq, Nat.reduceEqDiff, and_self, and_true, and_false, false_and, if_true, if_false] | refine q_206 hB ?_ ?_ ?_ | refine q_206 (BR3 hB) ?_ ?_ ?_ | refine q_206 (BRs hT hB) ?_ ?_ ?_ | refine q_207 ?_ ?_ ?_ | with_reducible refine And.intro ?_ ?_ | with_reducible intro _)
      all_goals (try (first | omega | contradiction | ((try clear hK); (try clear hK0); (try clear hB); (try clear h9); (try clear h8); (try clear h7); (try simp only [oR3, fR3, dR3, lgR3, valM3, up300, up300b] at *); (try simp only [SR_o hT, SR_f hT, SR_d hT, SR_l hT, SR_v hT, SR_m hT, SR_g hT, oR3, fR3, dR3, lgR3, valM3, up300, up300b] at *); first | done | omega | (simp only [o1, c0] at *; first | done | omega | (unfold wrtR; rw [← hn.1]; exact hT) | grind))))
  refine Runs.of (al := [vr 300, vi p, vi f]) (n := 2) ⟨300, _, _, rfl, xo_300⟩ rfl rfl trivial ?_
  repeat' (first | refine hL17 _ _ ?_ ?_ | simp only [w_aload, w_iload, w_call, w_istore, w_iconst, w_fall, Int.reduceToNat, w_ifc, cI, w_iadd, w_iinc, lgB, Nat.reduceSub, w_goto, w_return, a254_0, a254_64, R32, List.getElem?_cons_zero, List.getElem?_cons_succ, List.set_cons_zero, List.set_cons_succ, List.cons_append, List.nil_append, List.replicate_succ, List.replicate_zero, List.take_succ_cons, List.take_zero, List.drop_succ_cons, List.drop_zero, List.reverse_cons, List.reverse_nil, List.length_cons, List.length_nil, Option.toList, true_and, and_true, eq_self, ↓reduceIte, not_true_eq_false, not_false_eq_true, true_or, or_true, upS_upS, upS_at, up300, up300b, oR3, fR3, dR3, lgR3, valM3, Int.reduceEq, Nat.reduceEqDiff, and_self, and_true, and_false, false_and, if_true, if_false] | refine q_206 hB ?_ ?_ ?_ | refine q_206 (BR3 hB) ?_ ?_ ?_ | refine q_206 (BRs hT hB) ?_ ?_ ?_ | refine q_207 ?_ ?_ ?_ | refine hM _ _ _ _ _ _ hA hG ?_ ?_ (fun T9 r9 e1 e2 e3 e4 => ?_) | with_reducible refine And.intro ?_ ?_ | with_reducible intro _)
  all_goals (try (first | omega | contradiction | ((try clear hK); (try clear hK0); (try clear hB); (try clear h9); (try clear h8); (try clear h7); (try simp only [oR3, fR3, dR3, lgR3, valM3, up300, up300b] at *); (try simp only [SR_o hT, SR_f hT, SR_d hT, SR_l hT, SR_v hT, SR_m hT, SR_g hT, oR3, fR3, dR3, lgR3, valM3, up300, up300b] at *); first | done | omega | exact ⟨e1, e2, e3⟩ | (rw [← wrtP_0]; exact SR_w (SR_id (SA_R e4)) rfl))))
theorem k263_0 : pg.1 263 0 = [.bipush 0, .istore 1, .jsr 2] := rfl
theorem a263_0 {tb : Tab} {d : Nat} {K : Out → AM → Prop} {ls st : List AV} {m : AM} : At tb d 263 K 0 ls st m = wpB tb (pg.2.1 263) (Runs tb pg d) K (At tb d 263 K) [.bipush 0, .istore 1, .jsr 2] ls st m := At.eq k263_0
theorem k263_2 : pg.1 263 2 = [.iload 1, .aload 0, .getfield 1001, .bipush 4, .iaload, .if_icmp .ge 78, .aload 0, .iload 1, .invokeinterface 211 2, .ifCond .ne 23, .goto 72] := rfl
theorem a263_2 {tb : Tab} {d : Nat} {K : Out → AM → Prop} {ls st : List AV} {m : AM} : At tb d 263 K 2 ls st m = wpB tb (pg.2.1 263) (Runs tb pg d) K (At tb d 263 K) [.iload 1, .aload 0, .getfield 1001, .bipush 4, .iaload, .if_icmp .ge 78, .aload 0, .iload 1, .invokeinterface 211 2, .ifCond .ne 23, .goto 72] ls st m := At.eq k263_2
theorem k263_23 : pg.1 263 23 = [.aload 0, .iload 1, .bipush 1, .invokeinterface 206 3, .istore 2, .iload 2, .bipush 1, .iadd, .aload 0, .getfield 1001, .bipush 3, .iaload, .irem, .istore 3, .aload 0, .iload 3, .bipush 1, .invokeinterface 205 3, .ifCond .le 60, .aload 0, .iload 1, .bipush 1, .iload 3, .invokeinterface 207 4, .goto 72] := rfl
theorem a263_23 {tb : Tab} {d : Nat} {K : Out → AM → Prop} {ls st : List AV} {m : AM} : At tb d 263 K 23 ls st m = wpB tb (pg.2.1 263) (Runs tb pg d) K (At tb d 263 K) [.aload 0, .iload 1, .bipush 1, .invokeinterface 206 3, .istore 2, .iload 2, .bipush 1, .iadd, .aload 0, .getfield 1001, .bipush 3, .iaload, .irem, .istore 3, .aload 0, .iload 3, .bipush 1, .invokeinterface 205 3, .ifCond .le 60, .aload 0, .iload 1, .bipush 1, .iload 3, .invokeinterface 207 4, .goto 72] ls st m := At.eq k263_23
theorem k263_60 : pg.1 263 60 = [.aload 0, .iload 1, .bipush 4, .iload 2, .invokeinterface 253 4, .aload 0, .iload 1, .invokeinterface 255 2, .jsr 72] := rfl
theorem a263_60 {tb : Tab} {d : Nat} {K : Out → AM → Prop} {ls st : List AV} {m : AM} : At tb d 263 K 60 ls st m = wpB tb (pg.2.1 263) (Runs tb pg d) K (At tb d 263 K) [.aload 0, .iload 1, .bipush 4, .iload 2, .invokeinterface 253 4, .aload 0, .iload 1, .invokeinterface 255 2, .jsr 72] ls st m := At.eq k263_60
theorem k263_72 : pg.1 263 72 = [.iinc 1 1, .goto 2] := rfl
theorem a263_72 {tb : Tab} {d : Nat} {K : Out → AM → Prop} {ls st : List AV} {m : AM} : At tb d 263 K 72 ls st m = wpB tb (pg.2.1 263) (Runs tb pg d) K (At tb d 263 K) [.iinc 1 1, .goto 2] ls st m := At.eq k263_72
theorem k263_78 : pg.1 263 78 = [.return_] := rfl
theorem a263_78 {tb : Tab} {d : Nat} {K : Out → AM → Prop} {ls st : List AV} {m : AM} : At tb d 263 K 78 ls st m = wpB tb (pg.2.1 263) (Runs tb pg d) K (At tb d 263 K) [.return_] ls st m := At.eq k263_78
theorem q_263a (hA : AB (S 301)) (hK : ∀ T, T = sR S (blowsR (S 301)) → K (.inl none) (X T m)) : Runs tb pg (d + 3) 263 [vr 300] (X S m) K := by
  have b3 := hA.2.1.1
  have b4 := hA.2.1.2.1
  have hL2 : (fun i : Int => ∀ (z2 : AV) (z3 : AV) (T : Nat → Int → Int), T = sR S (blwN (S 301) i.toNat) → At tb (d + 2) 263 K 2 [vr 300, vi i, z2, z3] [] (X T m)) 0 := by
    refine loopZ (fun i : Int => ∀ (z2 : AV) (z3 : AV) (T : Nat → Int → Int), T = sR S (blwN (S 301) i.toNat) → At tb (d + 2) 263 K 2 [vr 300, vi i, z2, z3] [] (X T m)) (S 301 4) (by omega) ?_ ?_
    · intro i h0 h1 h9 z2 z3 T hT
      subst hT
      obtain ⟨s, e3, e4⟩ := blwN_AB hA i.toNat (by omega)
      have y := blwN_s (r := S 301) h0
      obtain ⟨q, hq⟩ : ∃ q, q = blwN (S 301) i.toNat := ⟨_, rfl⟩
      rw [← hq] at s e3 e4 y
      have hB := ABs (S := S) s
      have b2 := (s.2.2.1 i h0 (by omega)).2.1
      have b5 := s.2.2.2.2.2 i h0 (by omega)
      have m1 : pr q i 1 ≠ -1 → 0 ≤ (pr q i 1 + 1) % S 301 3 ∧ (pr q i 1 + 1) % S 301 3 < S 301 3 := fun z => ⟨Int.emod_nonneg _ (by omega), Int.emod_lt_of_pos _ (by omega)⟩
      rw [← hq]
      rw [a263_2]
      repeat' (first | refine h9 _ _ _ ?_ | simp only [w_iconst, w_istore, w_fall, Int.reduceToNat, w_iload, w_aload, x_g1001_300, x_iald, w_ialoads, w_ialoadw, w_ifc, cI, w_call, w_if, w_goto, w_iadd, w_irem, w_iinc, lgB, Nat.reduceSub, w_return, isA_301, isA_302, isA_303, isA_304, isA_305, isA_306, isA_307, isA_308, isA_309, isA_310, isA_311, isA_312, isA_313, isA_314, isA_315, len_301, len_302, len_303, len_304, len_305, len_306, len_307, len_308, len_309, len_310, len_311, len_312, len_313, len_314, len_315, Int.cast_ofNat_Int, a263_0, a263_23, a263_60, a263_72, a263_78, R32, List.getElem?_cons_zero, List.getElem?_cons_succ, List.set_cons_zero, List.set_cons_succ, List.cons_append, List.nil_append, List.replicate_succ, List.replicate_zero, List.take_succ_cons, List.take_zero, List.drop_succ_cons, List.drop_zero, List.reverse_cons, List.reverse_nil, List.length_cons, List.length_nil, Option.toList, true_and, and_true, eq_self, ↓reduceIte, not_true_eq_false, not_false_eq_true, true_or, or_true, upS_upS, upS_at, up300, up300b, oR3, fR3, dR3, lgR3, valM3, Int.reduceEq, Nat.reduceEqDiff, and_self, and_true, and_false, false_and, if_true, if_false, upS_301, sR_sR, sR_r, sR_0] | refine q_205 hB ?_ ?_ ?_ | refine q_205 (BR3 hB) ?_ ?_ ?_ | refine q_205 (BRs hT hB) ?_ ?_ ?_ | refine q_206 hB ?_ ?_ ?_ | refine q_206 (BR3 hB) ?_ ?_ ?_ | refine q_206 (BRs hT hB) ?_ ?_ ?_ | refine q_207 ?_ ?_ ?_ | refine q_211 hB ?_ ?_ | refine q_253 (S := sR S _) s ?_ ?_ ?_ ?_ | refine q_255 ?_ ?_ | refine q_211 (BR3 hB) ?_ ?_ | refine q_211 (BRs hT hB) ?_ ?_ | with_reducible refine And.intro ?_ ?_ | with_reducible intro _)
      all_goals (try (first | omega | contradiction | ((try clear hK); (try clear hK0); (try clear hB); (try clear h9); (try clear h8); (try clear h7); (try simp only [oR3, fR3, dR3, lgR3, valM3, up300, up300b] at *); (try simp only [SR_o hT, SR_f hT, SR_d hT, SR_l hT, SR_v hT, SR_m hT, SR_g hT, oR3, fR3, dR3, lgR3, valM3, up300, up300b] at *); first | done | omega | (simp only [oRs, fRs, e3, e4] at *; first | done | omega | (refine congrArg (sR S) ?_; rw [y]; first | (rw [if_pos (by grind)]) | (rw [if_neg (by grind), if_pos (by grind)]) | (rw [if_neg (by grind), if_neg (by grind)])) | grind))))
    · intro z2 z3 T hT
      subst hT
      obtain ⟨s, e3, e4⟩ := blwN_AB hA (S 301 4).toNat (by omega)
      rw [a263_2]
      repeat' (first | refine hK _ ?_ | simp only [w_iconst, w_istore, w_fall, Int.reduceToNat, w_iload, w_aload, x_g1001_300, x_iald, w_ialoads, w_ialoadw, w_ifc, cI, w_call, w_if, w_goto, w_iadd, w_irem, w_iinc, lgB, Nat.reduceSub, w_return, isA_301, isA_302, isA_303, isA_304, isA_305, isA_306, isA_307, isA_308, isA_309, isA_310, isA_311, isA_312, isA_313, isA_314, isA_315, len_301, len_302, len_303, len_304, len_305, len_306, len_307, len_308, len_309, len_310, len_311, len_312, len_313, len_314, len_315, Int.cast_ofNat_Int, a263_0, a263_23, a263_60, a263_72, a263_78, R32, List.getElem?_cons_zero, List.getElem?_cons_succ, List.set_cons_zero, List.set_cons_succ, List.cons_append, List.nil_append, List.replicate_succ, List.replicate_zero, List.take_succ_cons, List.take_zero, List.drop_succ_cons, List.drop_zero, List.reverse_cons, List.reverse_nil, List.length_cons, List.length_nil, Option.toList, true_and, and_true, eq_self, ↓reduceIte, not_true_eq_false, not_false_eq_true, true_or, or_true, upS_upS, upS_at, up300, up300b, oR3, fR3, dR3, lgR3, valM3, Int.reduceEq, Nat.reduceEqDiff, and_self, and_true, and_false, false_and, if_true, if_false, upS_301, sR_sR, sR_r, sR_0] | refine q_205 hB ?_ ?_ ?_ | refine q_205 (BR3 hB) ?_ ?_ ?_ | refine q_205 (BRs hT hB) ?_ ?_ ?_ | refine q_206 hB ?_ ?_ ?_ | refine q_206 (BR3 hB) ?_ ?_ ?_ | refine q_206 (BRs hT hB) ?_ ?_ ?_ | refine q_207 ?_ ?_ ?_ | refine q_211 hB ?_ ?_ | refine q_253 (S := sR S _) s ?_ ?_ ?_ ?_ | refine q_255 ?_ ?_ | refine q_211 (BR3 hB) ?_ ?_ | refine q_211 (BRs hT hB) ?_ ?_ | with_reducible refine And.intro ?_ ?_ | with_reducible intro _)
      all_goals (try (first | omega | contradiction | ((try clear hK); (try clear hK0); (try clear hB); (try clear h9); (try clear h8); (try clear h7); (try simp only [oR3, fR3, dR3, lgR3, valM3, up300, up300b] at *); (try simp only [SR_o hT, SR_f hT, SR_d hT, SR_l hT, SR_v hT, SR_m hT, SR_g hT, oR3, fR3, dR3, lgR3, valM3, up300, up300b] at *); first | done | omega | rfl | (simp only [e4]; omega) | grind)))
  refine Runs.of (al := [vr 300]) (n := 3) ⟨300, _, _, rfl, xo_300⟩ rfl rfl trivial ?_
  repeat' (first | refine hL2 _ _ _ ?_ | simp only [w_iconst, w_istore, w_fall, Int.reduceToNat, w_iload, w_aload, x_g1001_300, x_iald, w_ialoads, w_ialoadw, w_ifc, cI, w_call, w_if, w_goto, w_iadd, w_irem, w_iinc, lgB, Nat.reduceSub, w_return, isA_301, isA_302, isA_303, isA_304, isA_305, isA_306, isA_307, isA_308, isA_309, isA_310, isA_311, isA_312, isA_313, isA_314, isA_315, len_301, len_302, len_303, len_304, len_305, len_306, len_307, len_308, len_309, len_310, len_311, len_312, len_313, len_314, len_315, Int.cast_ofNat_Int, a263_0, a263_23, a263_60, a263_72, a263_78, R32, List.getElem?_cons_zero, List.getElem?_cons_succ, List.set_cons_zero, List.set_cons_succ, List.cons_append, List.nil_append, List.replicate_succ, List.replicate_zero, List.take_succ_cons, List.take_zero, List.drop_succ_cons, List.drop_zero, List.reverse_cons, List.reverse_nil, List.length_cons, List.length_nil, Option.toList, true_and, and_true, eq_self, ↓reduceIte, not_true_eq_false, not_false_eq_true, true_or, or_true, upS_upS, upS_at, up300, up300b, oR3, fR3, dR3, lgR3, valM3, Int.reduceEq, Nat.reduceEqDiff, and_self, and_true, and_false, false_and, if_true, if_false] | refine q_205 hB ?_ ?_ ?_ | refine q_205 (BR3 hB) ?_ ?_ ?_ | refine q_205 (BRs hT hB) ?_ ?_ ?_ | refine q_206 hB ?_ ?_ ?_ | refine q_206 (BR3 hB) ?_ ?_ ?_ | refine q_206 (BRs hT hB) ?_ ?_ ?_ | refine q_207 ?_ ?_ ?_ | refine q_211 hB ?_ ?_ | refine q_253 (S := sR S _) s ?_ ?_ ?_ ?_ | refine q_255 ?_ ?_ | refine q_211 (BR3 hB) ?_ ?_ | refine q_211 (BRs hT hB) ?_ ?_ | with_reducible refine And.intro ?_ ?_ | with_reducible intro _)
  all_goals (try (first | omega | contradiction | ((try clear hK); (try clear hK0); (try clear hB); (try clear h9); (try clear h8); (try clear h7); (try simp only [oR3, fR3, dR3, lgR3, valM3, up300, up300b] at *); (try simp only [SR_o hT, SR_f hT, SR_d hT, SR_l hT, SR_v hT, SR_m hT, SR_g hT, oR3, fR3, dR3, lgR3, valM3, up300, up300b] at *); first | done | omega | exact sR_id.symm)))
theorem q_263 (hA : AB (S 301)) (hK : K (.inl none) (X (sR S (blowsR (S 301))) m)) : Runs tb pg (d + 3) 263 [vr 300] (X S m) K := q_263a hA (fun T e => by rw [e]; exact hK)
end Ref20
