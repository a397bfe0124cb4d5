/-! ===== THE REFERENCE: look ===== -/
def ptN (c : Int → Int) : Nat → Int
  | 0 => 0
  | j + 1 => if ptN c j < c ((j : Int) - 1) then c ((j : Int) - 1) else ptN c j
theorem ptN_is {c : Int → Int} : ∀ j : Nat, 0 ≤ ptN c j ∧ (∀ v, -1 ≤ v → v < (j : Int) - 1 → c v ≤ ptN c j) ∧ (ptN c j = 0 ∨ ∃ v, -1 ≤ v ∧ v < (j : Int) - 1 ∧ c v = ptN c j)
  | 0 => ⟨Int.le_refl _, fun v h0 h1 => by omega, Or.inl rfl⟩
  | j + 1 => by
    obtain ⟨h1, h2, h3⟩ := ptN_is (c := c) j
    unfold ptN
    by_cases e : ptN c j < c ((j : Int) - 1)
    · rw [if_pos e]
      refine ⟨by omega, fun v v0 v1 => ?_, Or.inr ⟨(j : Int) - 1, by omega, by omega, rfl⟩⟩
      by_cases q : v = (j : Int) - 1
      · rw [q]; exact Int.le_refl _
      · have := h2 v v0 (by omega); omega
    · rw [if_neg e]
      refine ⟨h1, fun v v0 v1 => ?_, ?_⟩
      · by_cases q : v = (j : Int) - 1
        · rw [q]; omega
        · exact h2 v v0 (by omega)
      · rcases h3 with z | ⟨v, v0, v1, v2⟩
        · exact Or.inl z
        · exact Or.inr ⟨v, v0, by omega, v2⟩
/-- the greatest part that is left by a place -/
def ptM (P : Int → Int → Int) (n s k : Int) : Int := ptN (fun v => cntBy P n s k v) 9
theorem pt_of {P : Int → Int → Int} {n s k r : Int} (h1 : ∀ v, -1 ≤ v → v < 8 → cntBy P n s k v ≤ r) (h2 : r = 0 ∨ ∃ v, -1 ≤ v ∧ v < 8 ∧ cntBy P n s k v = r) (h0 : 0 ≤ r) : r = ptM P n s k := by
  obtain ⟨g0, g1, g2⟩ := ptN_is (c := fun v => cntBy P n s k v) 9
  have e : ptM P n s k = ptN (fun v => cntBy P n s k v) 9 := rfl
  rw [← e] at g0 g1 g2
  have a1 : r ≤ ptM P n s k := by
    rcases h2 with z | ⟨v, v0, v1, v2⟩
    · omega
    · have := g1 v v0 (by omega); omega
  have a2 : ptM P n s k ≤ r := by
    rcases g2 with z | ⟨v, v0, v1, v2⟩
    · omega
    · have := h1 v v0 (by omega); omega
  omega
section Ref33
variable {tb : Tab} {d : Nat} {m : AM} {K : Out → AM → Prop} {S : Nat → Int → Int}
def lookM (P : Int → Int → Int) (n s r : Int) : Prop := (1 < bitsM s 31 ∧ isMinP (fun _ => True) (ptM P n s) 6 r) ∨ (¬ 1 < bitsM s 31 ∧ r = -1)
theorem k301_0 : pg.1 301 0 = [.aload 0, .invokeinterface 297 1, .istore 1, .aload 0, .getfield 1000, .ifCond .le 14, .bipush 0, .ireturn] := rfl
theorem a301_0 {tb : Tab} {d : Nat} {K : Out → AM → Prop} {ls st : List AV} {m : AM} : At tb d 301 K 0 ls st m = wpB tb (pg.2.1 301) (Runs tb pg d) K (At tb d 301 K) [.aload 0, .invokeinterface 297 1, .istore 1, .aload 0, .getfield 1000, .ifCond .le 14, .bipush 0, .ireturn] ls st m := At.eq k301_0
theorem k301_14 : pg.1 301 14 = [.bipush (-1), .istore 2, .bipush 2000000000, .istore 3, .bipush 0, .istore 4, .jsr 23] := rfl
theorem a301_14 {tb : Tab} {d : Nat} {K : Out → AM → Prop} {ls st : List AV} {m : AM} : At tb d 301 K 14 ls st m = wpB tb (pg.2.1 301) (Runs tb pg d) K (At tb d 301 K) [.bipush (-1), .istore 2, .bipush 2000000000, .istore 3, .bipush 0, .istore 4, .jsr 23] ls st m := At.eq k301_14
theorem k301_23 : pg.1 301 23 = [.iload 4, .bipush 6, .if_icmp .ge 68, .iload 1, .invokeinterface 204 1, .bipush 1, .if_icmp .le 68, .aload 0, .iload 1, .iload 4, .invokeinterface 300 3, .istore 5, .iload 5, .iload 3, .if_icmp .lt 56, .goto 62] := rfl
theorem a301_23 {tb : Tab} {d : Nat} {K : Out → AM → Prop} {ls st : List AV} {m : AM} : At tb d 301 K 23 ls st m = wpB tb (pg.2.1 301) (Runs tb pg d) K (At tb d 301 K) [.iload 4, .bipush 6, .if_icmp .ge 68, .iload 1, .invokeinterface 204 1, .bipush 1, .if_icmp .le 68, .aload 0, .iload 1, .iload 4, .invokeinterface 300 3, .istore 5, .iload 5, .iload 3, .if_icmp .lt 56, .goto 62] ls st m := At.eq k301_23
theorem k301_56 : pg.1 301 56 = [.iload 5, .istore 3, .iload 4, .istore 2, .jsr 62] := rfl
theorem a301_56 {tb : Tab} {d : Nat} {K : Out → AM → Prop} {ls st : List AV} {m : AM} : At tb d 301 K 56 ls st m = wpB tb (pg.2.1 301) (Runs tb pg d) K (At tb d 301 K) [.iload 5, .istore 3, .iload 4, .istore 2, .jsr 62] ls st m := At.eq k301_56
theorem k301_62 : pg.1 301 62 = [.iinc 4 1, .goto 23] := rfl
theorem a301_62 {tb : Tab} {d : Nat} {K : Out → AM → Prop} {ls st : List AV} {m : AM} : At tb d 301 K 62 ls st m = wpB tb (pg.2.1 301) (Runs tb pg d) K (At tb d 301 K) [.iinc 4 1, .goto 23] ls st m := At.eq k301_62
theorem k301_68 : pg.1 301 68 = [.iload 2, .ireturn] := rfl
theorem a301_68 {tb : Tab} {d : Nat} {K : Out → AM → Prop} {ls st : List AV} {m : AM} : At tb d 301 K 68 ls st m = wpB tb (pg.2.1 301) (Runs tb pg d) K (At tb d 301 K) [.iload 2, .ireturn] ls st m := At.eq k301_68
theorem q_301 (hB : BR S) (hT8 : TB S) (h8 : 0 ≤ S 300 8 ∧ S 300 8 ≤ 400) (hK1 : ¬ goodT (S 305) (S 300 8) → K (.inl (some (vi 0))) (X (upS (upS S 300 8 0) 300 0 1) m)) (hK : ∀ T r, goodT (S 305) (S 300 8) → lookM (oR S) (S 301 4) (setZ (S 301 4) (fun p => wrM (oR S) (S 305) p (S 300 8 / 2) ≤ 1)) r → SR (upS (upS S 300 8 0) 300 0 0) T → K (.inl (some (vi r))) (X T m)) : Runs tb pg (d + 3) 301 [vr 300] (X S m) K := by
  have b4 := hB.2.2.1
  have hL : ∀ T s, goodT (S 305) (S 300 8) → s = setZ (S 301 4) (fun p => wrM (oR S) (S 305) p (S 300 8 / 2) ≤ 1) → SR (upS (upS S 300 8 0) 300 0 0) T → ∀ z5, At tb (d + 2) 301 K 23 [vr 300, vi s, vi (-1), vi 2000000000, vi 0, z5] [] (X T m) := by
    intro T s hg hs hT z5
    have o3 : T 301 = S 301 := by rw [SR_m hT]; rfl
    have o1 : oR T = oR S := by rw [SR_o hT]; rfl
    have hB2 : BR T := BRs hT hB
    have bl := bits_le s
    rw [← hs] at hK
    have hL23 : (fun i : Int => ∀ (z5 : AV) (a : Int) (l : Int), (isMinP (fun _ => True) (ptM (oR S) (S 301 4) s) i a) → ((a = -1 ∧ l = 2000000000) ∨ (a ≠ -1 ∧ l = ptM (oR S) (S 301 4) s a ∧ 0 ≤ l ∧ l ≤ 6)) → (0 < i → 1 < bitsM s 31) → At tb (d + 2) 301 K 23 [vr 300, vi s, vi a, vi l, vi i, z5] [] (X T m)) 0 := by
      refine loopZ (fun i : Int => ∀ (z5 : AV) (a : Int) (l : Int), (isMinP (fun _ => True) (ptM (oR S) (S 301 4) s) i a) → ((a = -1 ∧ l = 2000000000) ∨ (a ≠ -1 ∧ l = ptM (oR S) (S 301 4) s a ∧ 0 ≤ l ∧ l ≤ 6)) → (0 < i → 1 < bitsM s 31) → At tb (d + 2) 301 K 23 [vr 300, vi s, vi a, vi l, vi i, z5] [] (X T m)) (6) (by omega) ?_ ?_
      · intro i h0 h1 h9 z5 a l ha hl hb
        have g1 := isMinP_rg ha
        rw [a301_23]
        repeat' (first | refine h9 _ _ _ ?_ ?_ ?_ | refine hK _ _ hg ?_ hT | simp only [w_aload, w_call, w_istore, x_g1000_300, w_if, cI, Int.reduceToNat, w_iconst, w_ireturn, w_fall, w_iload, w_ifc, w_goto, w_iinc, lgB, Nat.reduceSub, a301_0, a301_14, a301_56, a301_62, a301_68, R32, List.getElem?_cons_zero, List.getElem?_cons_succ, List.set_cons_zero, List.set_cons_succ, List.cons_append, List.nil_append, List.replicate_succ, List.replicate_zero, List.take_succ_cons, List.take_zero, List.drop_succ_cons, List.drop_zero, List.reverse_cons, List.reverse_nil, List.length_cons, List.length_nil, Option.toList, true_and, and_true, eq_self, ↓reduceIte, not_true_eq_false, not_false_eq_true, true_or, or_true, upS_upS, upS_at, up300, up300b, oR3, fR3, dR3, lgR3, valM3, Int.reduceEq, Nat.reduceEqDiff, and_self, and_true, and_false, false_and, if_true, if_false] | refine q_204 ?_ | refine q_300 (S := T) hB2 ?_ (fun r9 w1 w2 w3 w4 => ?_) | with_reducible refine And.intro ?_ ?_ | with_reducible intro _)
        all_goals (try (first | omega | contradiction | ((try clear hK); (try clear hK0); (try clear hB); (try clear h9); (try clear h8); (try clear h7); (try simp only [oR3, fR3, dR3, lgR3, valM3, up300, up300b] at *); (try simp only [SR_o hT, SR_f hT, SR_d hT, SR_l hT, SR_v hT, SR_m hT, SR_g hT, oR3, fR3, dR3, lgR3, valM3, up300, up300b] at *); first | done | omega | ((try rw [o1, o3] at w1 w2); first | omega | (have w5 := pt_of w1 w2 w3; first | (((with_reducible refine isMinP_y h0 ha trivial ?_) <;> omega); done) | exact isMinP_n ha (Or.inr ⟨by omega, by have := w5; rcases hl with ⟨_, q⟩ | ⟨_, q, _, _⟩ <;> omega⟩) | omega)) | (refine Or.inr ⟨by omega, ?_⟩; omega) | (refine Or.inr ⟨by omega, ?_⟩; rcases ha with ⟨q, _⟩ | ⟨q1, q2, _⟩; exact q; exfalso; have := hb (by omega); omega) | grind)))
      · intro z5 a l ha hl hb
        rw [a301_23]
        repeat' (first | refine hK _ _ hg ?_ hT | simp only [w_aload, w_call, w_istore, x_g1000_300, w_if, cI, Int.reduceToNat, w_iconst, w_ireturn, w_fall, w_iload, w_ifc, w_goto, w_iinc, lgB, Nat.reduceSub, a301_0, a301_14, a301_56, a301_62, a301_68, R32, List.getElem?_cons_zero, List.getElem?_cons_succ, List.set_cons_zero, List.set_cons_succ, List.cons_append, List.nil_append, List.replicate_succ, List.replicate_zero, List.take_succ_cons, List.take_zero, List.drop_succ_cons, List.drop_zero, List.reverse_cons, List.reverse_nil, List.length_cons, List.length_nil, Option.toList, true_and, and_true, eq_self, ↓reduceIte, not_true_eq_false, not_false_eq_true, true_or, or_true, upS_upS, upS_at, up300, up300b, oR3, fR3, dR3, lgR3, valM3, Int.reduceEq, Nat.reduceEqDiff, and_self, and_true, and_false, false_and, if_true, if_false] | refine q_204 ?_ | refine q_300 (S := T) hB2 ?_ (fun r9 w1 w2 w3 w4 => ?_) | with_reducible refine And.intro ?_ ?_ | with_reducible intro _)
        all_goals (try (first | omega | contradiction | ((try clear hK); (try clear hK0); (try clear hB); (try clear h9); (try clear h8); (try clear h7); (try simp only [oR3, fR3, dR3, lgR3, valM3, up300, up300b] at *); (try simp only [SR_o hT, SR_f hT, SR_d hT, SR_l hT, SR_v hT, SR_m hT, SR_g hT, oR3, fR3, dR3, lgR3, valM3, up300, up300b] at *); first | done | omega | exact Or.inl ⟨hb (by decide), ha⟩)))
    exact hL23 _ _ _ isMinP_0 (Or.inl ⟨rfl, rfl⟩) (fun z => by omega)
  refine Runs.of (al := [vr 300]) (n := 5) ⟨300, _, _, rfl, xo_300⟩ rfl rfl trivial ?_
  repeat' (first | refine hK1 hg | refine hL _ _ hg e1 hT _ | simp only [w_aload, w_call, w_istore, x_g1000_300, w_if, cI, Int.reduceToNat, w_iconst, w_ireturn, w_fall, w_iload, w_ifc, w_goto, w_iinc, lgB, Nat.reduceSub, a301_0, a301_14, a301_56, a301_62, a301_68, R32, List.getElem?_cons_zero, List.getElem?_cons_succ, List.set_cons_zero, List.set_cons_succ, List.cons_append, List.nil_append, List.replicate_succ, List.replicate_zero, List.take_succ_cons, List.take_zero, List.drop_succ_cons, List.drop_zero, List.reverse_cons, List.reverse_nil, List.length_cons, List.length_nil, Option.toList, true_and, and_true, eq_self, ↓reduceIte, not_true_eq_false, not_false_eq_true, true_or, or_true, upS_upS, upS_at, up300, up300b, oR3, fR3, dR3, lgR3, valM3, Int.reduceEq, Nat.reduceEqDiff, and_self, and_true, and_false, false_and, if_true, if_false] | refine q_297 hB hT8 h8 (fun hg => ?_) (fun T r hg e1 e2 hT => ?_) | with_reducible refine And.intro ?_ ?_ | with_reducible intro _)
  all_goals (try (first | omega | contradiction | ((try clear hK); (try clear hK0); (try clear hB); (try clear h9); (try clear h8); (try clear h7); (try simp only [oR3, fR3, dR3, lgR3, valM3, up300, up300b] at *); (try simp only [SR_o hT, SR_f hT, SR_d hT, SR_l hT, SR_v hT, SR_m hT, SR_g hT, oR3, fR3, dR3, lgR3, valM3, up300, up300b] at *); first | done | omega | (exfalso; have z := th0 hT; omega) | (have z := th0 hT; omega))))
end Ref33
