/-! ===== THE REFERENCE: odds, share, settle ===== -/
/-- the field that is next to get: of the first k + 1 -/
def nxN (F : Int → Int → Int) (H : Int → Int) : Nat → Int
  | 0 => 0
  | k + 1 => if F (nxN F H k) 2 / (H (nxN F H k) + 1) < F ((k : Int) + 1) 2 / (H ((k : Int) + 1) + 1) then (k : Int) + 1 else nxN F H k
theorem nxN_rg {F : Int → Int → Int} {H : Int → Int} : ∀ k : Nat, 0 ≤ nxN F H k ∧ nxN F H k ≤ k
  | 0 => by show 0 ≤ (0 : Int) ∧ (0 : Int) ≤ ((0 : Nat) : Int); omega
  | k + 1 => by
    have := nxN_rg (F := F) (H := H) k
    unfold nxN
    split <;> omega
def nxZ (F : Int → Int → Int) (H : Int → Int) (k : Int) : Int := nxN F H k.toNat
theorem nxZ_s {F : Int → Int → Int} {H : Int → Int} {k : Int} (h : 0 ≤ k) : nxZ F H (k + 1) = if F (nxZ F H k) 2 / (H (nxZ F H k) + 1) < F (k + 1) 2 / (H (k + 1) + 1) then k + 1 else nxZ F H k := by
  unfold nxZ
  rw [show (k + 1).toNat = k.toNat + 1 by omega]
  show (if F (nxN F H k.toNat) 2 / (H (nxN F H k.toNat) + 1) < F ((k.toNat : Int) + 1) 2 / (H ((k.toNat : Int) + 1) + 1) then (k.toNat : Int) + 1 else nxN F H k.toNat) = _
  rw [Int.toNat_of_nonneg h]
theorem nxZ_rg {F : Int → Int → Int} {H : Int → Int} {k : Int} (h : 0 ≤ k) : 0 ≤ nxZ F H k ∧ nxZ F H k ≤ k := by
  have := nxN_rg (F := F) (H := H) k.toNat
  unfold nxZ
  omega
theorem nxN_congr {F : Int → Int → Int} {H G : Int → Int} : ∀ {k : Nat}, (∀ j : Int, 0 ≤ j → j ≤ k → H j = G j) → nxN F H k = nxN F G k
  | 0, _ => rfl
  | k + 1, h => by
    have e := nxN_congr (F := F) (H := H) (G := G) (k := k) (fun j h0 h1 => h j h0 (by omega))
    have r := nxN_rg (F := F) (H := G) k
    unfold nxN
    rw [e, h _ r.1 (by omega), h ((k : Int) + 1) (by omega) (by omega)]
/-- how many sledges each field has got -/
def shH (F : Int → Int → Int) (nf : Int) : Nat → Int → Int
  | 0 => fun _ => 0
  | i + 1 => fun f => if f = nxZ F (shH F nf i) (nf - 1) then shH F nf i f + 1 else shH F nf i f
theorem shH_s {F : Int → Int → Int} {nf i j : Int} (h : 0 ≤ i) : shH F nf (i + 1).toNat j = if j = nxZ F (shH F nf i.toNat) (nf - 1) then shH F nf i.toNat j + 1 else shH F nf i.toNat j := by
  rw [show (i + 1).toNat = i.toNat + 1 by omega]
  rfl
theorem bt_clr : ∀ s : Fin 64, ∀ p : Fin 6, andI (shrI (s : Nat) (p : Nat)) 1 = 1 → andI (s : Nat) (xorI (shlI 1 (p : Nat)) (-1)) = ((s : Nat) : Int) - pw (p : Nat) ∧ xorI (s : Nat) (shlI 1 (p : Nat)) = ((s : Nat) : Int) - pw (p : Nat) ∧ pw (p : Nat) ≤ ((s : Nat) : Int) := by decide +kernel
theorem clr_eq {s p : Int} (h0 : 0 ≤ s) (h1 : s < 64) (p0 : 0 ≤ p) (p1 : p < 6) (hb : bitB s p) : andI s (xorI (shlI 1 p) (-1)) = s - pw p ∧ xorI s (shlI 1 p) = s - pw p ∧ pw p ≤ s := by
  have := bt_clr ⟨s.toNat, by omega⟩ ⟨p.toNat, by omega⟩
  dsimp only at this
  rw [Int.toNat_of_nonneg h0, Int.toNat_of_nonneg p0] at this
  exact this hb
/-- the greatest f of a set less one -/
def isMxS (f : Int → Int) (s n x : Int) : Prop := 0 ≤ x ∧ (∀ p, 0 ≤ p → p < n → bitB s p → f (s - pw p) ≤ x) ∧ (x = 0 ∨ ∃ p, 0 ≤ p ∧ p < n ∧ bitB s p ∧ f (s - pw p) = x)
theorem isMxS_0 {f : Int → Int} {s : Int} : isMxS f s 0 0 := ⟨Int.le_refl _, fun p h0 h1 => by omega, Or.inl rfl⟩
theorem isMxS_n {f : Int → Int} {s n x : Int} (h : isMxS f s n x) (hb : ¬ bitB s n) : isMxS f s (n + 1) x := by
  refine ⟨h.1, fun p h0 h1 h2 => ?_, ?_⟩
  · by_cases e : p = n
    · subst e; exact absurd h2 hb
    · exact h.2.1 p h0 (by omega) h2
  · rcases h.2.2 with z | ⟨p, p0, p1, p2⟩
    · exact Or.inl z
    · exact Or.inr ⟨p, p0, by omega, p2⟩
theorem isMxS_y {f : Int → Int} {s n x y : Int} (hn : 0 ≤ n) (h : isMxS f s n x) (hb : bitB s n) (hy : y = if x < f (s - pw n) then f (s - pw n) else x) : isMxS f s (n + 1) y := by
  have h1 := h.1
  refine ⟨by split at hy <;> omega, fun p p0 p1 p2 => ?_, ?_⟩
  · by_cases e : p = n
    · subst e; split at hy <;> omega
    · have := h.2.1 p p0 (by omega) p2
      split at hy <;> omega
  · by_cases e : x < f (s - pw n)
    · rw [if_pos e] at hy
      exact Or.inr ⟨n, hn, by omega, hb, hy.symm⟩
    · rw [if_neg e] at hy
      subst hy
      rcases h.2.2 with z | ⟨p, p0, p1, p2⟩
      · exact Or.inl z
      · exact Or.inr ⟨p, p0, by omega, p2⟩
/-- f tells of each set below n into how many parts that are whole it falls -/
def isSt (ok : Int → Prop) (k : Int) (f : Int → Int) (n : Int) : Prop := f 0 = 0 ∧ ∀ s, 1 ≤ s → s < n → ∃ x, isMxS f s k x ∧ ((ok s ∧ f s = x + 1) ∨ (¬ ok s ∧ f s = x))
section Ref10
variable {tb : Tab} {d : Nat} {m : AM} {K : Out → AM → Prop} {S : Nat → Int → Int}
theorem k331_0 : pg.1 331 0 = [.aload 0, .iload 1, .bipush 0, .bipush 5, .invokeinterface 200 3, .ifCond .eq 19, .iload 2, .bipush 0, .bipush 5, .invokeinterface 200 3, .ifCond .ne 23, .jsr 19] := rfl
theorem a331_0 {tb : Tab} {d : Nat} {K : Out → AM → Prop} {ls st : List AV} {m : AM} : At tb d 331 K 0 ls st m = wpB tb (pg.2.1 331) (Runs tb pg d) K (At tb d 331 K) [.aload 0, .iload 1, .bipush 0, .bipush 5, .invokeinterface 200 3, .ifCond .eq 19, .iload 2, .bipush 0, .bipush 5, .invokeinterface 200 3, .ifCond .ne 23, .jsr 19] ls st m := At.eq k331_0
theorem k331_19 : pg.1 331 19 = [.bipush 1, .goto 24] := rfl
theorem a331_19 {tb : Tab} {d : Nat} {K : Out → AM → Prop} {ls st : List AV} {m : AM} : At tb d 331 K 19 ls st m = wpB tb (pg.2.1 331) (Runs tb pg d) K (At tb d 331 K) [.bipush 1, .goto 24] ls st m := At.eq k331_19
theorem k331_23 : pg.1 331 23 = [.bipush 0, .jsr 24] := rfl
theorem a331_23 {tb : Tab} {d : Nat} {K : Out → AM → Prop} {ls st : List AV} {m : AM} : At tb d 331 K 23 ls st m = wpB tb (pg.2.1 331) (Runs tb pg d) K (At tb d 331 K) [.bipush 0, .jsr 24] ls st m := At.eq k331_23
theorem k331_24 : pg.1 331 24 = [.putfield 1000, .aload 0, .getfield 1000, .ifCond .le 36, .bipush 0, .ireturn] := rfl
theorem a331_24 {tb : Tab} {d : Nat} {K : Out → AM → Prop} {ls st : List AV} {m : AM} : At tb d 331 K 24 ls st m = wpB tb (pg.2.1 331) (Runs tb pg d) K (At tb d 331 K) [.putfield 1000, .aload 0, .getfield 1000, .ifCond .le 36, .bipush 0, .ireturn] ls st m := At.eq k331_24
theorem k331_36 : pg.1 331 36 = [.sipush 0, .lstore 3, .sipush 1, .lstore 5, .bipush 0, .istore 7, .jsr 44] := rfl
theorem a331_36 {tb : Tab} {d : Nat} {K : Out → AM → Prop} {ls st : List AV} {m : AM} : At tb d 331 K 36 ls st m = wpB tb (pg.2.1 331) (Runs tb pg d) K (At tb d 331 K) [.sipush 0, .lstore 3, .sipush 1, .lstore 5, .bipush 0, .istore 7, .jsr 44] ls st m := At.eq k331_36
theorem k331_44 : pg.1 331 44 = [.iload 7, .iload 1, .if_icmp .ge 64, .lload 5, .sipush 100, .lmul, .lstore 5, .iinc 7 1, .goto 44] := rfl
theorem a331_44 {tb : Tab} {d : Nat} {K : Out → AM → Prop} {ls st : List AV} {m : AM} : At tb d 331 K 44 ls st m = wpB tb (pg.2.1 331) (Runs tb pg d) K (At tb d 331 K) [.iload 7, .iload 1, .if_icmp .ge 64, .lload 5, .sipush 100, .lmul, .lstore 5, .iinc 7 1, .goto 44] ls st m := At.eq k331_44
theorem k331_64 : pg.1 331 64 = [.bipush 0, .istore 7, .jsr 67] := rfl
theorem a331_64 {tb : Tab} {d : Nat} {K : Out → AM → Prop} {ls st : List AV} {m : AM} : At tb d 331 K 64 ls st m = wpB tb (pg.2.1 331) (Runs tb pg d) K (At tb d 331 K) [.bipush 0, .istore 7, .jsr 67] ls st m := At.eq k331_64
theorem k331_67 : pg.1 331 67 = [.iload 7, .bipush 1, .iload 1, .ishl, .if_icmp .ge 154, .iload 7, .invokeinterface 204 1, .iload 2, .if_icmp .ge 88, .sipush 0, .goto 89] := rfl
theorem a331_67 {tb : Tab} {d : Nat} {K : Out → AM → Prop} {ls st : List AV} {m : AM} : At tb d 331 K 67 ls st m = wpB tb (pg.2.1 331) (Runs tb pg d) K (At tb d 331 K) [.iload 7, .bipush 1, .iload 1, .ishl, .if_icmp .ge 154, .iload 7, .invokeinterface 204 1, .iload 2, .if_icmp .ge 88, .sipush 0, .goto 89] ls st m := At.eq k331_67
theorem k331_88 : pg.1 331 88 = [.sipush 1, .jsr 89] := rfl
theorem a331_88 {tb : Tab} {d : Nat} {K : Out → AM → Prop} {ls st : List AV} {m : AM} : At tb d 331 K 88 ls st m = wpB tb (pg.2.1 331) (Runs tb pg d) K (At tb d 331 K) [.sipush 1, .jsr 89] ls st m := At.eq k331_88
theorem k331_89 : pg.1 331 89 = [.lstore 8, .bipush 0, .istore 10, .jsr 94] := rfl
theorem a331_89 {tb : Tab} {d : Nat} {K : Out → AM → Prop} {ls st : List AV} {m : AM} : At tb d 331 K 89 ls st m = wpB tb (pg.2.1 331) (Runs tb pg d) K (At tb d 331 K) [.lstore 8, .bipush 0, .istore 10, .jsr 94] ls st m := At.eq k331_89
theorem k331_94 : pg.1 331 94 = [.iload 10, .iload 1, .if_icmp .ge 143, .lload 8, .iload 7, .iload 10, .invokeinterface 203 2, .ifCond .eq 123, .aload 0, .getfield 1001, .bipush 8, .iaload, .i2l, .goto 134] := rfl
theorem a331_94 {tb : Tab} {d : Nat} {K : Out → AM → Prop} {ls st : List AV} {m : AM} : At tb d 331 K 94 ls st m = wpB tb (pg.2.1 331) (Runs tb pg d) K (At tb d 331 K) [.iload 10, .iload 1, .if_icmp .ge 143, .lload 8, .iload 7, .iload 10, .invokeinterface 203 2, .ifCond .eq 123, .aload 0, .getfield 1001, .bipush 8, .iaload, .i2l, .goto 134] ls st m := At.eq k331_94
theorem k331_123 : pg.1 331 123 = [.bipush 100, .aload 0, .getfield 1001, .bipush 8, .iaload, .isub, .i2l, .jsr 134] := rfl
theorem a331_123 {tb : Tab} {d : Nat} {K : Out → AM → Prop} {ls st : List AV} {m : AM} : At tb d 331 K 123 ls st m = wpB tb (pg.2.1 331) (Runs tb pg d) K (At tb d 331 K) [.bipush 100, .aload 0, .getfield 1001, .bipush 8, .iaload, .isub, .i2l, .jsr 134] ls st m := At.eq k331_123
theorem k331_134 : pg.1 331 134 = [.lmul, .lstore 8, .iinc 10 1, .goto 94] := rfl
theorem a331_134 {tb : Tab} {d : Nat} {K : Out → AM → Prop} {ls st : List AV} {m : AM} : At tb d 331 K 134 ls st m = wpB tb (pg.2.1 331) (Runs tb pg d) K (At tb d 331 K) [.lmul, .lstore 8, .iinc 10 1, .goto 94] ls st m := At.eq k331_134
theorem k331_143 : pg.1 331 143 = [.lload 3, .lload 8, .ladd, .lstore 3, .iinc 7 1, .goto 67] := rfl
theorem a331_143 {tb : Tab} {d : Nat} {K : Out → AM → Prop} {ls st : List AV} {m : AM} : At tb d 331 K 143 ls st m = wpB tb (pg.2.1 331) (Runs tb pg d) K (At tb d 331 K) [.lload 3, .lload 8, .ladd, .lstore 3, .iinc 7 1, .goto 67] ls st m := At.eq k331_143
theorem k331_154 : pg.1 331 154 = [.sipush 10000, .lload 3, .lmul, .lload 5, .ldiv, .l2i, .ireturn] := rfl
theorem a331_154 {tb : Tab} {d : Nat} {K : Out → AM → Prop} {ls st : List AV} {m : AM} : At tb d 331 K 154 ls st m = wpB tb (pg.2.1 331) (Runs tb pg d) K (At tb d 331 K) [.sipush 10000, .lload 3, .lmul, .lload 5, .ldiv, .l2i, .ireturn] ls st m := At.eq k331_154
theorem q_331 {n k : Int} (hB : BR S) (hC : CR S) (hn : R32 n) (hk : R32 k) (hK1 : ¬ ((0 ≤ n ∧ n ≤ 5) ∧ (0 ≤ k ∧ k ≤ 5)) → K (.inl (some (vi 0))) (X (upS S 300 0 1) m)) (hK : ∀ r, (0 ≤ n ∧ n ≤ 5) → (0 ≤ k ∧ k ≤ 5) → r = 10000 * odR n k (S 301 8) / odW n → K (.inl (some (vi r))) (X (upS S 300 0 0) m)) : Runs tb pg (d + 2) 331 [vr 300, vi n, vi k] (X S m) K := by
  unfold R32 at hn hk
  have c8 := hC.2.2.1
  have hL : 0 ≤ n → n < 6 → 0 ≤ k → k < 6 → At tb (d + 1) 331 K 44 [vr 300, vi n, vi k, vl 0, vu, vl 1, vu, vi 0, vu, vu, vu] [] (X (upS S 300 0 0) m) := by
    intro n0 n1 k0 k1
    have od := od_bd2 (n := n) (k := k) (h := S 301 8) n0 n1 c8.1 (by omega)
    have e1 := shl_eq n0 (show n < 8 by omega)
    have e2 := pw_le64 n0 (show n ≤ 6 by omega)
    have hL67 : (fun i : Int => ∀ (z8 : AV) (z9 : AV) (z10 : AV) (a : Int), a = sumZ i (od1 n k (S 301 8)) → At tb (d + 1) 331 K 67 [vr 300, vi n, vi k, vl a, vu, vl (odW n), vu, vi i, z8, z9, z10] [] (X (upS S 300 0 0) m)) 0 := by
      refine loopZ (fun i : Int => ∀ (z8 : AV) (z9 : AV) (z10 : AV) (a : Int), a = sumZ i (od1 n k (S 301 8)) → At tb (d + 1) 331 K 67 [vr 300, vi n, vi k, vl a, vu, vl (odW n), vu, vi i, z8, z9, z10] [] (X (upS S 300 0 0) m)) (pw n) (by omega) ?_ ?_
      · intro i h0 h1 h9 z8 z9 z10 a ha
        have g2 := bits_le i
        have hL94 : (fun j : Int => ∀ (b : Int), b = prodZ (if bitsM i 31 < k then 0 else 1) j (fun q => if bitB i q then S 301 8 else 100 - S 301 8) → At tb (d + 1) 331 K 94 [vr 300, vi n, vi k, vl a, vu, vl (odW n), vu, vi i, vl b, vu, vi j] [] (X (upS S 300 0 0) m)) 0 := by
          refine loopZ (fun j : Int => ∀ (b : Int), b = prodZ (if bitsM i 31 < k then 0 else 1) j (fun q => if bitB i q then S 301 8 else 100 - S 301 8) → At tb (d + 1) 331 K 94 [vr 300, vi n, vi k, vl a, vu, vl (odW n), vu, vi i, vl b, vu, vi j] [] (X (upS S 300 0 0) m)) (n) (by omega) ?_ ?_
          · intro j j0 j1 h8 b hb
            have q := prodZ_s (a := if bitsM i 31 < k then 0 else 1) (f := fun q => if bitB i q then S 301 8 else 100 - S 301 8) j0
            rw [a331_94]
            repeat' (first | refine h8 _ ?_ | simp only [w_aload, w_iload, w_iconst, w_call, w_if, cI, Int.reduceToNat, w_fall, w_goto, x_p1000_300, x_g1000_300, w_ireturn, w_lconst, w_lstore, w_istore, w_ifc, w_lload, w_lmul, w_iinc, lgB, Nat.reduceSub, w_ishl, x_g1001_300, x_iald, w_ialoads, w_ialoadw, w_i2l, w_isub, w_ladd, w_ldiv, w_l2i, isA_301, isA_302, isA_303, isA_304, isA_305, isA_306, isA_307, isA_308, isA_309, isA_310, isA_311, isA_312, isA_313, isA_314, isA_315, len_301, len_302, len_303, len_304, len_305, len_306, len_307, len_308, len_309, len_310, len_311, len_312, len_313, len_314, len_315, Int.cast_ofNat_Int, a331_0, a331_19, a331_23, a331_24, a331_36, a331_64, a331_88, a331_89, a331_123, a331_134, a331_143, a331_154, R32, List.getElem?_cons_zero, List.getElem?_cons_succ, List.set_cons_zero, List.set_cons_succ, List.cons_append, List.nil_append, List.replicate_succ, List.replicate_zero, List.take_succ_cons, List.take_zero, List.drop_succ_cons, List.drop_zero, List.reverse_cons, List.reverse_nil, List.length_cons, List.length_nil, Option.toList, true_and, and_true, eq_self, ↓reduceIte, not_true_eq_false, not_false_eq_true, true_or, or_true, upS_upS, upS_at, up300, up300b, oR3, fR3, dR3, lgR3, valM3, Int.reduceEq, Nat.reduceEqDiff, and_self, and_true, and_false, false_and, if_true, if_false] | refine q_200 ?_ ?_ ?_ ?_ | refine q_203 (fun q9 => ?_) (fun q9 => ?_) | refine q_204 ?_ | with_reducible refine And.intro ?_ ?_ | with_reducible intro _)
            all_goals (try (first | omega | contradiction | ((try clear hK); (try clear hK0); (try clear hB); (try clear h9); (try clear h8); (try clear h7); (try simp only [oR3, fR3, dR3, lgR3, valM3, up300, up300b] at *); first | omega | (rw [q, ← hb]; first | (rw [if_pos (by assumption)]) | (rw [if_neg (by assumption)])))))
          · intro b hb
            rw [a331_94]
            repeat' (first | refine h9 _ _ _ _ ?_ | simp only [w_aload, w_iload, w_iconst, w_call, w_if, cI, Int.reduceToNat, w_fall, w_goto, x_p1000_300, x_g1000_300, w_ireturn, w_lconst, w_lstore, w_istore, w_ifc, w_lload, w_lmul, w_iinc, lgB, Nat.reduceSub, w_ishl, x_g1001_300, x_iald, w_ialoads, w_ialoadw, w_i2l, w_isub, w_ladd, w_ldiv, w_l2i, isA_301, isA_302, isA_303, isA_304, isA_305, isA_306, isA_307, isA_308, isA_309, isA_310, isA_311, isA_312, isA_313, isA_314, isA_315, len_301, len_302, len_303, len_304, len_305, len_306, len_307, len_308, len_309, len_310, len_311, len_312, len_313, len_314, len_315, Int.cast_ofNat_Int, a331_0, a331_19, a331_23, a331_24, a331_36, a331_64, a331_88, a331_89, a331_123, a331_134, a331_143, a331_154, R32, List.getElem?_cons_zero, List.getElem?_cons_succ, List.set_cons_zero, List.set_cons_succ, List.cons_append, List.nil_append, List.replicate_succ, List.replicate_zero, List.take_succ_cons, List.take_zero, List.drop_succ_cons, List.drop_zero, List.reverse_cons, List.reverse_nil, List.length_cons, List.length_nil, Option.toList, true_and, and_true, eq_self, ↓reduceIte, not_true_eq_false, not_false_eq_true, true_or, or_true, upS_upS, upS_at, up300, up300b, oR3, fR3, dR3, lgR3, valM3, Int.reduceEq, Nat.reduceEqDiff, and_self, and_true, and_false, false_and, if_true, if_false] | refine q_200 ?_ ?_ ?_ ?_ | refine q_203 (fun q9 => ?_) (fun q9 => ?_) | refine q_204 ?_ | with_reducible refine And.intro ?_ ?_ | with_reducible intro _)
            all_goals (try (first | omega | contradiction | ((try clear hK); (try clear hK0); (try clear hB); (try clear h9); (try clear h8); (try clear h7); (try simp only [oR3, fR3, dR3, lgR3, valM3, up300, up300b] at *); first | omega | (rw [sumZ_s h0, ha, hb]; rfl))))
        rw [a331_67]
        repeat' (first | refine h9 _ _ _ _ ?_ | refine hL94 _ ?_ | simp only [w_aload, w_iload, w_iconst, w_call, w_if, cI, Int.reduceToNat, w_fall, w_goto, x_p1000_300, x_g1000_300, w_ireturn, w_lconst, w_lstore, w_istore, w_ifc, w_lload, w_lmul, w_iinc, lgB, Nat.reduceSub, w_ishl, x_g1001_300, x_iald, w_ialoads, w_ialoadw, w_i2l, w_isub, w_ladd, w_ldiv, w_l2i, isA_301, isA_302, isA_303, isA_304, isA_305, isA_306, isA_307, isA_308, isA_309, isA_310, isA_311, isA_312, isA_313, isA_314, isA_315, len_301, len_302, len_303, len_304, len_305, len_306, len_307, len_308, len_309, len_310, len_311, len_312, len_313, len_314, len_315, Int.cast_ofNat_Int, a331_0, a331_19, a331_23, a331_24, a331_36, a331_64, a331_88, a331_89, a331_123, a331_134, a331_143, a331_154, R32, List.getElem?_cons_zero, List.getElem?_cons_succ, List.set_cons_zero, List.set_cons_succ, List.cons_append, List.nil_append, List.replicate_succ, List.replicate_zero, List.take_succ_cons, List.take_zero, List.drop_succ_cons, List.drop_zero, List.reverse_cons, List.reverse_nil, List.length_cons, List.length_nil, Option.toList, true_and, and_true, eq_self, ↓reduceIte, not_true_eq_false, not_false_eq_true, true_or, or_true, upS_upS, upS_at, up300, up300b, oR3, fR3, dR3, lgR3, valM3, Int.reduceEq, Nat.reduceEqDiff, and_self, and_true, and_false, false_and, if_true, if_false] | refine q_200 ?_ ?_ ?_ ?_ | refine q_203 (fun q9 => ?_) (fun q9 => ?_) | refine q_204 ?_ | with_reducible refine And.intro ?_ ?_ | with_reducible intro _)
        all_goals (try (first | omega | contradiction | ((try clear hK); (try clear hK0); (try clear hB); (try clear h9); (try clear h8); (try clear h7); (try simp only [oR3, fR3, dR3, lgR3, valM3, up300, up300b] at *); first | omega | (rw [if_pos (by omega)]; rfl) | (rw [if_neg (by omega)]; rfl))))
      · intro z8 z9 z10 a ha
        rw [a331_67]
        repeat' (first | refine hK _ ?_ ?_ ?_ | simp only [w_aload, w_iload, w_iconst, w_call, w_if, cI, Int.reduceToNat, w_fall, w_goto, x_p1000_300, x_g1000_300, w_ireturn, w_lconst, w_lstore, w_istore, w_ifc, w_lload, w_lmul, w_iinc, lgB, Nat.reduceSub, w_ishl, x_g1001_300, x_iald, w_ialoads, w_ialoadw, w_i2l, w_isub, w_ladd, w_ldiv, w_l2i, isA_301, isA_302, isA_303, isA_304, isA_305, isA_306, isA_307, isA_308, isA_309, isA_310, isA_311, isA_312, isA_313, isA_314, isA_315, len_301, len_302, len_303, len_304, len_305, len_306, len_307, len_308, len_309, len_310, len_311, len_312, len_313, len_314, len_315, Int.cast_ofNat_Int, a331_0, a331_19, a331_23, a331_24, a331_36, a331_64, a331_88, a331_89, a331_123, a331_134, a331_143, a331_154, R32, List.getElem?_cons_zero, List.getElem?_cons_succ, List.set_cons_zero, List.set_cons_succ, List.cons_append, List.nil_append, List.replicate_succ, List.replicate_zero, List.take_succ_cons, List.take_zero, List.drop_succ_cons, List.drop_zero, List.reverse_cons, List.reverse_nil, List.length_cons, List.length_nil, Option.toList, true_and, and_true, eq_self, ↓reduceIte, not_true_eq_false, not_false_eq_true, true_or, or_true, upS_upS, upS_at, up300, up300b, oR3, fR3, dR3, lgR3, valM3, Int.reduceEq, Nat.reduceEqDiff, and_self, and_true, and_false, false_and, if_true, if_false] | refine q_200 ?_ ?_ ?_ ?_ | refine q_203 (fun q9 => ?_) (fun q9 => ?_) | refine q_204 ?_ | with_reducible refine And.intro ?_ ?_ | with_reducible intro _)
        all_goals (try (first | omega | contradiction | ((try clear hK); (try clear hK0); (try clear hB); (try clear h9); (try clear h8); (try clear h7); (try simp only [oR3, fR3, dR3, lgR3, valM3, up300, up300b] at *); first | omega | (subst ha; rfl) | (subst ha; unfold odR at od; omega))))
    have hL44 : (fun i : Int => ∀ (a : Int), a = prodZ 1 i (fun _ => 100) → At tb (d + 1) 331 K 44 [vr 300, vi n, vi k, vl 0, vu, vl a, vu, vi i, vu, vu, vu] [] (X (upS S 300 0 0) m)) 0 := by
      refine loopZ (fun i : Int => ∀ (a : Int), a = prodZ 1 i (fun _ => 100) → At tb (d + 1) 331 K 44 [vr 300, vi n, vi k, vl 0, vu, vl a, vu, vi i, vu, vu, vu] [] (X (upS S 300 0 0) m)) (n) (by omega) ?_ ?_
      · intro i h0 h1 h9 a ha
        rw [a331_44]
        repeat' (first | refine h9 _ ?_ | simp only [w_aload, w_iload, w_iconst, w_call, w_if, cI, Int.reduceToNat, w_fall, w_goto, x_p1000_300, x_g1000_300, w_ireturn, w_lconst, w_lstore, w_istore, w_ifc, w_lload, w_lmul, w_iinc, lgB, Nat.reduceSub, w_ishl, x_g1001_300, x_iald, w_ialoads, w_ialoadw, w_i2l, w_isub, w_ladd, w_ldiv, w_l2i, isA_301, isA_302, isA_303, isA_304, isA_305, isA_306, isA_307, isA_308, isA_309, isA_310, isA_311, isA_312, isA_313, isA_314, isA_315, len_301, len_302, len_303, len_304, len_305, len_306, len_307, len_308, len_309, len_310, len_311, len_312, len_313, len_314, len_315, Int.cast_ofNat_Int, a331_0, a331_19, a331_23, a331_24, a331_36, a331_64, a331_88, a331_89, a331_123, a331_134, a331_143, a331_154, R32, List.getElem?_cons_zero, List.getElem?_cons_succ, List.set_cons_zero, List.set_cons_succ, List.cons_append, List.nil_append, List.replicate_succ, List.replicate_zero, List.take_succ_cons, List.take_zero, List.drop_succ_cons, List.drop_zero, List.reverse_cons, List.reverse_nil, List.length_cons, List.length_nil, Option.toList, true_and, and_true, eq_self, ↓reduceIte, not_true_eq_false, not_false_eq_true, true_or, or_true, upS_upS, upS_at, up300, up300b, oR3, fR3, dR3, lgR3, valM3, Int.reduceEq, Nat.reduceEqDiff, and_self, and_true, and_false, false_and, if_true, if_false] | refine q_200 ?_ ?_ ?_ ?_ | refine q_203 (fun q9 => ?_) (fun q9 => ?_) | refine q_204 ?_ | with_reducible refine And.intro ?_ ?_ | with_reducible intro _)
        all_goals (try (first | omega | contradiction | ((try clear hK); (try clear hK0); (try clear hB); (try clear h9); (try clear h8); (try clear h7); (try simp only [oR3, fR3, dR3, lgR3, valM3, up300, up300b] at *); first | omega | (rw [prodZ_s h0, ha]))))
      · intro a ha
        rw [a331_44]
        repeat' (first | refine ha ▸ hL67 _ _ _ _ ?_ | simp only [w_aload, w_iload, w_iconst, w_call, w_if, cI, Int.reduceToNat, w_fall, w_goto, x_p1000_300, x_g1000_300, w_ireturn, w_lconst, w_lstore, w_istore, w_ifc, w_lload, w_lmul, w_iinc, lgB, Nat.reduceSub, w_ishl, x_g1001_300, x_iald, w_ialoads, w_ialoadw, w_i2l, w_isub, w_ladd, w_ldiv, w_l2i, isA_301, isA_302, isA_303, isA_304, isA_305, isA_306, isA_307, isA_308, isA_309, isA_310, isA_311, isA_312, isA_313, isA_314, isA_315, len_301, len_302, len_303, len_304, len_305, len_306, len_307, len_308, len_309, len_310, len_311, len_312, len_313, len_314, len_315, Int.cast_ofNat_Int, a331_0, a331_19, a331_23, a331_24, a331_36, a331_64, a331_88, a331_89, a331_123, a331_134, a331_143, a331_154, R32, List.getElem?_cons_zero, List.getElem?_cons_succ, List.set_cons_zero, List.set_cons_succ, List.cons_append, List.nil_append, List.replicate_succ, List.replicate_zero, List.take_succ_cons, List.take_zero, List.drop_succ_cons, List.drop_zero, List.reverse_cons, List.reverse_nil, List.length_cons, List.length_nil, Option.toList, true_and, and_true, eq_self, ↓reduceIte, not_true_eq_false, not_false_eq_true, true_or, or_true, upS_upS, upS_at, up300, up300b, oR3, fR3, dR3, lgR3, valM3, Int.reduceEq, Nat.reduceEqDiff, and_self, and_true, and_false, false_and, if_true, if_false] | refine q_200 ?_ ?_ ?_ ?_ | refine q_203 (fun q9 => ?_) (fun q9 => ?_) | refine q_204 ?_ | with_reducible refine And.intro ?_ ?_ | with_reducible intro _)
        all_goals (try (first | omega | contradiction | ((try clear hK); (try clear hK0); (try clear hB); (try clear h9); (try clear h8); (try clear h7); (try simp only [oR3, fR3, dR3, lgR3, valM3, up300, up300b] at *); first | omega | rfl)))
    exact hL44 _ rfl
  refine Runs.of (al := [vr 300, vi n, vi k]) (n := 8) ⟨300, _, _, rfl, xo_300⟩ rfl rfl trivial ?_
  repeat' (first | refine hL ?_ ?_ ?_ ?_ | refine hK1 ?_ | simp only [w_aload, w_iload, w_iconst, w_call, w_if, cI, Int.reduceToNat, w_fall, w_goto, x_p1000_300, x_g1000_300, w_ireturn, w_lconst, w_lstore, w_istore, w_ifc, w_lload, w_lmul, w_iinc, lgB, Nat.reduceSub, w_ishl, x_g1001_300, x_iald, w_ialoads, w_ialoadw, w_i2l, w_isub, w_ladd, w_ldiv, w_l2i, isA_301, isA_302, isA_303, isA_304, isA_305, isA_306, isA_307, isA_308, isA_309, isA_310, isA_311, isA_312, isA_313, isA_314, isA_315, len_301, len_302, len_303, len_304, len_305, len_306, len_307, len_308, len_309, len_310, len_311, len_312, len_313, len_314, len_315, Int.cast_ofNat_Int, a331_0, a331_19, a331_23, a331_24, a331_36, a331_64, a331_88, a331_89, a331_123, a331_134, a331_143, a331_154, R32, List.getElem?_cons_zero, List.getElem?_cons_succ, List.set_cons_zero, List.set_cons_succ, List.cons_append, List.nil_append, List.replicate_succ, List.replicate_zero, List.take_succ_cons, List.take_zero, List.drop_succ_cons, List.drop_zero, List.reverse_cons, List.reverse_nil, List.length_cons, List.length_nil, Option.toList, true_and, and_true, eq_self, ↓reduceIte, not_true_eq_false, not_false_eq_true, true_or, or_true, upS_upS, upS_at, up300, up300b, oR3, fR3, dR3, lgR3, valM3, Int.reduceEq, Nat.reduceEqDiff, and_self, and_true, and_false, false_and, if_true, if_false] | refine q_200 ?_ ?_ ?_ ?_ | refine q_203 (fun q9 => ?_) (fun q9 => ?_) | refine q_204 ?_ | with_reducible refine And.intro ?_ ?_ | with_reducible intro _)
  all_goals (try (first | omega | contradiction | ((try clear hK); (try clear hK0); (try clear hB); (try clear h9); (try clear h8); (try clear h7); (try simp only [oR3, fR3, dR3, lgR3, valM3, up300, up300b] at *); first | omega | grind)))
end Ref10
