/-! ===== THE WORLD, what it writes ===== -/
theorem sW0 {w : Nat} {lw : AV} {V : Nat → Nat → Int} {m : AM} : (setW w lw V m).1 w = co 8 (wF w lw V) := setW_W.1
theorem sW1 {w : Nat} {lw : AV} {V : Nat → Nat → Int} {m : AM} : (setW w lw V m).1 (w + 1) = ca 0 6 (V 1) := setW_W.2.1
theorem sW2 {w : Nat} {lw : AV} {V : Nat → Nat → Int} {m : AM} : (setW w lw V m).1 (w + 2) = ca 0 6 (V 2) := setW_W.2.2.1
theorem sW3 {w : Nat} {lw : AV} {V : Nat → Nat → Int} {m : AM} : (setW w lw V m).1 (w + 3) = ca 0 6 (V 3) := setW_W.2.2.2.1
theorem sW4 {w : Nat} {lw : AV} {V : Nat → Nat → Int} {m : AM} : (setW w lw V m).1 (w + 4) = ca 0 6 (V 4) := setW_W.2.2.2.2.1
theorem sW5 {w : Nat} {lw : AV} {V : Nat → Nat → Int} {m : AM} : (setW w lw V m).1 (w + 5) = ca 0 36 (V 5) := setW_W.2.2.2.2.2.1
theorem sW6 {w : Nat} {lw : AV} {V : Nat → Nat → Int} {m : AM} : (setW w lw V m).1 (w + 6) = ca 0 6 (V 6) := setW_W.2.2.2.2.2.2.1
theorem sW7 {w : Nat} {lw : AV} {V : Nat → Nat → Int} {m : AM} : (setW w lw V m).1 (w + 7) = ca 0 36 (V 7) := setW_W.2.2.2.2.2.2.2.1
theorem sW8 {w : Nat} {lw : AV} {V : Nat → Nat → Int} {m : AM} : (setW w lw V m).1 (w + 8) = ca 0 36 (V 8) := setW_W.2.2.2.2.2.2.2.2.1
theorem sW9 {w : Nat} {lw : AV} {V : Nat → Nat → Int} {m : AM} : (setW w lw V m).1 (w + 15) = ca 0 5 (V 9) := setW_W.2.2.2.2.2.2.2.2.2.1
theorem sW10 {w : Nat} {lw : AV} {V : Nat → Nat → Int} {m : AM} : (setW w lw V m).1 (w + 16) = ca 0 10 (V 10) := setW_W.2.2.2.2.2.2.2.2.2.2
theorem k123_0 : pg.1 123 0 = [.bipush 0, .istore 3, .bipush 6, .iload 1, .imul, .istore 4, .jsr 8] := rfl
theorem k123_8 : pg.1 123 8 = [.iload 4, .bipush 6, .iload 1, .imul, .aload 0, .getfield 805, .iload 1, .iaload, .iadd, .if_icmp .ge 73, .aload 0, .getfield 809, .iload 4, .iaload, .ifCond .le 55, .aload 0, .getfield 809, .iload 4, .bipush 9, .aload 0, .getfield 809, .iload 4, .iaload, .iload 2, .iadd, .invokestatic 0, .iastore, .jsr 55] := rfl
theorem k123_55 : pg.1 123 55 = [.iload 3, .aload 0, .getfield 809, .iload 4, .iaload, .invokestatic 1, .istore 3, .iinc 4 1, .goto 8] := rfl
theorem k123_73 : pg.1 123 73 = [.iload 3, .ireturn] := rfl
theorem up_at {α : Type} {f : Nat → α} {k j : Nat} {v : α} : up f k v j = if j = k then v else f j := rfl
/-- a name put on a field: what changes, up to its i-th mark -/
def putS (V : Nat → Nat → Int) (j : Nat) (f dp : Int) (i : Nat) : Nat → Nat → Int := up (up (up V 6 (up (V 6) j f)) 7 (fun p => if 6 * j ≤ p ∧ p < 6 * j + i then V 5 p else V 7 p)) 8 (fun p => if 6 * j ≤ p ∧ p < 6 * j + i then dp else V 8 p)
theorem putS_5 {V : Nat → Nat → Int} {j i : Nat} {f dp : Int} : putS V j f dp i 5 = V 5 := rfl
theorem putS_4 {V : Nat → Nat → Int} {j i : Nat} {f dp : Int} : putS V j f dp i 4 = V 4 := rfl
theorem putS_0 {V : Nat → Nat → Int} {j : Nat} {f dp : Int} : putS V j f dp 0 = up V 6 (up (V 6) j f) := by
  refine funext fun k => ?_
  show (if k = 8 then _ else if k = 7 then _ else if k = 6 then _ else V k) = (if k = 6 then _ else V k)
  split
  · next e => subst e; exact funext fun p => if_neg (by omega)
  · split
    · next e => subst e; exact funext fun p => if_neg (by omega)
    · rfl
theorem putS_s {V : Nat → Nat → Int} {j i : Nat} {f dp : Int} : up (up (putS V j f dp i) 7 (up (putS V j f dp i 7) (6 * j + i) (V 5 (6 * j + i)))) 8 (up (putS V j f dp i 8) (6 * j + i) dp) = putS V j f dp (i + 1) := by
  refine funext fun k => ?_
  by_cases e8 : k = 8
  · subst e8
    refine funext fun p => ?_
    show (if p = 6 * j + i then dp else (if 6 * j ≤ p ∧ p < 6 * j + i then dp else V 8 p)) = (if 6 * j ≤ p ∧ p < 6 * j + (i + 1) then dp else V 8 p)
    by_cases e : p = 6 * j + i
    · rw [if_pos e, if_pos (by omega)]
    · rw [if_neg e]
      by_cases e2 : 6 * j ≤ p ∧ p < 6 * j + i
      · rw [if_pos e2, if_pos (by omega)]
      · rw [if_neg e2, if_neg (by omega)]
  · by_cases e7 : k = 7
    · subst e7
      refine funext fun p => ?_
      show (if p = 6 * j + i then V 5 (6 * j + i) else (if 6 * j ≤ p ∧ p < 6 * j + i then V 5 p else V 7 p)) = (if 6 * j ≤ p ∧ p < 6 * j + (i + 1) then V 5 p else V 7 p)
      by_cases e : p = 6 * j + i
      · rw [if_pos e, if_pos (by omega), e]
      · rw [if_neg e]
        by_cases e2 : 6 * j ≤ p ∧ p < 6 * j + i
        · rw [if_pos e2, if_pos (by omega)]
        · rw [if_neg e2, if_neg (by omega)]
    · unfold putS up
      simp only [e8, e7, if_false]
section World2
variable {tb : Tab} {d : Nat} {m : AM} {K : Out → AM → Prop} {w : Nat} {lw : AV} {V : Nat → Nat → Int}
theorem r_122 {j : Nat} {f dp : Int} (hV : VI V) (hj : j < 6) (hK : K (.inl none) (setW w lw (putS V j f dp (V 4 j).toNat) m)) : Runs tb pg (d + 1) 122 [vr w, vi j, vi f, vi dp] (setW w lw V m) K := by
  obtain ⟨v0, v1, v4, -⟩ := hV
  have q4 := v4 j hj
  have loop : ∀ n i : Nat, (i : Int) + n = V 4 j → At tb d 122 K 13 [vr w, vi j, vi f, vi dp, vi (6 * (j : Int) + (i : Int))] [] (setW w lw (putS V j f dp i) m) := by
    intro n
    induction n with
    | zero =>
      intro i h
      refine At.of k122_13 ?_
      simp only [w_iconst, w_lconst, w_null, w_ldc, w_worth, w_compact, w_sioobe, w_iload, w_lload, w_aload, w_istore, w_fstore, w_lstore, w_astore, w_astorex, w_astoren, w_kill, w_iinc, w_iadd, w_isub, w_imul, w_iand, w_ior, w_ixor, w_ishl, w_ishr, w_iushr, w_ineg, w_idiv, w_irem, w_ladd, w_lsub, w_lmul, w_ldiv, w_i2l, w_l2i, w_i2c, w_lcmp, w_dupi, w_dupr, w_dup2, w_popi, w_popr, w_ialoads, w_ialoadw, w_baloadx, w_alens, w_alenw, w_alenx, w_newi, w_newl, w_newz, w_newa, w_new, w_init, w_sval, w_scod, w_min, w_max, w_getfm, w_putfm, w_putzm, w_putrm, w_ialoadm, w_laloadm, w_baloadm, w_aaloadm, w_iastorem, w_lastorem, w_bastorem, w_aastorem, w_alenm, w_castm, w_clonem, w_goto, w_fall, w_if, w_ifc, w_ifnull, w_ifnulln, w_ifnonnull, w_ifnonnulln, w_switch, w_ireturn, w_zreturn, w_breturn, w_creturn, w_areturn, w_areturnn, w_return, w_throw, w_call, List.getElem?_cons_zero, List.getElem?_cons_succ, List.set_cons_zero, List.set_cons_succ, List.cons_append, List.nil_append, List.replicate_succ, List.replicate_zero, List.take_succ_cons, List.take_zero, List.drop_succ_cons, List.drop_zero, List.reverse_cons, List.reverse_nil, List.length_cons, List.length_nil, Option.toList, Int.reduceToNat, cI, lgB, Nat.reduceSub, Nat.reduceDiv, Nat.reduceMod, true_and, and_true, eq_self, ↓reduceIte, mnew_1, mnew_2, Int.toNat_natCast, mset_mset, wF, Nat.reduceEqDiff, forall_const, sW0, sW1, sW2, sW3, sW4, sW5, sW6, sW7, sW8, sW9, sW10, setW_1, setW_2, setW_3, setW_4, setW_5, setW_6, setW_7, setW_8, setW_9, setW_10, up_at, Nat.reduceEqDiff, reduceCtorEq, putS_4, putS_5]
      refine ⟨⟨by omega, by omega⟩, Or.inr (by omega), fun _ => At.of k122_57 ?_, fun h => by omega⟩
      simp only [w_iconst, w_lconst, w_null, w_ldc, w_worth, w_compact, w_sioobe, w_iload, w_lload, w_aload, w_istore, w_fstore, w_lstore, w_astore, w_astorex, w_astoren, w_kill, w_iinc, w_iadd, w_isub, w_imul, w_iand, w_ior, w_ixor, w_ishl, w_ishr, w_iushr, w_ineg, w_idiv, w_irem, w_ladd, w_lsub, w_lmul, w_ldiv, w_i2l, w_l2i, w_i2c, w_lcmp, w_dupi, w_dupr, w_dup2, w_popi, w_popr, w_ialoads, w_ialoadw, w_baloadx, w_alens, w_alenw, w_alenx, w_newi, w_newl, w_newz, w_newa, w_new, w_init, w_sval, w_scod, w_min, w_max, w_getfm, w_putfm, w_putzm, w_putrm, w_ialoadm, w_laloadm, w_baloadm, w_aaloadm, w_iastorem, w_lastorem, w_bastorem, w_aastorem, w_alenm, w_castm, w_clonem, w_goto, w_fall, w_if, w_ifc, w_ifnull, w_ifnulln, w_ifnonnull, w_ifnonnulln, w_switch, w_ireturn, w_zreturn, w_breturn, w_creturn, w_areturn, w_areturnn, w_return, w_throw, w_call, List.getElem?_cons_zero, List.getElem?_cons_succ, List.set_cons_zero, List.set_cons_succ, List.cons_append, List.nil_append, List.replicate_succ, List.replicate_zero, List.take_succ_cons, List.take_zero, List.drop_succ_cons, List.drop_zero, List.reverse_cons, List.reverse_nil, List.length_cons, List.length_nil, Option.toList, Int.reduceToNat, cI, lgB, Nat.reduceSub, Nat.reduceDiv, Nat.reduceMod, true_and, and_true, eq_self, ↓reduceIte, mnew_1, mnew_2, Int.toNat_natCast, mset_mset, wF, Nat.reduceEqDiff, forall_const, sW0, sW1, sW2, sW3, sW4, sW5, sW6, sW7, sW8, sW9, sW10, setW_1, setW_2, setW_3, setW_4, setW_5, setW_6, setW_7, setW_8, setW_9, setW_10, up_at, Nat.reduceEqDiff, reduceCtorEq]
      rw [show (V 4 j).toNat = i by omega] at hK
      exact hK
    | succ n ih =>
      intro i h
      have ih9 := ih (i + 1) (by omega)
      rw [show 6 * (j : Int) + ((i + 1 : Nat) : Int) = 6 * (j : Int) + (i : Int) + 1 by omega, ← putS_s] at ih9
      refine At.of k122_13 ?_
      have e9 : (6 * (j : Int) + (i : Int)).toNat = 6 * j + i := by omega
      simp only [w_iconst, w_lconst, w_null, w_ldc, w_worth, w_compact, w_sioobe, w_iload, w_lload, w_aload, w_istore, w_fstore, w_lstore, w_astore, w_astorex, w_astoren, w_kill, w_iinc, w_iadd, w_isub, w_imul, w_iand, w_ior, w_ixor, w_ishl, w_ishr, w_iushr, w_ineg, w_idiv, w_irem, w_ladd, w_lsub, w_lmul, w_ldiv, w_i2l, w_l2i, w_i2c, w_lcmp, w_dupi, w_dupr, w_dup2, w_popi, w_popr, w_ialoads, w_ialoadw, w_baloadx, w_alens, w_alenw, w_alenx, w_newi, w_newl, w_newz, w_newa, w_new, w_init, w_sval, w_scod, w_min, w_max, w_getfm, w_putfm, w_putzm, w_putrm, w_ialoadm, w_laloadm, w_baloadm, w_aaloadm, w_iastorem, w_lastorem, w_bastorem, w_aastorem, w_alenm, w_castm, w_clonem, w_goto, w_fall, w_if, w_ifc, w_ifnull, w_ifnulln, w_ifnonnull, w_ifnonnulln, w_switch, w_ireturn, w_zreturn, w_breturn, w_creturn, w_areturn, w_areturnn, w_return, w_throw, w_call, List.getElem?_cons_zero, List.getElem?_cons_succ, List.set_cons_zero, List.set_cons_succ, List.cons_append, List.nil_append, List.replicate_succ, List.replicate_zero, List.take_succ_cons, List.take_zero, List.drop_succ_cons, List.drop_zero, List.reverse_cons, List.reverse_nil, List.length_cons, List.length_nil, Option.toList, Int.reduceToNat, cI, lgB, Nat.reduceSub, Nat.reduceDiv, Nat.reduceMod, true_and, and_true, eq_self, ↓reduceIte, mnew_1, mnew_2, Int.toNat_natCast, mset_mset, wF, Nat.reduceEqDiff, forall_const, sW0, sW1, sW2, sW3, sW4, sW5, sW6, sW7, sW8, sW9, sW10, setW_1, setW_2, setW_3, setW_4, setW_5, setW_6, setW_7, setW_8, setW_9, setW_10, up_at, Nat.reduceEqDiff, reduceCtorEq, putS_4, putS_5, e9]
      refine ⟨⟨by omega, by omega⟩, Or.inl ⟨⟨by omega, by omega⟩, ⟨by omega, by omega⟩⟩, fun h => by omega, fun _ => ?_⟩
      exact ⟨⟨by omega, by omega⟩, ⟨by omega, by omega⟩, ⟨by omega, by omega⟩, ih9⟩
  refine Runs.of (al := [vr w, vi j, vi f, vi dp]) (n := 1) ⟨w, _, _, rfl, sW0⟩ rfl rfl trivial ?_
  refine At.of k122_0 ?_
  simp only [w_iconst, w_lconst, w_null, w_ldc, w_worth, w_compact, w_sioobe, w_iload, w_lload, w_aload, w_istore, w_fstore, w_lstore, w_astore, w_astorex, w_astoren, w_kill, w_iinc, w_iadd, w_isub, w_imul, w_iand, w_ior, w_ixor, w_ishl, w_ishr, w_iushr, w_ineg, w_idiv, w_irem, w_ladd, w_lsub, w_lmul, w_ldiv, w_i2l, w_l2i, w_i2c, w_lcmp, w_dupi, w_dupr, w_dup2, w_popi, w_popr, w_ialoads, w_ialoadw, w_baloadx, w_alens, w_alenw, w_alenx, w_newi, w_newl, w_newz, w_newa, w_new, w_init, w_sval, w_scod, w_min, w_max, w_getfm, w_putfm, w_putzm, w_putrm, w_ialoadm, w_laloadm, w_baloadm, w_aaloadm, w_iastorem, w_lastorem, w_bastorem, w_aastorem, w_alenm, w_castm, w_clonem, w_goto, w_fall, w_if, w_ifc, w_ifnull, w_ifnulln, w_ifnonnull, w_ifnonnulln, w_switch, w_ireturn, w_zreturn, w_breturn, w_creturn, w_areturn, w_areturnn, w_return, w_throw, w_call, List.getElem?_cons_zero, List.getElem?_cons_succ, List.set_cons_zero, List.set_cons_succ, List.cons_append, List.nil_append, List.replicate_succ, List.replicate_zero, List.take_succ_cons, List.take_zero, List.drop_succ_cons, List.drop_zero, List.reverse_cons, List.reverse_nil, List.length_cons, List.length_nil, Option.toList, Int.reduceToNat, cI, lgB, Nat.reduceSub, Nat.reduceDiv, Nat.reduceMod, true_and, and_true, eq_self, ↓reduceIte, mnew_1, mnew_2, Int.toNat_natCast, mset_mset, wF, Nat.reduceEqDiff, forall_const, sW0, sW1, sW2, sW3, sW4, sW5, sW6, sW7, sW8, sW9, sW10, setW_1, setW_2, setW_3, setW_4, setW_5, setW_6, setW_7, setW_8, setW_9, setW_10, up_at, Nat.reduceEqDiff, reduceCtorEq]
  refine ⟨⟨by omega, by omega⟩, ?_⟩
  have h9 := loop (V 4 j).toNat 0 (by omega)
  rw [show 6 * (j : Int) + ((0 : Nat) : Int) = 6 * (j : Int) by omega, putS_0] at h9
  exact h9
/-- a mark trodden deeper by b -/
def tdF (V : Nat → Nat → Int) (b : Int) (p : Nat) : Int := if 0 < V 8 p then (if V 8 p + b < 9 then V 8 p + b else 9) else V 8 p
def tdS (V : Nat → Nat → Int) (j : Nat) (b : Int) (i : Nat) : Nat → Nat → Int := up V 8 (fun p => if 6 * j ≤ p ∧ p < 6 * j + i then tdF V b p else V 8 p)
def tdM (V : Nat → Nat → Int) (j : Nat) (b : Int) : Nat → Int
  | 0 => 0
  | n + 1 => if tdM V j b n < tdF V b (6 * j + n) then tdF V b (6 * j + n) else tdM V j b n
theorem tdF_R (hV : VI V) {b : Int} (hb : 0 ≤ b ∧ b ≤ 1000) {p : Nat} (hp : p < 36) : 0 ≤ tdF V b p ∧ tdF V b p ≤ 2000 := by
  have := hV.2.2.2.2.2.1 p hp
  unfold tdF
  split
  · split <;> omega
  · omega
theorem tdM_R (hV : VI V) {b : Int} (hb : 0 ≤ b ∧ b ≤ 1000) {j : Nat} (hj : j < 6) : ∀ n, n ≤ 6 → 0 ≤ tdM V j b n ∧ tdM V j b n ≤ 2000
  | 0, _ => ⟨by show (0 : Int) ≤ 0; omega, by show (0 : Int) ≤ 2000; omega⟩
  | n + 1, h => by
    have h1 := tdM_R hV hb hj n (by omega)
    have h2 := tdF_R hV hb (p := 6 * j + n) (by omega)
    show 0 ≤ (if tdM V j b n < tdF V b (6 * j + n) then tdF V b (6 * j + n) else tdM V j b n) ∧ (if tdM V j b n < tdF V b (6 * j + n) then tdF V b (6 * j + n) else tdM V j b n) ≤ 2000
    split <;> omega
theorem tdS_4 {j i : Nat} {b : Int} : tdS V j b i 4 = V 4 := rfl
theorem tdS_8 {j i : Nat} {b : Int} : tdS V j b i 8 (6 * j + i) = V 8 (6 * j + i) := if_neg (by omega)
theorem tdS_0 {j : Nat} {b : Int} : tdS V j b 0 = V := by
  refine funext fun k => ?_
  show (if k = 8 then _ else V k) = V k
  split
  · next e => subst e; exact funext fun p => if_neg (by omega)
  · rfl
theorem tdS_s {j i : Nat} {b : Int} {x : Int} (h : x = tdF V b (6 * j + i)) : up (tdS V j b i) 8 (up (tdS V j b i 8) (6 * j + i) x) = tdS V j b (i + 1) := by
  refine funext fun k => ?_
  by_cases e8 : k = 8
  · subst e8
    refine funext fun p => ?_
    show (if p = 6 * j + i then x else (if 6 * j ≤ p ∧ p < 6 * j + i then tdF V b p else V 8 p)) = (if 6 * j ≤ p ∧ p < 6 * j + (i + 1) then tdF V b p else V 8 p)
    by_cases e : p = 6 * j + i
    · rw [if_pos e, if_pos (by omega), e, h]
    · rw [if_neg e]
      by_cases e2 : 6 * j ≤ p ∧ p < 6 * j + i
      · rw [if_pos e2, if_pos (by omega)]
      · rw [if_neg e2, if_neg (by omega)]
  · unfold tdS up
    simp only [e8, if_false]
theorem tdS_n {j i : Nat} {b : Int} (h : ¬ 0 < V 8 (6 * j + i)) : tdS V j b i = tdS V j b (i + 1) := by
  rw [← tdS_s (x := V 8 (6 * j + i)) (if_neg h).symm]
  refine funext fun k => ?_
  by_cases e8 : k = 8
  · subst e8
    refine funext fun p => ?_
    show _ = (if p = 6 * j + i then V 8 (6 * j + i) else tdS V j b i 8 p)
    by_cases e : p = 6 * j + i
    · rw [if_pos e, e, tdS_8]
    · rw [if_neg e]
  · show _ = (if k = 8 then _ else tdS V j b i k)
    rw [if_neg e8]
theorem r_123 {j : Nat} {b : Int} (hV : VI V) (hj : j < 6) (hb : 0 ≤ b ∧ b ≤ 1000) (hK : K (.inl (some (vi (tdM V j b (V 4 j).toNat)))) (setW w lw (tdS V j b (V 4 j).toNat) m)) : Runs tb pg (d + 1) 123 [vr w, vi j, vi b] (setW w lw V m) K := by
  have hV9 := hV
  obtain ⟨v0, v1, v4, v6, v3, v8, -⟩ := hV9
  have q4 := v4 j hj
  have loop : ∀ n i : Nat, (i : Int) + n = V 4 j → At tb d 123 K 8 [vr w, vi j, vi b, vi (tdM V j b i), vi (6 * (j : Int) + (i : Int))] [] (setW w lw (tdS V j b i) m) := by
    intro n
    induction n with
    | zero =>
      intro i h
      refine At.of k123_8 ?_
      simp only [w_iconst, w_lconst, w_null, w_ldc, w_worth, w_compact, w_sioobe, w_iload, w_lload, w_aload, w_istore, w_fstore, w_lstore, w_astore, w_astorex, w_astoren, w_kill, w_iinc, w_iadd, w_isub, w_imul, w_iand, w_ior, w_ixor, w_ishl, w_ishr, w_iushr, w_ineg, w_idiv, w_irem, w_ladd, w_lsub, w_lmul, w_ldiv, w_i2l, w_l2i, w_i2c, w_lcmp, w_dupi, w_dupr, w_dup2, w_popi, w_popr, w_ialoads, w_ialoadw, w_baloadx, w_alens, w_alenw, w_alenx, w_newi, w_newl, w_newz, w_newa, w_new, w_init, w_sval, w_scod, w_min, w_max, w_getfm, w_putfm, w_putzm, w_putrm, w_ialoadm, w_laloadm, w_baloadm, w_aaloadm, w_iastorem, w_lastorem, w_bastorem, w_aastorem, w_alenm, w_castm, w_clonem, w_goto, w_fall, w_if, w_ifc, w_ifnull, w_ifnulln, w_ifnonnull, w_ifnonnulln, w_switch, w_ireturn, w_zreturn, w_breturn, w_creturn, w_areturn, w_areturnn, w_return, w_throw, w_call, List.getElem?_cons_zero, List.getElem?_cons_succ, List.set_cons_zero, List.set_cons_succ, List.cons_append, List.nil_append, List.replicate_succ, List.replicate_zero, List.take_succ_cons, List.take_zero, List.drop_succ_cons, List.drop_zero, List.reverse_cons, List.reverse_nil, List.length_cons, List.length_nil, Option.toList, Int.reduceToNat, cI, lgB, Nat.reduceSub, Nat.reduceDiv, Nat.reduceMod, true_and, and_true, eq_self, ↓reduceIte, mnew_1, mnew_2, Int.toNat_natCast, mset_mset, wF, Nat.reduceEqDiff, forall_const, sW0, sW1, sW2, sW3, sW4, sW5, sW6, sW7, sW8, sW9, sW10, setW_1, setW_2, setW_3, setW_4, setW_5, setW_6, setW_7, setW_8, setW_9, setW_10, up_at, Nat.reduceEqDiff, reduceCtorEq, tdS_4]
      refine ⟨⟨by omega, by omega⟩, Or.inr (by omega), fun _ => At.of k123_73 ?_, fun h => by omega⟩
      simp only [w_iconst, w_lconst, w_null, w_ldc, w_worth, w_compact, w_sioobe, w_iload, w_lload, w_aload, w_istore, w_fstore, w_lstore, w_astore, w_astorex, w_astoren, w_kill, w_iinc, w_iadd, w_isub, w_imul, w_iand, w_ior, w_ixor, w_ishl, w_ishr, w_iushr, w_ineg, w_idiv, w_irem, w_ladd, w_lsub, w_lmul, w_ldiv, w_i2l, w_l2i, w_i2c, w_lcmp, w_dupi, w_dupr, w_dup2, w_popi, w_popr, w_ialoads, w_ialoadw, w_baloadx, w_alens, w_alenw, w_alenx, w_newi, w_newl, w_newz, w_newa, w_new, w_init, w_sval, w_scod, w_min, w_max, w_getfm, w_putfm, w_putzm, w_putrm, w_ialoadm, w_laloadm, w_baloadm, w_aaloadm, w_iastorem, w_lastorem, w_bastorem, w_aastorem, w_alenm, w_castm, w_clonem, w_goto, w_fall, w_if, w_ifc, w_ifnull, w_ifnulln, w_ifnonnull, w_ifnonnulln, w_switch, w_ireturn, w_zreturn, w_breturn, w_creturn, w_areturn, w_areturnn, w_return, w_throw, w_call, List.getElem?_cons_zero, List.getElem?_cons_succ, List.set_cons_zero, List.set_cons_succ, List.cons_append, List.nil_append, List.replicate_succ, List.replicate_zero, List.take_succ_cons, List.take_zero, List.drop_succ_cons, List.drop_zero, List.reverse_cons, List.reverse_nil, List.length_cons, List.length_nil, Option.toList, Int.reduceToNat, cI, lgB, Nat.reduceSub, Nat.reduceDiv, Nat.reduceMod, true_and, and_true, eq_self, ↓reduceIte, mnew_1, mnew_2, Int.toNat_natCast, mset_mset, wF, Nat.reduceEqDiff, forall_const, sW0, sW1, sW2, sW3, sW4, sW5, sW6, sW7, sW8, sW9, sW10, setW_1, setW_2, setW_3, setW_4, setW_5, setW_6, setW_7, setW_8, setW_9, setW_10, up_at, Nat.reduceEqDiff, reduceCtorEq]
      rw [show (V 4 j).toNat = i by omega] at hK
      exact hK
    | succ n ih =>
      intro i h
      have ih9 := ih (i + 1) (by omega)
      rw [show 6 * (j : Int) + ((i + 1 : Nat) : Int) = 6 * (j : Int) + (i : Int) + 1 by omega] at ih9
      have e9 : (6 * (j : Int) + (i : Int)).toNat = 6 * j + i := by omega
      have q8 := v8 (6 * j + i) (by omega)
      have qF := tdF_R hV hb (p := 6 * j + i) (by omega)
      have qM := tdM_R hV hb hj i (by omega)
      have back : At tb d 123 K 55 [vr w, vi j, vi b, vi (tdM V j b i), vi (6 * (j : Int) + (i : Int))] [] (setW w lw (tdS V j b (i + 1)) m) := by
        refine At.of k123_55 ?_
        have e8 : tdS V j b (i + 1) 8 (6 * j + i) = tdF V b (6 * j + i) := if_pos (by omega)
        simp only [w_iconst, w_lconst, w_null, w_ldc, w_worth, w_compact, w_sioobe, w_iload, w_lload, w_aload, w_istore, w_fstore, w_lstore, w_astore, w_astorex, w_astoren, w_kill, w_iinc, w_iadd, w_isub, w_imul, w_iand, w_ior, w_ixor, w_ishl, w_ishr, w_iushr, w_ineg, w_idiv, w_irem, w_ladd, w_lsub, w_lmul, w_ldiv, w_i2l, w_l2i, w_i2c, w_lcmp, w_dupi, w_dupr, w_dup2, w_popi, w_popr, w_ialoads, w_ialoadw, w_baloadx, w_alens, w_alenw, w_alenx, w_newi, w_newl, w_newz, w_newa, w_new, w_init, w_sval, w_scod, w_min, w_max, w_getfm, w_putfm, w_putzm, w_putrm, w_ialoadm, w_laloadm, w_baloadm, w_aaloadm, w_iastorem, w_lastorem, w_bastorem, w_aastorem, w_alenm, w_castm, w_clonem, w_goto, w_fall, w_if, w_ifc, w_ifnull, w_ifnulln, w_ifnonnull, w_ifnonnulln, w_switch, w_ireturn, w_zreturn, w_breturn, w_creturn, w_areturn, w_areturnn, w_return, w_throw, w_call, List.getElem?_cons_zero, List.getElem?_cons_succ, List.set_cons_zero, List.set_cons_succ, List.cons_append, List.nil_append, List.replicate_succ, List.replicate_zero, List.take_succ_cons, List.take_zero, List.drop_succ_cons, List.drop_zero, List.reverse_cons, List.reverse_nil, List.length_cons, List.length_nil, Option.toList, Int.reduceToNat, cI, lgB, Nat.reduceSub, Nat.reduceDiv, Nat.reduceMod, true_and, and_true, eq_self, ↓reduceIte, mnew_1, mnew_2, Int.toNat_natCast, mset_mset, wF, Nat.reduceEqDiff, forall_const, sW0, sW1, sW2, sW3, sW4, sW5, sW6, sW7, sW8, sW9, sW10, setW_1, setW_2, setW_3, setW_4, setW_5, setW_6, setW_7, setW_8, setW_9, setW_10, up_at, Nat.reduceEqDiff, reduceCtorEq, tdS_4, e9, e8]
        exact ⟨⟨by omega, by omega⟩, ⟨by decide, ⟨by omega, by omega⟩, ⟨by omega, by omega⟩⟩, ih9⟩
      refine At.of k123_8 ?_
      simp only [w_iconst, w_lconst, w_null, w_ldc, w_worth, w_compact, w_sioobe, w_iload, w_lload, w_aload, w_istore, w_fstore, w_lstore, w_astore, w_astorex, w_astoren, w_kill, w_iinc, w_iadd, w_isub, w_imul, w_iand, w_ior, w_ixor, w_ishl, w_ishr, w_iushr, w_ineg, w_idiv, w_irem, w_ladd, w_lsub, w_lmul, w_ldiv, w_i2l, w_l2i, w_i2c, w_lcmp, w_dupi, w_dupr, w_dup2, w_popi, w_popr, w_ialoads, w_ialoadw, w_baloadx, w_alens, w_alenw, w_alenx, w_newi, w_newl, w_newz, w_newa, w_new, w_init, w_sval, w_scod, w_min, w_max, w_getfm, w_putfm, w_putzm, w_putrm, w_ialoadm, w_laloadm, w_baloadm, w_aaloadm, w_iastorem, w_lastorem, w_bastorem, w_aastorem, w_alenm, w_castm, w_clonem, w_goto, w_fall, w_if, w_ifc, w_ifnull, w_ifnulln, w_ifnonnull, w_ifnonnulln, w_switch, w_ireturn, w_zreturn, w_breturn, w_creturn, w_areturn, w_areturnn, w_return, w_throw, w_call, List.getElem?_cons_zero, List.getElem?_cons_succ, List.set_cons_zero, List.set_cons_succ, List.cons_append, List.nil_append, List.replicate_succ, List.replicate_zero, List.take_succ_cons, List.take_zero, List.drop_succ_cons, List.drop_zero, List.reverse_cons, List.reverse_nil, List.length_cons, List.length_nil, Option.toList, Int.reduceToNat, cI, lgB, Nat.reduceSub, Nat.reduceDiv, Nat.reduceMod, true_and, and_true, eq_self, ↓reduceIte, mnew_1, mnew_2, Int.toNat_natCast, mset_mset, wF, Nat.reduceEqDiff, forall_const, sW0, sW1, sW2, sW3, sW4, sW5, sW6, sW7, sW8, sW9, sW10, setW_1, setW_2, setW_3, setW_4, setW_5, setW_6, setW_7, setW_8, setW_9, setW_10, up_at, Nat.reduceEqDiff, reduceCtorEq, tdS_4, e9, tdS_8]
      refine ⟨⟨by omega, by omega⟩, Or.inl ⟨⟨by omega, by omega⟩, ⟨by omega, by omega⟩⟩, fun h => by omega, fun _ => ⟨⟨by omega, by omega⟩, ⟨by omega, by omega⟩, fun e => ?_, fun e => ?_⟩⟩
      · rw [tdS_n (by omega)]
        exact back
      · refine ⟨⟨by omega, by omega⟩, ⟨by decide, ⟨by decide, by decide⟩, ⟨by omega, by omega⟩⟩, ⟨by omega, by omega⟩, ?_⟩
        rw [tdS_s (x := if V 8 (6 * j + i) + b < 9 then V 8 (6 * j + i) + b else 9) (if_pos (show 0 < V 8 (6 * j + i) by omega)).symm]
        exact back
  refine Runs.of (al := [vr w, vi j, vi b]) (n := 2) ⟨w, _, _, rfl, sW0⟩ rfl rfl trivial ?_
  refine At.of k123_0 ?_
  simp only [w_iconst, w_lconst, w_null, w_ldc, w_worth, w_compact, w_sioobe, w_iload, w_lload, w_aload, w_istore, w_fstore, w_lstore, w_astore, w_astorex, w_astoren, w_kill, w_iinc, w_iadd, w_isub, w_imul, w_iand, w_ior, w_ixor, w_ishl, w_ishr, w_iushr, w_ineg, w_idiv, w_irem, w_ladd, w_lsub, w_lmul, w_ldiv, w_i2l, w_l2i, w_i2c, w_lcmp, w_dupi, w_dupr, w_dup2, w_popi, w_popr, w_ialoads, w_ialoadw, w_baloadx, w_alens, w_alenw, w_alenx, w_newi, w_newl, w_newz, w_newa, w_new, w_init, w_sval, w_scod, w_min, w_max, w_getfm, w_putfm, w_putzm, w_putrm, w_ialoadm, w_laloadm, w_baloadm, w_aaloadm, w_iastorem, w_lastorem, w_bastorem, w_aastorem, w_alenm, w_castm, w_clonem, w_goto, w_fall, w_if, w_ifc, w_ifnull, w_ifnulln, w_ifnonnull, w_ifnonnulln, w_switch, w_ireturn, w_zreturn, w_breturn, w_creturn, w_areturn, w_areturnn, w_return, w_throw, w_call, List.getElem?_cons_zero, List.getElem?_cons_succ, List.set_cons_zero, List.set_cons_succ, List.cons_append, List.nil_append, List.replicate_succ, List.replicate_zero, List.take_succ_cons, List.take_zero, List.drop_succ_cons, List.drop_zero, List.reverse_cons, List.reverse_nil, List.length_cons, List.length_nil, Option.toList, Int.reduceToNat, cI, lgB, Nat.reduceSub, Nat.reduceDiv, Nat.reduceMod, true_and, and_true, eq_self, ↓reduceIte, mnew_1, mnew_2, Int.toNat_natCast, mset_mset, wF, Nat.reduceEqDiff, forall_const, sW0, sW1, sW2, sW3, sW4, sW5, sW6, sW7, sW8, sW9, sW10, setW_1, setW_2, setW_3, setW_4, setW_5, setW_6, setW_7, setW_8, setW_9, setW_10, up_at, Nat.reduceEqDiff, reduceCtorEq]
  have h9 := loop (V 4 j).toNat 0 (by omega)
  rw [show 6 * (j : Int) + ((0 : Nat) : Int) = 6 * (j : Int) by omega, tdS_0] at h9
  exact h9
end World2
