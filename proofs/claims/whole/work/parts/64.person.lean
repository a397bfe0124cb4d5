/-! ===== THE REFERENCE: person ===== -/
/-- what is owed is 1 to 99 -/
def DS (r : Int → Int) : Prop := ∀ k, 0 ≤ k → k < r 5 → 1 ≤ dr r k 2 ∧ dr r k 2 ≤ 99
/-- what person tells -/
def perM (ev : LawD → Int → (Int → Int) → Int) (S : Nat → Int → Int) (p w v : Int) : Prop := (w < 2 → (v = oR S p w)) ∧ (w = 2 → (v = leftM (oR S) p (oR S p 0))) ∧ (w = 3 → (yn v (wholeM (oR S) p (oR S p 0)))) ∧ (w = 4 → (((readsM (oR S) p p (oR S p 0) ∧ v = p) ∨ (¬ readsM (oR S) p p (oR S p 0) ∧ isFst (fun o => readsM (oR S) p o (oR S o 0)) (S 301 4) v)))) ∧ (w = 5 → (∃ n, isLst ev (S 301) p n ∧ v = (if 60 < n then -1 else n))) ∧ (w = 6 → (isMinP (fun f => 0 < fr (S 301) f 1) (fun f => - lstV ev (wrtR ev (S 301) p f) p) (S 301 3) v)) ∧ (w = 7 → (v = owesM (dR S) (S 301 5) p)) ∧ (w = 8 → sumZ (S 301 5) (fun k => dR S k 2) = 0 → v = 0) ∧ (w = 8 → sumZ (S 301 5) (fun k => dR S k 2) ≠ 0 → v = 100 * owedByM (dR S) (S 301 5) p / sumZ (S 301 5) (fun k => dR S k 2))
section perM
variable {ev : LawD → Int → (Int → Int) → Int} {S : Nat → Int → Int} {p w v : Int}
theorem perM_0 (h : w < 2) (g : v = oR S p w) : perM ev S p w v := ⟨fun _ => g, fun z => absurd z (by omega), fun z => absurd z (by omega), fun z => absurd z (by omega), fun z => absurd z (by omega), fun z => absurd z (by omega), fun z => absurd z (by omega), fun z => absurd z (by omega), fun z => absurd z (by omega)⟩
theorem perM_2 (h : w = 2) (g : v = leftM (oR S) p (oR S p 0)) : perM ev S p w v := ⟨fun z => absurd z (by omega), fun _ => g, fun z => absurd z (by omega), fun z => absurd z (by omega), fun z => absurd z (by omega), fun z => absurd z (by omega), fun z => absurd z (by omega), fun z => absurd z (by omega), fun z => absurd z (by omega)⟩
theorem perM_3 (h : w = 3) (g : yn v (wholeM (oR S) p (oR S p 0))) : perM ev S p w v := ⟨fun z => absurd z (by omega), fun z => absurd z (by omega), fun _ => g, fun z => absurd z (by omega), fun z => absurd z (by omega), fun z => absurd z (by omega), fun z => absurd z (by omega), fun z => absurd z (by omega), fun z => absurd z (by omega)⟩
theorem perM_4 (h : w = 4) (g : ((readsM (oR S) p p (oR S p 0) ∧ v = p) ∨ (¬ readsM (oR S) p p (oR S p 0) ∧ isFst (fun o => readsM (oR S) p o (oR S o 0)) (S 301 4) v))) : perM ev S p w v := ⟨fun z => absurd z (by omega), fun z => absurd z (by omega), fun z => absurd z (by omega), fun _ => g, fun z => absurd z (by omega), fun z => absurd z (by omega), fun z => absurd z (by omega), fun z => absurd z (by omega), fun z => absurd z (by omega)⟩
theorem perM_5 (h : w = 5) (g : ∃ n, isLst ev (S 301) p n ∧ v = (if 60 < n then -1 else n)) : perM ev S p w v := ⟨fun z => absurd z (by omega), fun z => absurd z (by omega), fun z => absurd z (by omega), fun z => absurd z (by omega), fun _ => g, fun z => absurd z (by omega), fun z => absurd z (by omega), fun z => absurd z (by omega), fun z => absurd z (by omega)⟩
theorem perM_6 (h : w = 6) (g : isMinP (fun f => 0 < fr (S 301) f 1) (fun f => - lstV ev (wrtR ev (S 301) p f) p) (S 301 3) v) : perM ev S p w v := ⟨fun z => absurd z (by omega), fun z => absurd z (by omega), fun z => absurd z (by omega), fun z => absurd z (by omega), fun z => absurd z (by omega), fun _ => g, fun z => absurd z (by omega), fun z => absurd z (by omega), fun z => absurd z (by omega)⟩
theorem perM_7 (h : w = 7) (g : v = owesM (dR S) (S 301 5) p) : perM ev S p w v := ⟨fun z => absurd z (by omega), fun z => absurd z (by omega), fun z => absurd z (by omega), fun z => absurd z (by omega), fun z => absurd z (by omega), fun z => absurd z (by omega), fun _ => g, fun z => absurd z (by omega), fun z => absurd z (by omega)⟩
theorem perM_80 (h : w = 8) (g : sumZ (S 301 5) (fun k => dR S k 2) = 0) : perM ev S p w 0 := ⟨fun z => absurd z (by omega), fun z => absurd z (by omega), fun z => absurd z (by omega), fun z => absurd z (by omega), fun z => absurd z (by omega), fun z => absurd z (by omega), fun z => absurd z (by omega), fun _ _ => rfl, fun _ z => absurd g z⟩
theorem perM_8 (h : w = 8) (g : sumZ (S 301 5) (fun k => dR S k 2) ≠ 0) (e : v = 100 * owedByM (dR S) (S 301 5) p / sumZ (S 301 5) (fun k => dR S k 2)) : perM ev S p w v := ⟨fun z => absurd z (by omega), fun z => absurd z (by omega), fun z => absurd z (by omega), fun z => absurd z (by omega), fun z => absurd z (by omega), fun z => absurd z (by omega), fun z => absurd z (by omega), fun _ z => absurd z g, fun _ _ => e⟩
end perM
section Ref37
variable {tb : Tab} {d : Nat} {m : AM} {K : Out → AM → Prop} {S : Nat → Int → Int} {ev : LawD → Int → (Int → Int) → Int} {good : LawD → Prop}
theorem q_210s {v : Int} (hB : BR S) (hv : R32 v) (hY : (0 ≤ v ∧ v < S 301 4) → K (.inl (some (vi 1))) (X S m)) (hN : ¬ (0 ≤ v ∧ v < S 301 4) → K (.inl (some (vi 0))) (X S m)) : Runs tb pg (d + 2) 210 [vr 300, vi v] (X S m) K := q_210 hB hv (fun r e => by
  by_cases z : 0 ≤ v ∧ v < S 301 4
  · rw [if_pos z] at e; subst e; exact hY z
  · rw [if_neg z] at e; subst e; exact hN z)
theorem q_200s {v a b : Int} (hv : R32 v) (ha : R32 a) (hb : R32 b) (hY : (a ≤ v ∧ v ≤ b) → K (.inl (some (vi 1))) m) (hN : ¬ (a ≤ v ∧ v ≤ b) → K (.inl (some (vi 0))) m) : Runs tb pg (d + 1) 200 [vi v, vi a, vi b] m K := q_200 hv ha hb (fun r e => by
  by_cases z : a ≤ v ∧ v ≤ b
  · rw [if_pos z] at e; subst e; exact hY z
  · rw [if_neg z] at e; subst e; exact hN z)
theorem q_214s {p : Int} (hB : BR S) (hp : 0 ≤ p ∧ p < 6) (hY : wholeM (oR S) p (oR S p 0) → K (.inl (some (vi 1))) (X S m)) (hN : ¬ wholeM (oR S) p (oR S p 0) → K (.inl (some (vi 0))) (X S m)) : Runs tb pg (d + 3) 214 [vr 300, vi p] (X S m) K := q_214 hB hp (fun r e => by
  rcases e with ⟨e1, e2⟩ | ⟨e1, e2⟩
  · subst e1; exact hY e2
  · subst e1; exact hN e2)
theorem k277_0 : pg.1 277 0 = [.aload 0, .aload 0, .iload 1, .invokeinterface 210 2, .ifCond .ne 13, .bipush 1, .goto 28] := rfl
theorem a277_0 {tb : Tab} {d : Nat} {K : Out → AM → Prop} {ls st : List AV} {m : AM} : At tb d 277 K 0 ls st m = wpB tb (pg.2.1 277) (Runs tb pg d) K (At tb d 277 K) [.aload 0, .aload 0, .iload 1, .invokeinterface 210 2, .ifCond .ne 13, .bipush 1, .goto 28] ls st m := At.eq k277_0
theorem k277_13 : pg.1 277 13 = [.iload 2, .bipush 0, .bipush 8, .invokeinterface 200 3, .ifCond .ne 27, .bipush 2, .goto 28] := rfl
theorem a277_13 {tb : Tab} {d : Nat} {K : Out → AM → Prop} {ls st : List AV} {m : AM} : At tb d 277 K 13 ls st m = wpB tb (pg.2.1 277) (Runs tb pg d) K (At tb d 277 K) [.iload 2, .bipush 0, .bipush 8, .invokeinterface 200 3, .ifCond .ne 27, .bipush 2, .goto 28] ls st m := At.eq k277_13
theorem k277_27 : pg.1 277 27 = [.bipush 0, .jsr 28] := rfl
theorem a277_27 {tb : Tab} {d : Nat} {K : Out → AM → Prop} {ls st : List AV} {m : AM} : At tb d 277 K 27 ls st m = wpB tb (pg.2.1 277) (Runs tb pg d) K (At tb d 277 K) [.bipush 0, .jsr 28] ls st m := At.eq k277_27
theorem k277_28 : pg.1 277 28 = [.putfield 1000, .aload 0, .getfield 1000, .ifCond .le 40, .bipush 0, .ireturn] := rfl
theorem a277_28 {tb : Tab} {d : Nat} {K : Out → AM → Prop} {ls st : List AV} {m : AM} : At tb d 277 K 28 ls st m = wpB tb (pg.2.1 277) (Runs tb pg d) K (At tb d 277 K) [.putfield 1000, .aload 0, .getfield 1000, .ifCond .le 40, .bipush 0, .ireturn] ls st m := At.eq k277_28
theorem k277_40 : pg.1 277 40 = [.iload 2, .bipush 2, .if_icmp .ge 52, .aload 0, .iload 1, .iload 2, .invokeinterface 206 3, .ireturn] := rfl
theorem a277_40 {tb : Tab} {d : Nat} {K : Out → AM → Prop} {ls st : List AV} {m : AM} : At tb d 277 K 40 ls st m = wpB tb (pg.2.1 277) (Runs tb pg d) K (At tb d 277 K) [.iload 2, .bipush 2, .if_icmp .ge 52, .aload 0, .iload 1, .iload 2, .invokeinterface 206 3, .ireturn] ls st m := At.eq k277_40
theorem k277_52 : pg.1 277 52 = [.iload 2, .bipush 2, .if_icmp .ne 63, .aload 0, .iload 1, .invokeinterface 213 2, .ireturn] := rfl
theorem a277_52 {tb : Tab} {d : Nat} {K : Out → AM → Prop} {ls st : List AV} {m : AM} : At tb d 277 K 52 ls st m = wpB tb (pg.2.1 277) (Runs tb pg d) K (At tb d 277 K) [.iload 2, .bipush 2, .if_icmp .ne 63, .aload 0, .iload 1, .invokeinterface 213 2, .ireturn] ls st m := At.eq k277_52
theorem k277_63 : pg.1 277 63 = [.iload 2, .bipush 3, .if_icmp .ne 82, .aload 0, .iload 1, .invokeinterface 214 2, .ifCond .eq 80, .bipush 1, .goto 81] := rfl
theorem a277_63 {tb : Tab} {d : Nat} {K : Out → AM → Prop} {ls st : List AV} {m : AM} : At tb d 277 K 63 ls st m = wpB tb (pg.2.1 277) (Runs tb pg d) K (At tb d 277 K) [.iload 2, .bipush 3, .if_icmp .ne 82, .aload 0, .iload 1, .invokeinterface 214 2, .ifCond .eq 80, .bipush 1, .goto 81] ls st m := At.eq k277_63
theorem k277_80 : pg.1 277 80 = [.bipush 0, .jsr 81] := rfl
theorem a277_80 {tb : Tab} {d : Nat} {K : Out → AM → Prop} {ls st : List AV} {m : AM} : At tb d 277 K 80 ls st m = wpB tb (pg.2.1 277) (Runs tb pg d) K (At tb d 277 K) [.bipush 0, .jsr 81] ls st m := At.eq k277_80
theorem k277_81 : pg.1 277 81 = [.ireturn] := rfl
theorem a277_81 {tb : Tab} {d : Nat} {K : Out → AM → Prop} {ls st : List AV} {m : AM} : At tb d 277 K 81 ls st m = wpB tb (pg.2.1 277) (Runs tb pg d) K (At tb d 277 K) [.ireturn] ls st m := At.eq k277_81
theorem k277_82 : pg.1 277 82 = [.iload 2, .bipush 4, .if_icmp .ne 93, .aload 0, .iload 1, .invokeinterface 271 2, .ireturn] := rfl
theorem a277_82 {tb : Tab} {d : Nat} {K : Out → AM → Prop} {ls st : List AV} {m : AM} : At tb d 277 K 82 ls st m = wpB tb (pg.2.1 277) (Runs tb pg d) K (At tb d 277 K) [.iload 2, .bipush 4, .if_icmp .ne 93, .aload 0, .iload 1, .invokeinterface 271 2, .ireturn] ls st m := At.eq k277_82
theorem k277_93 : pg.1 277 93 = [.iload 2, .bipush 5, .if_icmp .ne 104, .aload 0, .iload 1, .invokeinterface 273 2, .ireturn] := rfl
theorem a277_93 {tb : Tab} {d : Nat} {K : Out → AM → Prop} {ls st : List AV} {m : AM} : At tb d 277 K 93 ls st m = wpB tb (pg.2.1 277) (Runs tb pg d) K (At tb d 277 K) [.iload 2, .bipush 5, .if_icmp .ne 104, .aload 0, .iload 1, .invokeinterface 273 2, .ireturn] ls st m := At.eq k277_93
theorem k277_104 : pg.1 277 104 = [.iload 2, .bipush 6, .if_icmp .ne 116, .aload 0, .iload 1, .invokeinterface 274 2, .ireturn] := rfl
theorem a277_104 {tb : Tab} {d : Nat} {K : Out → AM → Prop} {ls st : List AV} {m : AM} : At tb d 277 K 104 ls st m = wpB tb (pg.2.1 277) (Runs tb pg d) K (At tb d 277 K) [.iload 2, .bipush 6, .if_icmp .ne 116, .aload 0, .iload 1, .invokeinterface 274 2, .ireturn] ls st m := At.eq k277_104
theorem k277_116 : pg.1 277 116 = [.iload 2, .bipush 7, .if_icmp .ne 128, .aload 0, .iload 1, .invokeinterface 276 2, .ireturn] := rfl
theorem a277_116 {tb : Tab} {d : Nat} {K : Out → AM → Prop} {ls st : List AV} {m : AM} : At tb d 277 K 116 ls st m = wpB tb (pg.2.1 277) (Runs tb pg d) K (At tb d 277 K) [.iload 2, .bipush 7, .if_icmp .ne 128, .aload 0, .iload 1, .invokeinterface 276 2, .ireturn] ls st m := At.eq k277_116
theorem k277_128 : pg.1 277 128 = [.aload 0, .invokeinterface 275 1, .ifCond .ne 139, .bipush 0, .goto 152] := rfl
theorem a277_128 {tb : Tab} {d : Nat} {K : Out → AM → Prop} {ls st : List AV} {m : AM} : At tb d 277 K 128 ls st m = wpB tb (pg.2.1 277) (Runs tb pg d) K (At tb d 277 K) [.aload 0, .invokeinterface 275 1, .ifCond .ne 139, .bipush 0, .goto 152] ls st m := At.eq k277_128
theorem k277_139 : pg.1 277 139 = [.bipush 100, .aload 0, .iload 1, .invokeinterface 215 2, .imul, .aload 0, .invokeinterface 275 1, .idiv, .jsr 152] := rfl
theorem a277_139 {tb : Tab} {d : Nat} {K : Out → AM → Prop} {ls st : List AV} {m : AM} : At tb d 277 K 139 ls st m = wpB tb (pg.2.1 277) (Runs tb pg d) K (At tb d 277 K) [.bipush 100, .aload 0, .iload 1, .invokeinterface 215 2, .imul, .aload 0, .invokeinterface 275 1, .idiv, .jsr 152] ls st m := At.eq k277_139
theorem k277_152 : pg.1 277 152 = [.ireturn] := rfl
theorem a277_152 {tb : Tab} {d : Nat} {K : Out → AM → Prop} {ls st : List AV} {m : AM} : At tb d 277 K 152 ls st m = wpB tb (pg.2.1 277) (Runs tb pg d) K (At tb d 277 K) [.ireturn] ls st m := At.eq k277_152
theorem q_277 {p w : Int} (hM : AskM tb ev good) (hD : AskD tb ev good) (hE : EvD ev good) (hA : AB (S 301)) (hG : good (lawD (S 301))) (hS : DS (S 301)) (hp : R32 p) (hw : R32 w) (hK1 : ¬ (0 ≤ p ∧ p < S 301 4) → K (.inl (some (vi 0))) (X (upS S 300 0 1) m)) (hK2 : (0 ≤ p ∧ p < S 301 4) → ¬ (0 ≤ w ∧ w ≤ 8) → K (.inl (some (vi 0))) (X (upS S 300 0 2) m)) (hK : ∀ T v, (0 ≤ p ∧ p < S 301 4) → (0 ≤ w ∧ w ≤ 8) → perM ev S p w v → SQ (upS S 300 0 0) T → K (.inl (some (vi v))) (X T m)) : Runs tb pg (d + 65) 277 [vr 300, vi p, vi w] (X S m) K := by
  have hB : BR S := AB_B hA
  unfold R32 at hp hw
  have b4 := hA.2.1.2.1
  have b5 := hA.2.1.2.2.1
  have hs1 := sumZ_le (n := S 301 5) (a := 1) (b := 99) (f := fun k => dR S k 2) b5.1 (fun k k0 k1 => hS k k0 k1)
  have hs2 : 0 ≤ owedByM (dR S) (S 301 5) p ∧ owedByM (dR S) (S 301 5) p ≤ 99 * S 301 5 := by
    have := sumZ_le (n := S 301 5) (a := 0) (b := 99) (f := fun k => if dR S k 0 = p then dR S k 2 else 0) b5.1 (fun k k0 k1 => by have := hS k k0 k1; show 0 ≤ (if dR S k 0 = p then dr (S 301) k 2 else 0) ∧ (if dR S k 0 = p then dr (S 301) k 2 else 0) ≤ 99; split <;> omega)
    unfold owedByM
    omega
  obtain ⟨U, hU⟩ : ∃ U, U = upS S 300 0 0 := ⟨_, rfl⟩
  have uM : U 301 = S 301 := by rw [hU]; rfl
  have uo : oR U = oR S := by unfold oR; rw [uM]
  have ud : dR U = dR S := by unfold dR; rw [uM]
  have hBU : BR U := by rw [hU]; exact hB
  have hAU : AB (U 301) := by rw [uM]; exact hA
  have hGU : good (lawD (U 301)) := by rw [uM]; exact hG
  have hk : ∀ T v, (0 ≤ p ∧ p < S 301 4) → (0 ≤ w ∧ w ≤ 8) → perM ev S p w v → SQ U T → K (.inl (some (vi v))) (X T m) := by rw [hU]; exact hK
  clear hK
  obtain ⟨s9, h9⟩ : ∃ s9, s9 = sumZ (S 301 5) (fun k => dR S k 2) := ⟨_, rfl⟩
  obtain ⟨o9, h8⟩ : ∃ o9, o9 = owedByM (dR S) (S 301 5) p := ⟨_, rfl⟩
  rw [← h9] at hs1
  rw [← h8] at hs2
  have hs3 : ∀ r, r = sumZ (U 301 5) (fun k => dR U k 2) → r = s9 := by
    intro r e
    rw [h9, e, uM, ud]
  have hs4 : ∀ r, r = owedByM (dR U) (U 301 5) p → r = o9 := by
    intro r e
    rw [h8, e, uM, ud]
  clear hS
  have u0 : U 300 0 = 0 := by rw [hU, upS_at]; rfl
  have h40 : (0 ≤ p ∧ p < S 301 4) → (0 ≤ w ∧ w ≤ 8) → At tb (d + 64) 277 K 40 [vr 300, vi p, vi w] [] (X U m) := by
    intro hp9 hw9
    rw [a277_40]
    repeat' (first | refine hk _ _ hp9 hw9 ?_ (SQ_of SR_refl) | refine hk _ _ hp9 hw9 ?_ e1 | simp only [w_aload, w_iload, w_call, w_if, cI, Int.reduceToNat, w_iconst, w_goto, w_fall, x_p1000_300, x_g1000_300, w_ireturn, w_ifc, w_imul, w_idiv, a277_0, a277_13, a277_27, a277_28, a277_52, a277_63, a277_80, a277_81, a277_82, a277_93, a277_104, a277_116, a277_128, a277_139, a277_152, R32, List.getElem?_cons_zero, List.getElem?_cons_succ, List.set_cons_zero, List.set_cons_succ, List.cons_append, List.nil_append, List.replicate_succ, List.replicate_zero, List.take_succ_cons, List.take_zero, List.drop_succ_cons, List.drop_zero, List.reverse_cons, List.reverse_nil, List.length_cons, List.length_nil, Option.toList, true_and, and_true, eq_self, ↓reduceIte, not_true_eq_false, not_false_eq_true, true_or, or_true, upS_upS, upS_at, up300, up300b, oR3, fR3, dR3, lgR3, valM3, Int.reduceEq, Nat.reduceEqDiff, and_self, and_true, and_false, false_and, if_true, if_false] | refine q_206 (S := U) hBU ?_ ?_ (fun _ _ => ?_) | refine q_213 (S := U) hBU ?_ (fun _ _ => ?_) | refine q_214s (S := U) hBU ?_ (fun e7 => ?_) (fun e7 => ?_) | refine q_210s hB ?_ (fun _ => ?_) (fun _ => ?_) | refine q_200s ?_ ?_ ?_ (fun _ => ?_) (fun _ => ?_) | refine q_271 (S := U) hBU ?_ (fun r7 e7 => ?_) | refine q_273 (S := U) hM hAU hGU ?_ (fun T n r9 e3 e2 e1 => ?_) | refine q_274 (S := U) hM hD hE hAU hGU ?_ (fun T r9 e3 e1 => ?_) | refine q_276 (S := U) hBU ?_ (fun _ _ _ _ => ?_) | (have f0 := f1; refine q_275 (S := U) hBU (fun _ f3 _ _ => ?_)) | refine q_275 (S := U) hBU (fun _ f1 _ _ => ?_) | refine q_215 (S := U) hBU ?_ (fun _ f2 => ?_) | with_reducible refine And.intro ?_ ?_ | with_reducible intro _)
    all_goals (try (first | omega | contradiction | (skip; first | done | omega | (first | assumption | (refine perM_0 (by omega) ?_; rw [← uo]) | (refine perM_2 (by omega) ?_; rw [← uo]; assumption) | (refine perM_3 (by omega) ?_; rw [← uo]; first | exact Or.inl ⟨rfl, e7⟩ | exact Or.inr ⟨rfl, e7⟩) | (refine perM_4 (by omega) ?_; rw [← uo, ← uM]; assumption) | (refine perM_5 (by omega) ⟨_, ?_, e2⟩; rw [← uM]; exact e3) | (refine perM_6 (by omega) ?_; rw [← uM]; exact e3) | (refine perM_7 (by omega) ?_; rw [← uM, ← ud]; assumption) | (refine perM_80 (by omega) ?_; rw [← h9]; have q1 := hs3 _ f1; omega) | (have q1 := hs3 _ f1; have q2 := hs4 _ f2; omega) | (have q1 := hs3 _ f1; omega) | (have q1 := hs3 _ f1; have q3 := hs3 _ f3; have q2 := hs4 _ f2; subst q2 q3; refine perM_8 (by omega) ?_ ?_; (rw [← h9]; omega); (rw [← h9, ← h8]))))))
  have h40' : (0 ≤ p ∧ p < S 301 4) → (0 ≤ w ∧ w ≤ 8) → At tb (d + 64) 277 K 40 [vr 300, vi p, vi w] [] (X (upS S 300 0 0) m) := by rw [← hU]; exact h40
  refine Runs.of (al := [vr 300, vi p, vi w]) (n := 0) ⟨300, _, _, rfl, xo_300⟩ rfl rfl trivial ?_
  repeat' (first | refine h40' ?_ ?_ | refine hK1 ?_ | refine hK2 ?_ ?_ | simp only [w_aload, w_iload, w_call, w_if, cI, Int.reduceToNat, w_iconst, w_goto, w_fall, x_p1000_300, x_g1000_300, w_ireturn, w_ifc, w_imul, w_idiv, a277_0, a277_13, a277_27, a277_28, a277_52, a277_63, a277_80, a277_81, a277_82, a277_93, a277_104, a277_116, a277_128, a277_139, a277_152, R32, List.getElem?_cons_zero, List.getElem?_cons_succ, List.set_cons_zero, List.set_cons_succ, List.cons_append, List.nil_append, List.replicate_succ, List.replicate_zero, List.take_succ_cons, List.take_zero, List.drop_succ_cons, List.drop_zero, List.reverse_cons, List.reverse_nil, List.length_cons, List.length_nil, Option.toList, true_and, and_true, eq_self, ↓reduceIte, not_true_eq_false, not_false_eq_true, true_or, or_true, upS_upS, upS_at, up300, up300b, oR3, fR3, dR3, lgR3, valM3, Int.reduceEq, Nat.reduceEqDiff, and_self, and_true, and_false, false_and, if_true, if_false] | refine q_210s hB ?_ (fun _ => ?_) (fun _ => ?_) | refine q_200s ?_ ?_ ?_ (fun _ => ?_) (fun _ => ?_) | with_reducible refine And.intro ?_ ?_ | with_reducible intro _)
  all_goals (try (first | omega | contradiction | (skip; first | done | omega | assumption)))
end Ref37
