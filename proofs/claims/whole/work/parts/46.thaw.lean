/-! ===== THE REFERENCE: a law asked; what thaws; a name written ===== -/
/-- a law as the row keeps it: its lines, its size, its text -/
abbrev LawD : Type := Int × Int × (Int → Int)
def lawD (r : Int → Int) : LawD := (r 1, r 2, fun j => if 0 ≤ j then r (415 + j) else 0)
theorem lawD_eq {r q : Int → Int} (h : ∀ j, j = 1 ∨ j = 2 ∨ 415 ≤ j → q j = r j) : lawD q = lawD r := by
  unfold lawD
  rw [h 1 (by omega), h 2 (by omega)]
  refine congrArg (fun x => (r 1, r 2, x)) (funext fun j => ?_)
  split
  · exact h _ (by omega)
  · rfl
/-- what a law may ask of a person and a field -/
noncomputable def fcR (r : Int → Int) (p f : Int) : Int → Int := fun j =>
  if j = 0 then p else if j = 1 then f else if j = 2 then fr r f 0 else if j = 3 then fr r f 1 else if j = 4 then pr r p 0 else if j = 5 then owedByM (dr r) (r 5) p else if j = 6 then r 10 % 100
  else if j = 7 then (if pr r p 1 = -1 then 0 else 1) else if j = 8 then @ite _ (wholeM (pr r) p (pr r p 0)) (Classical.propDecidable _) 1 0 else if j = 9 then (if 0 < owedByM (dr r) (r 5) p then 1 else 0) else 0
noncomputable def mltR (ev : LawD → Int → (Int → Int) → Int) (r : Int → Int) (p f : Int) : Int := if fr r f 0 / 2 + ev (lawD r) 0 (fcR r p f) < 0 then 0 else fr r f 0 / 2 + ev (lawD r) 0 (fcR r p f)
noncomputable def dptR (ev : LawD → Int → (Int → Int) → Int) (r : Int → Int) (p f : Int) : Int := if 9 < 4 + ev (lawD r) 1 (fcR r p f) then 9 else 4 + ev (lawD r) 1 (fcR r p f)
theorem mltR_0 {ev : LawD → Int → (Int → Int) → Int} {r : Int → Int} {p f : Int} : 0 ≤ mltR ev r p f := by
  unfold mltR
  split <;> omega
/-- the same but for what asking leaves -/
def SA (S T : Nat → Int → Int) : Prop := (∀ a, a ≠ 300 → a ≠ 306 → T a = S a) ∧ (∀ j, j < 9 ∨ j = 12 ∨ 19 < j → T 300 j = S 300 j)
theorem SA_R {S T : Nat → Int → Int} (h : SA S T) : SR S T := ⟨fun a h1 h3 => h.1 a h1 (by omega), fun j h1 => h.2 j (by omega)⟩
def AskM (tb : Tab) (ev : LawD → Int → (Int → Int) → Int) (good : LawD → Prop) : Prop := ∀ (d : Nat) (m : AM) (K : Out → AM → Prop) (S : Nat → Int → Int) (p f : Int), AB (S 301) → good (lawD (S 301)) → 0 ≤ p ∧ p < 6 → 0 ≤ f ∧ f < 6 → (∀ T r, r = mltR ev (S 301) p f → 0 ≤ r → r ≤ 1000 → SA S T → K (.inl (some (vi r))) (X T m)) → Runs tb pg (d + 60) 250 [vr 300, vi p, vi f] (X S m) K
def AskD (tb : Tab) (ev : LawD → Int → (Int → Int) → Int) (good : LawD → Prop) : Prop := ∀ (d : Nat) (m : AM) (K : Out → AM → Prop) (S : Nat → Int → Int) (p f : Int), AB (S 301) → good (lawD (S 301)) → 0 ≤ p ∧ p < 6 → 0 ≤ f ∧ f < 6 → (∀ T r, r = dptR ev (S 301) p f → 0 ≤ r → r ≤ 9 → SA S T → K (.inl (some (vi r))) (X T m)) → Runs tb pg (d + 60) 251 [vr 300, vi p, vi f] (X S m) K
theorem SR_w {S T : Nat → Int → Int} {r q : Int → Int} {i v : Int} (h : SR (sR S r) T) (e : putR r i v = q) : SR (sR S q) (upS T 301 i v) := by
  subst e
  refine ⟨fun a h1 h3 => ?_, fun j h1 => ?_⟩
  · by_cases e : a = 301
    · subst e
      have := SR_m h
      rw [sR_r] at this ⊢
      show (fun j => if j = i then v else T 301 j) = putR r i v
      rw [this]
      rfl
    · rw [show upS T 301 i v a = T a from if_neg e, h.1 a h1 h3]
      show (if a = 301 then r else S a) = if a = 301 then _ else S a
      rw [if_neg e, if_neg e]
  · rw [show upS T 301 i v 300 j = T 300 j from rfl]
    exact h.2 j h1
theorem SR_q {S T : Nat → Int → Int} {r q : Int → Int} (h : SR (sR S r) T) : SR (sR S q) (sR T q) := by
  refine ⟨fun a h1 h3 => ?_, fun j h1 => ?_⟩
  · by_cases e : a = 301
    · subst e; rfl
    · show (if a = 301 then q else T a) = if a = 301 then q else S a
      rw [if_neg e, if_neg e, h.1 a h1 h3]
      exact if_neg e
  · exact h.2 j h1
theorem SR_id {S T : Nat → Int → Int} (h : SR S T) : SR (sR S (S 301)) T := by rw [sR_id]; exact h
/-- what melts of each -/
noncomputable def mlF (ev : LawD → Int → (Int → Int) → Int) (r : Int → Int) (k : Int) : Int := if pr r k 1 = -1 then 0 else mltR ev r k (pr r k 1)
theorem mlF_0 {ev : LawD → Int → (Int → Int) → Int} {r : Int → Int} {k : Int} : 0 ≤ mlF ev r k := by
  unfold mlF
  split
  · omega
  · exact mltR_0
def bareF (q : Int → Int) (k : Int) : Int := if fr q (pr q k 1) 1 = 0 then 1 else 0
noncomputable def thawsR (ev : LawD → Int → (Int → Int) → Int) (r : Int → Int) : Int → Int := snkN (fun _ k => mlF ev r k) bareF (snwP thV r (r 3)) (r 4).toNat
theorem thawsR_AB {ev : LawD → Int → (Int → Int) → Int} {r : Int → Int} (h : AB r) : AB (thawsR ev r) := by
  have b3 := h.2.1.1
  have b4 := h.2.1.2.1
  exact snkN_AB (snwP_AB b3.2 (th_rg h) h) (fun _ _ => mlF_0) _ (by omega)
def mlB (ev : LawD → Int → (Int → Int) → Int) (r : Int → Int) (T : Nat → Int → Int) (n : Int) : Prop := ∀ k, 0 ≤ k → k < n → T 307 k = mlF ev r k ∧ T 307 k ≤ 1000
theorem mlB_s {ev : LawD → Int → (Int → Int) → Int} {r : Int → Int} {T U : Nat → Int → Int} {n v : Int} (h : mlB ev r T n) (hu : U 307 = T 307) (hv : v = mlF ev r n ∧ v ≤ 1000) : mlB ev r (upS U 307 n v) (n + 1) := by
  intro k k0 k1
  rw [upS_at]
  by_cases e : k = n
  · subst e; rw [if_pos ⟨rfl, rfl⟩]; exact hv
  · rw [if_neg (fun z => e z.2), hu]; exact h k k0 (by omega)
section Ref19
variable {tb : Tab} {d : Nat} {m : AM} {K : Out → AM → Prop} {S : Nat → Int → Int} {ev : LawD → Int → (Int → Int) → Int} {good : LawD → Prop}
theorem k258_0 : pg.1 258 0 = [.bipush 0, .istore 1, .jsr 2] := rfl
theorem a258_0 {tb : Tab} {d : Nat} {K : Out → AM → Prop} {ls st : List AV} {m : AM} : At tb d 258 K 0 ls st m = wpB tb (pg.2.1 258) (Runs tb pg d) K (At tb d 258 K) [.bipush 0, .istore 1, .jsr 2] ls st m := At.eq k258_0
theorem k258_2 : pg.1 258 2 = [.iload 1, .aload 0, .getfield 1001, .bipush 4, .iaload, .if_icmp .ge 47, .aload 0, .getfield 1020, .iload 1, .aload 0, .iload 1, .invokeinterface 211 2, .ifCond .eq 39, .aload 0, .iload 1, .aload 0, .iload 1, .bipush 1, .invokeinterface 206 3, .invokeinterface 250 3, .goto 40] := rfl
theorem a258_2 {tb : Tab} {d : Nat} {K : Out → AM → Prop} {ls st : List AV} {m : AM} : At tb d 258 K 2 ls st m = wpB tb (pg.2.1 258) (Runs tb pg d) K (At tb d 258 K) [.iload 1, .aload 0, .getfield 1001, .bipush 4, .iaload, .if_icmp .ge 47, .aload 0, .getfield 1020, .iload 1, .aload 0, .iload 1, .invokeinterface 211 2, .ifCond .eq 39, .aload 0, .iload 1, .aload 0, .iload 1, .bipush 1, .invokeinterface 206 3, .invokeinterface 250 3, .goto 40] ls st m := At.eq k258_2
theorem k258_39 : pg.1 258 39 = [.bipush 0, .jsr 40] := rfl
theorem a258_39 {tb : Tab} {d : Nat} {K : Out → AM → Prop} {ls st : List AV} {m : AM} : At tb d 258 K 39 ls st m = wpB tb (pg.2.1 258) (Runs tb pg d) K (At tb d 258 K) [.bipush 0, .jsr 40] ls st m := At.eq k258_39
theorem k258_40 : pg.1 258 40 = [.iastore, .iinc 1 1, .goto 2] := rfl
theorem a258_40 {tb : Tab} {d : Nat} {K : Out → AM → Prop} {ls st : List AV} {m : AM} : At tb d 258 K 40 ls st m = wpB tb (pg.2.1 258) (Runs tb pg d) K (At tb d 258 K) [.iastore, .iinc 1 1, .goto 2] ls st m := At.eq k258_40
theorem k258_47 : pg.1 258 47 = [.bipush 0, .istore 1, .jsr 49] := rfl
theorem a258_47 {tb : Tab} {d : Nat} {K : Out → AM → Prop} {ls st : List AV} {m : AM} : At tb d 258 K 47 ls st m = wpB tb (pg.2.1 258) (Runs tb pg d) K (At tb d 258 K) [.bipush 0, .istore 1, .jsr 49] ls st m := At.eq k258_47
theorem k258_49 : pg.1 258 49 = [.iload 1, .aload 0, .getfield 1001, .bipush 3, .iaload, .if_icmp .ge 97, .aload 0, .getfield 1001, .bipush 13, .bipush 3, .iload 1, .imul, .iadd, .bipush 1, .iadd, .bipush 0, .aload 0, .iload 1, .bipush 1, .invokeinterface 205 3, .aload 0, .iload 1, .bipush 0, .invokeinterface 205 3, .isub, .bipush 1, .isub, .invokeinterface 202 2, .iastore, .iinc 1 1, .goto 49] := rfl
theorem a258_49 {tb : Tab} {d : Nat} {K : Out → AM → Prop} {ls st : List AV} {m : AM} : At tb d 258 K 49 ls st m = wpB tb (pg.2.1 258) (Runs tb pg d) K (At tb d 258 K) [.iload 1, .aload 0, .getfield 1001, .bipush 3, .iaload, .if_icmp .ge 97, .aload 0, .getfield 1001, .bipush 13, .bipush 3, .iload 1, .imul, .iadd, .bipush 1, .iadd, .bipush 0, .aload 0, .iload 1, .bipush 1, .invokeinterface 205 3, .aload 0, .iload 1, .bipush 0, .invokeinterface 205 3, .isub, .bipush 1, .isub, .invokeinterface 202 2, .iastore, .iinc 1 1, .goto 49] ls st m := At.eq k258_49
theorem k258_97 : pg.1 258 97 = [.bipush 0, .istore 1, .jsr 99] := rfl
theorem a258_97 {tb : Tab} {d : Nat} {K : Out → AM → Prop} {ls st : List AV} {m : AM} : At tb d 258 K 97 ls st m = wpB tb (pg.2.1 258) (Runs tb pg d) K (At tb d 258 K) [.bipush 0, .istore 1, .jsr 99] ls st m := At.eq k258_97
theorem k258_99 : pg.1 258 99 = [.iload 1, .aload 0, .getfield 1001, .bipush 4, .iaload, .if_icmp .ge 153, .aload 0, .iload 1, .invokeinterface 211 2, .ifCond .eq 147, .aload 0, .iload 1, .aload 0, .getfield 1020, .iload 1, .iaload, .aload 0, .aload 0, .iload 1, .bipush 1, .invokeinterface 206 3, .bipush 1, .invokeinterface 205 3, .ifCond .ne 143, .bipush 1, .goto 144] := rfl
theorem a258_99 {tb : Tab} {d : Nat} {K : Out → AM → Prop} {ls st : List AV} {m : AM} : At tb d 258 K 99 ls st m = wpB tb (pg.2.1 258) (Runs tb pg d) K (At tb d 258 K) [.iload 1, .aload 0, .getfield 1001, .bipush 4, .iaload, .if_icmp .ge 153, .aload 0, .iload 1, .invokeinterface 211 2, .ifCond .eq 147, .aload 0, .iload 1, .aload 0, .getfield 1020, .iload 1, .iaload, .aload 0, .aload 0, .iload 1, .bipush 1, .invokeinterface 206 3, .bipush 1, .invokeinterface 205 3, .ifCond .ne 143, .bipush 1, .goto 144] ls st m := At.eq k258_99
theorem k258_143 : pg.1 258 143 = [.bipush 0, .jsr 144] := rfl
theorem a258_143 {tb : Tab} {d : Nat} {K : Out → AM → Prop} {ls st : List AV} {m : AM} : At tb d 258 K 143 ls st m = wpB tb (pg.2.1 258) (Runs tb pg d) K (At tb d 258 K) [.bipush 0, .jsr 144] ls st m := At.eq k258_143
theorem k258_144 : pg.1 258 144 = [.invokeinterface 256 4, .jsr 147] := rfl
theorem a258_144 {tb : Tab} {d : Nat} {K : Out → AM → Prop} {ls st : List AV} {m : AM} : At tb d 258 K 144 ls st m = wpB tb (pg.2.1 258) (Runs tb pg d) K (At tb d 258 K) [.invokeinterface 256 4, .jsr 147] ls st m := At.eq k258_144
theorem k258_147 : pg.1 258 147 = [.iinc 1 1, .goto 99] := rfl
theorem a258_147 {tb : Tab} {d : Nat} {K : Out → AM → Prop} {ls st : List AV} {m : AM} : At tb d 258 K 147 ls st m = wpB tb (pg.2.1 258) (Runs tb pg d) K (At tb d 258 K) [.iinc 1 1, .goto 99] ls st m := At.eq k258_147
theorem k258_153 : pg.1 258 153 = [.return_] := rfl
theorem a258_153 {tb : Tab} {d : Nat} {K : Out → AM → Prop} {ls st : List AV} {m : AM} : At tb d 258 K 153 ls st m = wpB tb (pg.2.1 258) (Runs tb pg d) K (At tb d 258 K) [.return_] ls st m := At.eq k258_153
theorem q_258 (hM : AskM tb ev good) (hA : AB (S 301)) (hG : good (lawD (S 301))) (hK : ∀ T, SR (sR S (thawsR ev (S 301))) T → K (.inl none) (X T m)) : Runs tb pg (d + 61) 258 [vr 300] (X S m) K := by
  have hB := AB_B hA
  have b3 := hA.2.1.1
  have b4 := hA.2.1.2.1
  have sA := fun i (h : i ≤ 6) => snwP_AB (i := i) h (th_rg hA) hA
  have hL99 : (fun i : Int => ∀ (T : Nat → Int → Int), (SR (sR S (snkN (fun _ k => mlF ev (S 301) k) bareF (snwP thV (S 301) (S 301 3)) i.toNat)) T) → (mlB ev (S 301) T (S 301 4)) → At tb (d + 60) 258 K 99 [vr 300, vi i] [] (X T m)) 0 := by
    refine loopZ (fun i : Int => ∀ (T : Nat → Int → Int), (SR (sR S (snkN (fun _ k => mlF ev (S 301) k) bareF (snwP thV (S 301) (S 301 3)) i.toNat)) T) → (mlB ev (S 301) T (S 301 4)) → At tb (d + 60) 258 K 99 [vr 300, vi i] [] (X T m)) (S 301 4) (by omega) ?_ ?_
    · intro i h0 h1 h9 T hT hm
      have s := snkN_AB (n := fun _ k => mlF ev (S 301) k) (b := bareF) (sA (S 301 3) b3.2) (fun _ _ => mlF_0) i.toNat (by omega)
      obtain ⟨q, hq⟩ : ∃ q, q = snkN (fun _ k => mlF ev (S 301) k) bareF (snwP thV (S 301) (S 301 3)) i.toNat := ⟨_, rfl⟩
      have y1 := snkN_y (n := fun _ k => mlF ev (S 301) k) (b := bareF) (r := snwP thV (S 301) (S 301 3)) h0
      have y2 := snkN_n (n := fun _ k => mlF ev (S 301) k) (b := bareF) (r := snwP thV (S 301) (S 301 3)) h0
      have c4 : snkN (fun _ k => mlF ev (S 301) k) bareF (snwP thV (S 301) (S 301 3)) i.toNat 4 = S 301 4 := by rw [snkN_o (sA _ b3.2) (fun _ _ => mlF_0) (by omega) (by omega) _ (by omega), snwP_o b3.2 (by omega)]
      have c3 : snkN (fun _ k => mlF ev (S 301) k) bareF (snwP thV (S 301) (S 301 3)) i.toNat 3 = S 301 3 := by rw [snkN_o (sA _ b3.2) (fun _ _ => mlF_0) (by omega) (by omega) _ (by omega), snwP_o b3.2 (by omega)]
      rw [← hq] at s y1 y2 c4 c3 hT
      have hTm := SR_m hT
      rw [sR_r] at hTm
      have hB := ABs (S := S) s
      have hA2 : AB (T 301) := by rw [hTm]; exact s
      have b5 := s.2.2.2.2.2 i h0 (by omega)
      have b2 := (s.2.2.1 i h0 (by omega)).2.1
      have m9 := hm i h0 h1
      have m0 := mlF_0 (ev := ev) (r := S 301) (k := i)
      have o1 : oR T = pr q := by rw [SR_o hT, oRs]
      have o2 : fR T = fr q := by rw [SR_f hT, fRs]
      have o3 : T 301 4 = S 301 4 := by rw [hTm, c4]
      rw [a258_99]
      repeat' (first | refine h9 _ ?_ ?_ | simp only [w_iconst, w_istore, w_fall, Int.reduceToNat, w_iload, w_aload, x_g1001_300, x_iald, w_ialoads, w_ialoadw, w_ifc, cI, x_g1020_300, w_call, w_if, w_goto, x_iast, w_iinc, lgB, Nat.reduceSub, w_imul, w_iadd, w_isub, w_return, isA_301, isA_302, isA_303, isA_304, isA_305, isA_306, isA_307, isA_308, isA_309, isA_310, isA_311, isA_312, isA_313, isA_314, isA_315, len_301, len_302, len_303, len_304, len_305, len_306, len_307, len_308, len_309, len_310, len_311, len_312, len_313, len_314, len_315, Int.cast_ofNat_Int, a258_0, a258_39, a258_40, a258_47, a258_97, a258_143, a258_144, a258_147, a258_153, R32, List.getElem?_cons_zero, List.getElem?_cons_succ, List.set_cons_zero, List.set_cons_succ, List.cons_append, List.nil_append, List.replicate_succ, List.replicate_zero, List.take_succ_cons, List.take_zero, List.drop_succ_cons, List.drop_zero, List.reverse_cons, List.reverse_nil, List.length_cons, List.length_nil, Option.toList, true_and, and_true, eq_self, ↓reduceIte, not_true_eq_false, not_false_eq_true, true_or, or_true, upS_upS, upS_at, up300, up300b, oR3, fR3, dR3, lgR3, valM3, Int.reduceEq, Nat.reduceEqDiff, and_self, and_true, and_false, false_and, if_true, if_false] | refine q_211 (BRs hT hB) ?_ ?_ | refine q_256 hA2 ?_ ?_ ?_ ?_ | refine q_211 (BR3 hB) ?_ ?_ | refine q_211 (BRs hT hB) ?_ ?_ | refine q_206 hB ?_ ?_ ?_ | refine q_206 (BR3 hB) ?_ ?_ ?_ | refine q_206 (BRs hT hB) ?_ ?_ ?_ | refine q_205 hB ?_ ?_ ?_ | refine q_205 (BR3 hB) ?_ ?_ ?_ | refine q_205 (BRs hT hB) ?_ ?_ ?_ | with_reducible refine And.intro ?_ ?_ | with_reducible intro _)
      all_goals (try (first | omega | contradiction | ((try clear hK); (try clear hK0); (try clear hB); (try clear h9); (try clear h8); (try clear h7); (try simp only [oR3, fR3, dR3, lgR3, valM3, up300, up300b] at *); (try simp only [SR_o hT, SR_f hT, SR_d hT, SR_l hT, SR_v hT, SR_m hT, SR_g hT, oR3, fR3, dR3, lgR3, valM3, up300, up300b] at *); first | done | omega | (simp only [o1, o2] at *; first | done | omega | (rw [y1 (by grind)]; exact hT) | (rw [y2 (by grind), hTm]; simp only [bareF] at *; rw [m9.1]; first | (rw [if_pos (by grind)]; exact SR_q hT) | (rw [if_neg (by grind)]; exact SR_q hT)) | exact hm | grind))))
    · intro T hT hm
      have hTm := SR_m hT
      rw [sR_r] at hTm
      have c4 : snkN (fun _ k => mlF ev (S 301) k) bareF (snwP thV (S 301) (S 301 3)) (S 301 4).toNat 4 = S 301 4 := by rw [snkN_o (sA _ b3.2) (fun _ _ => mlF_0) (by omega) (by omega) _ (by omega), snwP_o b3.2 (by omega)]
      have o3 : T 301 4 = S 301 4 := by rw [hTm, c4]
      rw [a258_99]
      repeat' (first | refine hK _ ?_ | simp only [w_iconst, w_istore, w_fall, Int.reduceToNat, w_iload, w_aload, x_g1001_300, x_iald, w_ialoads, w_ialoadw, w_ifc, cI, x_g1020_300, w_call, w_if, w_goto, x_iast, w_iinc, lgB, Nat.reduceSub, w_imul, w_iadd, w_isub, w_return, isA_301, isA_302, isA_303, isA_304, isA_305, isA_306, isA_307, isA_308, isA_309, isA_310, isA_311, isA_312, isA_313, isA_314, isA_315, len_301, len_302, len_303, len_304, len_305, len_306, len_307, len_308, len_309, len_310, len_311, len_312, len_313, len_314, len_315, Int.cast_ofNat_Int, a258_0, a258_39, a258_40, a258_47, a258_97, a258_143, a258_144, a258_147, a258_153, R32, List.getElem?_cons_zero, List.getElem?_cons_succ, List.set_cons_zero, List.set_cons_succ, List.cons_append, List.nil_append, List.replicate_succ, List.replicate_zero, List.take_succ_cons, List.take_zero, List.drop_succ_cons, List.drop_zero, List.reverse_cons, List.reverse_nil, List.length_cons, List.length_nil, Option.toList, true_and, and_true, eq_self, ↓reduceIte, not_true_eq_false, not_false_eq_true, true_or, or_true, upS_upS, upS_at, up300, up300b, oR3, fR3, dR3, lgR3, valM3, Int.reduceEq, Nat.reduceEqDiff, and_self, and_true, and_false, false_and, if_true, if_false] | refine q_211 (BRs hT hB) ?_ ?_ | refine q_256 hA2 ?_ ?_ ?_ ?_ | refine q_211 (BR3 hB) ?_ ?_ | refine q_211 (BRs hT hB) ?_ ?_ | refine q_206 hB ?_ ?_ ?_ | refine q_206 (BR3 hB) ?_ ?_ ?_ | refine q_206 (BRs hT hB) ?_ ?_ ?_ | refine q_205 hB ?_ ?_ ?_ | refine q_205 (BR3 hB) ?_ ?_ ?_ | refine q_205 (BRs hT hB) ?_ ?_ ?_ | with_reducible refine And.intro ?_ ?_ | with_reducible intro _)
      all_goals (try (first | omega | contradiction | ((try clear hK); (try clear hK0); (try clear hB); (try clear h9); (try clear h8); (try clear h7); (try simp only [oR3, fR3, dR3, lgR3, valM3, up300, up300b] at *); (try simp only [SR_o hT, SR_f hT, SR_d hT, SR_l hT, SR_v hT, SR_m hT, SR_g hT, oR3, fR3, dR3, lgR3, valM3, up300, up300b] at *); first | done | omega | exact hT | grind)))
  have hL49 : (fun i : Int => ∀ (T : Nat → Int → Int), (SR (sR S (snwP thV (S 301) i)) T) → (mlB ev (S 301) T (S 301 4)) → At tb (d + 60) 258 K 49 [vr 300, vi i] [] (X T m)) 0 := by
    refine loopZ (fun i : Int => ∀ (T : Nat → Int → Int), (SR (sR S (snwP thV (S 301) i)) T) → (mlB ev (S 301) T (S 301 4)) → At tb (d + 60) 258 K 49 [vr 300, vi i] [] (X T m)) (S 301 3) (by omega) ?_ ?_
    · intro i h0 h1 h9 T hT hm
      have s := sA i (by omega)
      have hTm := SR_m hT
      rw [sR_r] at hTm
      have hB := ABs (S := S) s
      have o3 : T 301 3 = S 301 3 := by rw [hTm]; exact snwP_o (by omega) (by omega)
      have o2 : fR T = fr (snwP thV (S 301) i) := by rw [SR_f hT, fRs]
      have f1 : fr (snwP thV (S 301) i) i 1 = S 301 (14 + 3 * i) := by rw [snwP_f h0 (by omega) (by omega), if_neg (by omega)]; unfold fr; exact congrArg _ (by omega)
      have f0 : fr (snwP thV (S 301) i) i 0 = S 301 (14 + 3 * i - 1) := by rw [snwP_f h0 (by omega) (by omega), if_neg (by omega)]; unfold fr; exact congrArg _ (by omega)
      have g1 := hA.2.2.2.1 i h0 (by omega)
      have e1 : fr (S 301) i 1 = S 301 (14 + 3 * i) := by unfold fr; exact congrArg _ (by omega)
      have e0 : fr (S 301) i 0 = S 301 (14 + 3 * i - 1) := by unfold fr; exact congrArg _ (by omega)
      rw [e1, e0] at g1
      rw [a258_49]
      repeat' (first | refine h9 _ ?_ ?_ | simp only [w_iconst, w_istore, w_fall, Int.reduceToNat, w_iload, w_aload, x_g1001_300, x_iald, w_ialoads, w_ialoadw, w_ifc, cI, x_g1020_300, w_call, w_if, w_goto, x_iast, w_iinc, lgB, Nat.reduceSub, w_imul, w_iadd, w_isub, w_return, isA_301, isA_302, isA_303, isA_304, isA_305, isA_306, isA_307, isA_308, isA_309, isA_310, isA_311, isA_312, isA_313, isA_314, isA_315, len_301, len_302, len_303, len_304, len_305, len_306, len_307, len_308, len_309, len_310, len_311, len_312, len_313, len_314, len_315, Int.cast_ofNat_Int, a258_0, a258_39, a258_40, a258_47, a258_97, a258_143, a258_144, a258_147, a258_153, R32, List.getElem?_cons_zero, List.getElem?_cons_succ, List.set_cons_zero, List.set_cons_succ, List.cons_append, List.nil_append, List.replicate_succ, List.replicate_zero, List.take_succ_cons, List.take_zero, List.drop_succ_cons, List.drop_zero, List.reverse_cons, List.reverse_nil, List.length_cons, List.length_nil, Option.toList, true_and, and_true, eq_self, ↓reduceIte, not_true_eq_false, not_false_eq_true, true_or, or_true, upS_upS, upS_at, up300, up300b, oR3, fR3, dR3, lgR3, valM3, Int.reduceEq, Nat.reduceEqDiff, and_self, and_true, and_false, false_and, if_true, if_false] | refine q_202 ?_ ?_ ?_ | refine q_205 hB ?_ ?_ ?_ | refine q_205 (BR3 hB) ?_ ?_ ?_ | refine q_205 (BRs hT hB) ?_ ?_ ?_ | refine q_206 hB ?_ ?_ ?_ | refine q_206 (BR3 hB) ?_ ?_ ?_ | refine q_206 (BRs hT hB) ?_ ?_ ?_ | refine q_211 hB ?_ ?_ | refine q_211 (BR3 hB) ?_ ?_ | refine q_211 (BRs hT hB) ?_ ?_ | with_reducible refine And.intro ?_ ?_ | with_reducible intro _)
      all_goals (try (first | omega | contradiction | ((try clear hK); (try clear hK0); (try clear hB); (try clear h9); (try clear h8); (try clear h7); (try simp only [oR3, fR3, dR3, lgR3, valM3, up300, up300b] at *); (try simp only [SR_o hT, SR_f hT, SR_d hT, SR_l hT, SR_v hT, SR_m hT, SR_g hT, oR3, fR3, dR3, lgR3, valM3, up300, up300b] at *); first | done | omega | (simp only [o2, f1, f0] at *; first | done | omega | (refine SR_w hT (snwP_s h0 ?_); simp only [thV]; grind) | (intro k k0 k1; exact hm k k0 k1) | exact hm | grind))))
    · intro T hT hm
      have hTm := SR_m hT
      rw [sR_r] at hTm
      have o3 : T 301 3 = S 301 3 := by rw [hTm]; exact snwP_o (by omega) (by omega)
      rw [a258_49]
      repeat' (first | refine hL99 _ ?_ ?_ | simp only [w_iconst, w_istore, w_fall, Int.reduceToNat, w_iload, w_aload, x_g1001_300, x_iald, w_ialoads, w_ialoadw, w_ifc, cI, x_g1020_300, w_call, w_if, w_goto, x_iast, w_iinc, lgB, Nat.reduceSub, w_imul, w_iadd, w_isub, w_return, isA_301, isA_302, isA_303, isA_304, isA_305, isA_306, isA_307, isA_308, isA_309, isA_310, isA_311, isA_312, isA_313, isA_314, isA_315, len_301, len_302, len_303, len_304, len_305, len_306, len_307, len_308, len_309, len_310, len_311, len_312, len_313, len_314, len_315, Int.cast_ofNat_Int, a258_0, a258_39, a258_40, a258_47, a258_97, a258_143, a258_144, a258_147, a258_153, R32, List.getElem?_cons_zero, List.getElem?_cons_succ, List.set_cons_zero, List.set_cons_succ, List.cons_append, List.nil_append, List.replicate_succ, List.replicate_zero, List.take_succ_cons, List.take_zero, List.drop_succ_cons, List.drop_zero, List.reverse_cons, List.reverse_nil, List.length_cons, List.length_nil, Option.toList, true_and, and_true, eq_self, ↓reduceIte, not_true_eq_false, not_false_eq_true, true_or, or_true, upS_upS, upS_at, up300, up300b, oR3, fR3, dR3, lgR3, valM3, Int.reduceEq, Nat.reduceEqDiff, and_self, and_true, and_false, false_and, if_true, if_false] | refine q_202 ?_ ?_ ?_ | refine q_205 hB ?_ ?_ ?_ | refine q_205 (BR3 hB) ?_ ?_ ?_ | refine q_205 (BRs hT hB) ?_ ?_ ?_ | refine q_206 hB ?_ ?_ ?_ | refine q_206 (BR3 hB) ?_ ?_ ?_ | refine q_206 (BRs hT hB) ?_ ?_ ?_ | refine q_211 hB ?_ ?_ | refine q_211 (BR3 hB) ?_ ?_ | refine q_211 (BRs hT hB) ?_ ?_ | with_reducible refine And.intro ?_ ?_ | with_reducible intro _)
      all_goals (try (first | omega | contradiction | ((try clear hK); (try clear hK0); (try clear hB); (try clear h9); (try clear h8); (try clear h7); (try simp only [oR3, fR3, dR3, lgR3, valM3, up300, up300b] at *); (try simp only [SR_o hT, SR_f hT, SR_d hT, SR_l hT, SR_v hT, SR_m hT, SR_g hT, oR3, fR3, dR3, lgR3, valM3, up300, up300b] at *); first | done | omega | exact hT | exact hm | grind)))
  have hL2 : (fun i : Int => ∀ (T : Nat → Int → Int), (SR S T) → (mlB ev (S 301) T i) → At tb (d + 60) 258 K 2 [vr 300, vi i] [] (X T m)) 0 := by
    refine loopZ (fun i : Int => ∀ (T : Nat → Int → Int), (SR S T) → (mlB ev (S 301) T i) → At tb (d + 60) 258 K 2 [vr 300, vi i] [] (X T m)) (S 301 4) (by omega) ?_ ?_
    · intro i h0 h1 h9 T hT hm
      have b5 := hA.2.2.2.2.2 i h0 (by omega)
      have b2 := (hA.2.2.1 i h0 (by omega)).2.1
      have hTm := SR_m hT
      have hA2 : AB (T 301) := by rw [hTm]; exact hA
      have hG2 : good (lawD (T 301)) := by rw [hTm]; exact hG
      have o1 : oR T = pr (S 301) := by rw [SR_o hT]; rfl
      rw [a258_2]
      repeat' (first | refine h9 _ ?_ ?_ | simp only [w_iconst, w_istore, w_fall, Int.reduceToNat, w_iload, w_aload, x_g1001_300, x_iald, w_ialoads, w_ialoadw, w_ifc, cI, x_g1020_300, w_call, w_if, w_goto, x_iast, w_iinc, lgB, Nat.reduceSub, w_imul, w_iadd, w_isub, w_return, isA_301, isA_302, isA_303, isA_304, isA_305, isA_306, isA_307, isA_308, isA_309, isA_310, isA_311, isA_312, isA_313, isA_314, isA_315, len_301, len_302, len_303, len_304, len_305, len_306, len_307, len_308, len_309, len_310, len_311, len_312, len_313, len_314, len_315, Int.cast_ofNat_Int, a258_0, a258_39, a258_40, a258_47, a258_97, a258_143, a258_144, a258_147, a258_153, R32, List.getElem?_cons_zero, List.getElem?_cons_succ, List.set_cons_zero, List.set_cons_succ, List.cons_append, List.nil_append, List.replicate_succ, List.replicate_zero, List.take_succ_cons, List.take_zero, List.drop_succ_cons, List.drop_zero, List.reverse_cons, List.reverse_nil, List.length_cons, List.length_nil, Option.toList, true_and, and_true, eq_self, ↓reduceIte, not_true_eq_false, not_false_eq_true, true_or, or_true, upS_upS, upS_at, up300, up300b, oR3, fR3, dR3, lgR3, valM3, Int.reduceEq, Nat.reduceEqDiff, and_self, and_true, and_false, false_and, if_true, if_false] | refine q_202 ?_ ?_ ?_ | refine q_205 hB ?_ ?_ ?_ | refine q_205 (BR3 hB) ?_ ?_ ?_ | refine q_205 (BRs hT hB) ?_ ?_ ?_ | refine q_206 hB ?_ ?_ ?_ | refine q_206 (BR3 hB) ?_ ?_ ?_ | refine q_206 (BRs hT hB) ?_ ?_ ?_ | refine q_211 (BRs hT hB) ?_ ?_ | refine hM _ _ _ _ _ _ hA2 hG2 ?_ ?_ (fun _ _ _ _ _ _ => ?_) | refine q_211 (BR3 hB) ?_ ?_ | refine q_211 (BRs hT hB) ?_ ?_ | with_reducible refine And.intro ?_ ?_ | with_reducible intro _)
      all_goals (try (first | omega | contradiction | ((try clear hK); (try clear hK0); (try clear hB); (try clear h9); (try clear h8); (try clear h7); (try simp only [oR3, fR3, dR3, lgR3, valM3, up300, up300b] at *); (try simp only [SR_o hT, SR_f hT, SR_d hT, SR_l hT, SR_v hT, SR_m hT, SR_g hT, oR3, fR3, dR3, lgR3, valM3, up300, up300b] at *); first | done | omega | (simp only [o1, hTm] at *; first | done | omega | exact SR_up hT (by decide) | exact SR_up (SR_trans hT (SA_R (by assumption))) (by decide) | (refine mlB_s hm rfl ?_; unfold mlF; rw [if_pos (by grind)]; omega) | (refine mlB_s hm ((by assumption : SA T _).1 307 (by decide) (by decide)) ?_; unfold mlF; rw [if_neg (by grind)]; grind) | grind))))
    · intro T hT hm
      rw [a258_2]
      repeat' (first | refine hL49 _ ?_ ?_ | simp only [w_iconst, w_istore, w_fall, Int.reduceToNat, w_iload, w_aload, x_g1001_300, x_iald, w_ialoads, w_ialoadw, w_ifc, cI, x_g1020_300, w_call, w_if, w_goto, x_iast, w_iinc, lgB, Nat.reduceSub, w_imul, w_iadd, w_isub, w_return, isA_301, isA_302, isA_303, isA_304, isA_305, isA_306, isA_307, isA_308, isA_309, isA_310, isA_311, isA_312, isA_313, isA_314, isA_315, len_301, len_302, len_303, len_304, len_305, len_306, len_307, len_308, len_309, len_310, len_311, len_312, len_313, len_314, len_315, Int.cast_ofNat_Int, a258_0, a258_39, a258_40, a258_47, a258_97, a258_143, a258_144, a258_147, a258_153, R32, List.getElem?_cons_zero, List.getElem?_cons_succ, List.set_cons_zero, List.set_cons_succ, List.cons_append, List.nil_append, List.replicate_succ, List.replicate_zero, List.take_succ_cons, List.take_zero, List.drop_succ_cons, List.drop_zero, List.reverse_cons, List.reverse_nil, List.length_cons, List.length_nil, Option.toList, true_and, and_true, eq_self, ↓reduceIte, not_true_eq_false, not_false_eq_true, true_or, or_true, upS_upS, upS_at, up300, up300b, oR3, fR3, dR3, lgR3, valM3, Int.reduceEq, Nat.reduceEqDiff, and_self, and_true, and_false, false_and, if_true, if_false] | refine q_202 ?_ ?_ ?_ | refine q_205 hB ?_ ?_ ?_ | refine q_205 (BR3 hB) ?_ ?_ ?_ | refine q_205 (BRs hT hB) ?_ ?_ ?_ | refine q_206 hB ?_ ?_ ?_ | refine q_206 (BR3 hB) ?_ ?_ ?_ | refine q_206 (BRs hT hB) ?_ ?_ ?_ | refine q_211 (BRs hT hB) ?_ ?_ | refine hM _ _ _ _ _ _ hA2 hG2 ?_ ?_ (fun _ _ _ _ _ _ => ?_) | refine q_211 (BR3 hB) ?_ ?_ | refine q_211 (BRs hT hB) ?_ ?_ | with_reducible refine And.intro ?_ ?_ | with_reducible intro _)
      all_goals (try (first | omega | contradiction | ((try clear hK); (try clear hK0); (try clear hB); (try clear h9); (try clear h8); (try clear h7); (try simp only [oR3, fR3, dR3, lgR3, valM3, up300, up300b] at *); (try simp only [SR_o hT, SR_f hT, SR_d hT, SR_l hT, SR_v hT, SR_m hT, SR_g hT, oR3, fR3, dR3, lgR3, valM3, up300, up300b] at *); first | done | omega | (rw [snwP_0]; exact SR_id hT) | exact hm | grind)))
  refine Runs.of (al := [vr 300]) (n := 1) ⟨300, _, _, rfl, xo_300⟩ rfl rfl trivial ?_
  repeat' (first | refine hL2 _ ?_ ?_ | simp only [w_iconst, w_istore, w_fall, Int.reduceToNat, w_iload, w_aload, x_g1001_300, x_iald, w_ialoads, w_ialoadw, w_ifc, cI, x_g1020_300, w_call, w_if, w_goto, x_iast, w_iinc, lgB, Nat.reduceSub, w_imul, w_iadd, w_isub, w_return, isA_301, isA_302, isA_303, isA_304, isA_305, isA_306, isA_307, isA_308, isA_309, isA_310, isA_311, isA_312, isA_313, isA_314, isA_315, len_301, len_302, len_303, len_304, len_305, len_306, len_307, len_308, len_309, len_310, len_311, len_312, len_313, len_314, len_315, Int.cast_ofNat_Int, a258_0, a258_39, a258_40, a258_47, a258_97, a258_143, a258_144, a258_147, a258_153, R32, List.getElem?_cons_zero, List.getElem?_cons_succ, List.set_cons_zero, List.set_cons_succ, List.cons_append, List.nil_append, List.replicate_succ, List.replicate_zero, List.take_succ_cons, List.take_zero, List.drop_succ_cons, List.drop_zero, List.reverse_cons, List.reverse_nil, List.length_cons, List.length_nil, Option.toList, true_and, and_true, eq_self, ↓reduceIte, not_true_eq_false, not_false_eq_true, true_or, or_true, upS_upS, upS_at, up300, up300b, oR3, fR3, dR3, lgR3, valM3, Int.reduceEq, Nat.reduceEqDiff, and_self, and_true, and_false, false_and, if_true, if_false] | refine q_202 ?_ ?_ ?_ | refine q_205 hB ?_ ?_ ?_ | refine q_205 (BR3 hB) ?_ ?_ ?_ | refine q_205 (BRs hT hB) ?_ ?_ ?_ | refine q_206 hB ?_ ?_ ?_ | refine q_206 (BR3 hB) ?_ ?_ ?_ | refine q_206 (BRs hT hB) ?_ ?_ ?_ | refine q_211 hB ?_ ?_ | refine q_211 (BR3 hB) ?_ ?_ | refine q_211 (BRs hT hB) ?_ ?_ | with_reducible refine And.intro ?_ ?_ | with_reducible intro _)
  all_goals (try (first | omega | contradiction | ((try clear hK); (try clear hK0); (try clear hB); (try clear h9); (try clear h8); (try clear h7); (try simp only [oR3, fR3, dR3, lgR3, valM3, up300, up300b] at *); (try simp only [SR_o hT, SR_f hT, SR_d hT, SR_l hT, SR_v hT, SR_m hT, SR_g hT, oR3, fR3, dR3, lgR3, valM3, up300, up300b] at *); first | done | omega | exact SR_refl | (intro k k0 k1; omega))))
end Ref19
