/-! ===== THE REFERENCE, first readers ===== -/
theorem loopZ (G : Int → Prop) (N : Int) (h0 : 0 ≤ N) (hs : ∀ i, 0 ≤ i → i < N → G (i + 1) → G i) (he : G N) : G 0 := by
  have : ∀ n : Nat, (n : Int) ≤ N → G (N - n) := by
    intro n
    induction n with
    | zero => intro _; rw [show N - ((0 : Nat) : Int) = N by omega]; exact he
    | succ n ih =>
      intro h
      refine hs _ (by omega) (by omega) ?_
      rw [show N - ((n + 1 : Nat) : Int) + 1 = N - (n : Int) by omega]
      exact ih (by omega)
  have h9 := this N.toNat (by omega)
  rwa [show N - (N.toNat : Int) = 0 by omega] at h9
def sumN (f : Int → Int) : Nat → Int
  | 0 => 0
  | n + 1 => sumN f n + f n
def sumZ (n : Int) (f : Int → Int) : Int := sumN f n.toNat
theorem sumZ_0 {f : Int → Int} : sumZ 0 f = 0 := rfl
theorem sumZ_s {i : Int} {f : Int → Int} (h : 0 ≤ i) : sumZ (i + 1) f = sumZ i f + f i := by
  unfold sumZ
  rw [show (i + 1).toNat = i.toNat + 1 by omega]
  show sumN f i.toNat + f (i.toNat : Int) = _
  rw [Int.toNat_of_nonneg h]
/-- the reference's row: of a person, of a field, of a debt -/
def oR (S : Nat → Int → Int) (p w : Int) : Int := S 301 (31 + 20 * p + w)
def fR (S : Nat → Int → Int) (f w : Int) : Int := S 301 (13 + 3 * f + w)
def dR (S : Nat → Int → Int) (k w : Int) : Int := S 301 (151 + 3 * k + w)
/-- what always holds of the reference's row: bounds -/
def BR (S : Nat → Int → Int) : Prop := (∀ j, j ≠ 12 → -1 ≤ S 301 j ∧ S 301 j ≤ 10000) ∧ (0 ≤ S 301 3 ∧ S 301 3 ≤ 6) ∧ (0 ≤ S 301 4 ∧ S 301 4 ≤ 6) ∧ (0 ≤ S 301 5 ∧ S 301 5 ≤ 8) ∧ (∀ p, 0 ≤ p → p < 6 → (0 ≤ oR S p 0 ∧ oR S p 0 ≤ 6) ∧ (-1 ≤ oR S p 1 ∧ oR S p 1 < 6))
section Ref
variable {tb : Tab} {d : Nat} {m : AM} {K : Out → AM → Prop} {S : Nat → Int → Int}
theorem k200_0 : pg.1 200 0 = [.iload 0, .iload 1, .if_icmp .lt 14, .iload 0, .iload 2, .if_icmp .gt 14, .bipush 1, .goto 15] := rfl
theorem a200_0 {tb : Tab} {d : Nat} {K : Out → AM → Prop} {ls st : List AV} {m : AM} : At tb d 200 K 0 ls st m = wpB tb (pg.2.1 200) (Runs tb pg d) K (At tb d 200 K) [.iload 0, .iload 1, .if_icmp .lt 14, .iload 0, .iload 2, .if_icmp .gt 14, .bipush 1, .goto 15] ls st m := At.eq k200_0
theorem k200_14 : pg.1 200 14 = [.bipush 0, .jsr 15] := rfl
theorem a200_14 {tb : Tab} {d : Nat} {K : Out → AM → Prop} {ls st : List AV} {m : AM} : At tb d 200 K 14 ls st m = wpB tb (pg.2.1 200) (Runs tb pg d) K (At tb d 200 K) [.bipush 0, .jsr 15] ls st m := At.eq k200_14
theorem k200_15 : pg.1 200 15 = [.freturn] := rfl
theorem a200_15 {tb : Tab} {d : Nat} {K : Out → AM → Prop} {ls st : List AV} {m : AM} : At tb d 200 K 15 ls st m = wpB tb (pg.2.1 200) (Runs tb pg d) K (At tb d 200 K) [.freturn] ls st m := At.eq k200_15
theorem k201_0 : pg.1 201 0 = [.iload 0, .iload 1, .if_icmp .ge 9, .iload 0, .goto 10] := rfl
theorem a201_0 {tb : Tab} {d : Nat} {K : Out → AM → Prop} {ls st : List AV} {m : AM} : At tb d 201 K 0 ls st m = wpB tb (pg.2.1 201) (Runs tb pg d) K (At tb d 201 K) [.iload 0, .iload 1, .if_icmp .ge 9, .iload 0, .goto 10] ls st m := At.eq k201_0
theorem k201_9 : pg.1 201 9 = [.iload 1, .jsr 10] := rfl
theorem a201_9 {tb : Tab} {d : Nat} {K : Out → AM → Prop} {ls st : List AV} {m : AM} : At tb d 201 K 9 ls st m = wpB tb (pg.2.1 201) (Runs tb pg d) K (At tb d 201 K) [.iload 1, .jsr 10] ls st m := At.eq k201_9
theorem k201_10 : pg.1 201 10 = [.ireturn] := rfl
theorem a201_10 {tb : Tab} {d : Nat} {K : Out → AM → Prop} {ls st : List AV} {m : AM} : At tb d 201 K 10 ls st m = wpB tb (pg.2.1 201) (Runs tb pg d) K (At tb d 201 K) [.ireturn] ls st m := At.eq k201_10
theorem k202_0 : pg.1 202 0 = [.iload 0, .iload 1, .if_icmp .le 9, .iload 0, .goto 10] := rfl
theorem a202_0 {tb : Tab} {d : Nat} {K : Out → AM → Prop} {ls st : List AV} {m : AM} : At tb d 202 K 0 ls st m = wpB tb (pg.2.1 202) (Runs tb pg d) K (At tb d 202 K) [.iload 0, .iload 1, .if_icmp .le 9, .iload 0, .goto 10] ls st m := At.eq k202_0
theorem k202_9 : pg.1 202 9 = [.iload 1, .jsr 10] := rfl
theorem a202_9 {tb : Tab} {d : Nat} {K : Out → AM → Prop} {ls st : List AV} {m : AM} : At tb d 202 K 9 ls st m = wpB tb (pg.2.1 202) (Runs tb pg d) K (At tb d 202 K) [.iload 1, .jsr 10] ls st m := At.eq k202_9
theorem k202_10 : pg.1 202 10 = [.ireturn] := rfl
theorem a202_10 {tb : Tab} {d : Nat} {K : Out → AM → Prop} {ls st : List AV} {m : AM} : At tb d 202 K 10 ls st m = wpB tb (pg.2.1 202) (Runs tb pg d) K (At tb d 202 K) [.ireturn] ls st m := At.eq k202_10
theorem k206_0 : pg.1 206 0 = [.aload 0, .getfield 1001, .bipush 31, .bipush 20, .iload 1, .imul, .iadd, .iload 2, .iadd, .iaload, .ireturn] := rfl
theorem a206_0 {tb : Tab} {d : Nat} {K : Out → AM → Prop} {ls st : List AV} {m : AM} : At tb d 206 K 0 ls st m = wpB tb (pg.2.1 206) (Runs tb pg d) K (At tb d 206 K) [.aload 0, .getfield 1001, .bipush 31, .bipush 20, .iload 1, .imul, .iadd, .iload 2, .iadd, .iaload, .ireturn] ls st m := At.eq k206_0
theorem k211_0 : pg.1 211 0 = [.aload 0, .iload 1, .bipush 1, .invokeinterface 206 3, .bipush (-1), .if_icmp .eq 14, .bipush 1, .goto 15] := rfl
theorem a211_0 {tb : Tab} {d : Nat} {K : Out → AM → Prop} {ls st : List AV} {m : AM} : At tb d 211 K 0 ls st m = wpB tb (pg.2.1 211) (Runs tb pg d) K (At tb d 211 K) [.aload 0, .iload 1, .bipush 1, .invokeinterface 206 3, .bipush (-1), .if_icmp .eq 14, .bipush 1, .goto 15] ls st m := At.eq k211_0
theorem k211_14 : pg.1 211 14 = [.bipush 0, .jsr 15] := rfl
theorem a211_14 {tb : Tab} {d : Nat} {K : Out → AM → Prop} {ls st : List AV} {m : AM} : At tb d 211 K 14 ls st m = wpB tb (pg.2.1 211) (Runs tb pg d) K (At tb d 211 K) [.bipush 0, .jsr 15] ls st m := At.eq k211_14
theorem k211_15 : pg.1 211 15 = [.freturn] := rfl
theorem a211_15 {tb : Tab} {d : Nat} {K : Out → AM → Prop} {ls st : List AV} {m : AM} : At tb d 211 K 15 ls st m = wpB tb (pg.2.1 211) (Runs tb pg d) K (At tb d 211 K) [.freturn] ls st m := At.eq k211_15
theorem k212_0 : pg.1 212 0 = [.bipush 0, .istore 2, .bipush 0, .istore 3, .jsr 4] := rfl
theorem a212_0 {tb : Tab} {d : Nat} {K : Out → AM → Prop} {ls st : List AV} {m : AM} : At tb d 212 K 0 ls st m = wpB tb (pg.2.1 212) (Runs tb pg d) K (At tb d 212 K) [.bipush 0, .istore 2, .bipush 0, .istore 3, .jsr 4] ls st m := At.eq k212_0
theorem k212_4 : pg.1 212 4 = [.iload 3, .aload 0, .getfield 1001, .bipush 4, .iaload, .if_icmp .ge 43, .iload 2, .aload 0, .iload 3, .bipush 1, .invokeinterface 206 3, .iload 1, .if_icmp .ne 34, .aload 0, .iload 3, .bipush 0, .invokeinterface 206 3, .goto 35] := rfl
theorem a212_4 {tb : Tab} {d : Nat} {K : Out → AM → Prop} {ls st : List AV} {m : AM} : At tb d 212 K 4 ls st m = wpB tb (pg.2.1 212) (Runs tb pg d) K (At tb d 212 K) [.iload 3, .aload 0, .getfield 1001, .bipush 4, .iaload, .if_icmp .ge 43, .iload 2, .aload 0, .iload 3, .bipush 1, .invokeinterface 206 3, .iload 1, .if_icmp .ne 34, .aload 0, .iload 3, .bipush 0, .invokeinterface 206 3, .goto 35] ls st m := At.eq k212_4
theorem k212_34 : pg.1 212 34 = [.bipush 0, .jsr 35] := rfl
theorem a212_34 {tb : Tab} {d : Nat} {K : Out → AM → Prop} {ls st : List AV} {m : AM} : At tb d 212 K 34 ls st m = wpB tb (pg.2.1 212) (Runs tb pg d) K (At tb d 212 K) [.bipush 0, .jsr 35] ls st m := At.eq k212_34
theorem k212_35 : pg.1 212 35 = [.iadd, .istore 2, .iinc 3 1, .goto 4] := rfl
theorem a212_35 {tb : Tab} {d : Nat} {K : Out → AM → Prop} {ls st : List AV} {m : AM} : At tb d 212 K 35 ls st m = wpB tb (pg.2.1 212) (Runs tb pg d) K (At tb d 212 K) [.iadd, .istore 2, .iinc 3 1, .goto 4] ls st m := At.eq k212_35
theorem k212_43 : pg.1 212 43 = [.iload 2, .ireturn] := rfl
theorem a212_43 {tb : Tab} {d : Nat} {K : Out → AM → Prop} {ls st : List AV} {m : AM} : At tb d 212 K 43 ls st m = wpB tb (pg.2.1 212) (Runs tb pg d) K (At tb d 212 K) [.iload 2, .ireturn] ls st m := At.eq k212_43
theorem k213_0 : pg.1 213 0 = [.bipush 0, .istore 2, .bipush 0, .istore 3, .jsr 4] := rfl
theorem a213_0 {tb : Tab} {d : Nat} {K : Out → AM → Prop} {ls st : List AV} {m : AM} : At tb d 213 K 0 ls st m = wpB tb (pg.2.1 213) (Runs tb pg d) K (At tb d 213 K) [.bipush 0, .istore 2, .bipush 0, .istore 3, .jsr 4] ls st m := At.eq k213_0
theorem k213_4 : pg.1 213 4 = [.iload 3, .aload 0, .iload 1, .bipush 0, .invokeinterface 206 3, .if_icmp .ge 48, .iload 2, .aload 0, .iload 1, .invokeinterface 211 2, .ifCond .eq 39, .aload 0, .iload 1, .bipush 14, .iload 3, .iadd, .invokeinterface 206 3, .ifCond .le 39, .bipush 1, .goto 40] := rfl
theorem a213_4 {tb : Tab} {d : Nat} {K : Out → AM → Prop} {ls st : List AV} {m : AM} : At tb d 213 K 4 ls st m = wpB tb (pg.2.1 213) (Runs tb pg d) K (At tb d 213 K) [.iload 3, .aload 0, .iload 1, .bipush 0, .invokeinterface 206 3, .if_icmp .ge 48, .iload 2, .aload 0, .iload 1, .invokeinterface 211 2, .ifCond .eq 39, .aload 0, .iload 1, .bipush 14, .iload 3, .iadd, .invokeinterface 206 3, .ifCond .le 39, .bipush 1, .goto 40] ls st m := At.eq k213_4
theorem k213_39 : pg.1 213 39 = [.bipush 0, .jsr 40] := rfl
theorem a213_39 {tb : Tab} {d : Nat} {K : Out → AM → Prop} {ls st : List AV} {m : AM} : At tb d 213 K 39 ls st m = wpB tb (pg.2.1 213) (Runs tb pg d) K (At tb d 213 K) [.bipush 0, .jsr 40] ls st m := At.eq k213_39
theorem k213_40 : pg.1 213 40 = [.iadd, .istore 2, .iinc 3 1, .goto 4] := rfl
theorem a213_40 {tb : Tab} {d : Nat} {K : Out → AM → Prop} {ls st : List AV} {m : AM} : At tb d 213 K 40 ls st m = wpB tb (pg.2.1 213) (Runs tb pg d) K (At tb d 213 K) [.iadd, .istore 2, .iinc 3 1, .goto 4] ls st m := At.eq k213_40
theorem k213_48 : pg.1 213 48 = [.iload 2, .ireturn] := rfl
theorem a213_48 {tb : Tab} {d : Nat} {K : Out → AM → Prop} {ls st : List AV} {m : AM} : At tb d 213 K 48 ls st m = wpB tb (pg.2.1 213) (Runs tb pg d) K (At tb d 213 K) [.iload 2, .ireturn] ls st m := At.eq k213_48
theorem k214_0 : pg.1 214 0 = [.aload 0, .iload 1, .invokeinterface 211 2, .istore 2, .bipush 0, .istore 3, .jsr 8] := rfl
theorem a214_0 {tb : Tab} {d : Nat} {K : Out → AM → Prop} {ls st : List AV} {m : AM} : At tb d 214 K 0 ls st m = wpB tb (pg.2.1 214) (Runs tb pg d) K (At tb d 214 K) [.aload 0, .iload 1, .invokeinterface 211 2, .istore 2, .bipush 0, .istore 3, .jsr 8] ls st m := At.eq k214_0
theorem k214_8 : pg.1 214 8 = [.iload 3, .aload 0, .iload 1, .bipush 0, .invokeinterface 206 3, .if_icmp .ge 66, .iload 2, .ifCond .eq 58, .aload 0, .iload 1, .bipush 14, .iload 3, .iadd, .invokeinterface 206 3, .ifCond .le 58, .aload 0, .iload 1, .bipush 8, .iload 3, .iadd, .invokeinterface 206 3, .aload 0, .iload 1, .bipush 2, .iload 3, .iadd, .invokeinterface 206 3, .if_icmp .ne 58, .bipush 1, .goto 59] := rfl
theorem a214_8 {tb : Tab} {d : Nat} {K : Out → AM → Prop} {ls st : List AV} {m : AM} : At tb d 214 K 8 ls st m = wpB tb (pg.2.1 214) (Runs tb pg d) K (At tb d 214 K) [.iload 3, .aload 0, .iload 1, .bipush 0, .invokeinterface 206 3, .if_icmp .ge 66, .iload 2, .ifCond .eq 58, .aload 0, .iload 1, .bipush 14, .iload 3, .iadd, .invokeinterface 206 3, .ifCond .le 58, .aload 0, .iload 1, .bipush 8, .iload 3, .iadd, .invokeinterface 206 3, .aload 0, .iload 1, .bipush 2, .iload 3, .iadd, .invokeinterface 206 3, .if_icmp .ne 58, .bipush 1, .goto 59] ls st m := At.eq k214_8
theorem k214_58 : pg.1 214 58 = [.bipush 0, .jsr 59] := rfl
theorem a214_58 {tb : Tab} {d : Nat} {K : Out → AM → Prop} {ls st : List AV} {m : AM} : At tb d 214 K 58 ls st m = wpB tb (pg.2.1 214) (Runs tb pg d) K (At tb d 214 K) [.bipush 0, .jsr 59] ls st m := At.eq k214_58
theorem k214_59 : pg.1 214 59 = [.istore 2, .iinc 3 1, .goto 8] := rfl
theorem a214_59 {tb : Tab} {d : Nat} {K : Out → AM → Prop} {ls st : List AV} {m : AM} : At tb d 214 K 59 ls st m = wpB tb (pg.2.1 214) (Runs tb pg d) K (At tb d 214 K) [.istore 2, .iinc 3 1, .goto 8] ls st m := At.eq k214_59
theorem k214_66 : pg.1 214 66 = [.iload 2, .freturn] := rfl
theorem a214_66 {tb : Tab} {d : Nat} {K : Out → AM → Prop} {ls st : List AV} {m : AM} : At tb d 214 K 66 ls st m = wpB tb (pg.2.1 214) (Runs tb pg d) K (At tb d 214 K) [.iload 2, .freturn] ls st m := At.eq k214_66
theorem q_200 {v a b : Int} (hv : R32 v) (ha : R32 a) (hb : R32 b) (hK : ∀ r, r = (if a ≤ v ∧ v ≤ b then 1 else 0) → K (.inl (some (vi r))) m) : Runs tb pg (d + 1) 200 [vi v, vi a, vi b] m K := by
  refine Runs.of (al := [vi v, vi a, vi b]) (n := 0) trivial rfl rfl trivial ?_
  unfold R32 at hv ha hb
  simp only [w_iload, w_ifc, R32, cI, Int.reduceToNat, w_iconst, w_goto, w_fall, w_zreturn, a200_0, a200_14, a200_15, List.getElem?_cons_zero, List.getElem?_cons_succ, List.set_cons_zero, List.set_cons_succ, List.cons_append, List.nil_append, List.replicate_succ, List.replicate_zero, List.take_succ_cons, List.take_zero, List.drop_succ_cons, List.drop_zero, List.reverse_cons, List.reverse_nil, List.length_cons, List.length_nil, Option.toList, true_and, and_true, eq_self, ↓reduceIte, not_true_eq_false, not_false_eq_true]
  grind
theorem q_201 {a b : Int} (ha : R32 a) (hb : R32 b) (hK : ∀ r, r = (if a < b then a else b) → K (.inl (some (vi r))) m) : Runs tb pg (d + 1) 201 [vi a, vi b] m K := by
  refine Runs.of (al := [vi a, vi b]) (n := 0) trivial rfl rfl trivial ?_
  unfold R32 at ha hb
  simp only [w_iload, w_ifc, R32, cI, Int.reduceToNat, w_goto, w_fall, w_ireturn, a201_0, a201_9, a201_10, List.getElem?_cons_zero, List.getElem?_cons_succ, List.set_cons_zero, List.set_cons_succ, List.cons_append, List.nil_append, List.replicate_succ, List.replicate_zero, List.take_succ_cons, List.take_zero, List.drop_succ_cons, List.drop_zero, List.reverse_cons, List.reverse_nil, List.length_cons, List.length_nil, Option.toList, true_and, and_true, eq_self, ↓reduceIte, not_true_eq_false, not_false_eq_true]
  grind
theorem q_206 {p w : Int} (hB : BR S) (hp : 0 ≤ p ∧ p < 6) (hw : 0 ≤ w ∧ w < 20) (hK : -1 ≤ oR S p w → oR S p w ≤ 10000 → K (.inl (some (vi (oR S p w)))) (X S m)) : Runs tb pg (d + 1) 206 [vr 300, vi p, vi w] (X S m) K := by
  refine Runs.of (al := [vr 300, vi p, vi w]) (n := 0) ⟨300, _, _, rfl, xo_300⟩ rfl rfl trivial ?_
  have q := hB.1 (31 + 20 * p + w) (by omega)
  simp only [w_aload, x_g1001_300, w_iconst, w_iload, w_imul, w_iadd, x_iald, w_ialoads, w_ialoadw, w_ireturn, isA_301, isA_302, isA_303, isA_304, isA_305, isA_306, isA_307, isA_308, isA_309, isA_310, isA_311, isA_312, isA_313, isA_314, isA_315, len_301, len_302, len_303, len_304, len_305, len_306, len_307, len_308, len_309, len_310, len_311, len_312, len_313, len_314, len_315, Int.cast_ofNat_Int, a206_0, List.getElem?_cons_zero, List.getElem?_cons_succ, List.set_cons_zero, List.set_cons_succ, List.cons_append, List.nil_append, List.replicate_succ, List.replicate_zero, List.take_succ_cons, List.take_zero, List.drop_succ_cons, List.drop_zero, List.reverse_cons, List.reverse_nil, List.length_cons, List.length_nil, Option.toList, true_and, and_true, eq_self, ↓reduceIte, not_true_eq_false, not_false_eq_true]
  exact ⟨by omega, hK q.1 q.2⟩
theorem q_211 {p : Int} (hB : BR S) (hp : 0 ≤ p ∧ p < 6) (hK : ∀ r, r = (if oR S p 1 = -1 then 0 else 1) → K (.inl (some (vi r))) (X S m)) : Runs tb pg (d + 2) 211 [vr 300, vi p] (X S m) K := by
  refine Runs.of (al := [vr 300, vi p]) (n := 0) ⟨300, _, _, rfl, xo_300⟩ rfl rfl trivial ?_
  simp only [w_aload, w_iload, w_iconst, w_call, w_ifc, R32, cI, Int.reduceToNat, w_goto, w_fall, w_zreturn, a211_0, a211_14, a211_15, List.getElem?_cons_zero, List.getElem?_cons_succ, List.set_cons_zero, List.set_cons_succ, List.cons_append, List.nil_append, List.replicate_succ, List.replicate_zero, List.take_succ_cons, List.take_zero, List.drop_succ_cons, List.drop_zero, List.reverse_cons, List.reverse_nil, List.length_cons, List.length_nil, Option.toList, true_and, and_true, eq_self, ↓reduceIte, not_true_eq_false, not_false_eq_true]
  refine ⟨by omega, q_206 hB hp (by omega) fun q1 q2 => ?_⟩
  simp only [w_aload, w_iload, w_iconst, w_call, w_ifc, R32, cI, Int.reduceToNat, w_goto, w_fall, w_zreturn, a211_0, a211_14, a211_15, List.getElem?_cons_zero, List.getElem?_cons_succ, List.set_cons_zero, List.set_cons_succ, List.cons_append, List.nil_append, List.replicate_succ, List.replicate_zero, List.take_succ_cons, List.take_zero, List.drop_succ_cons, List.drop_zero, List.reverse_cons, List.reverse_nil, List.length_cons, List.length_nil, Option.toList, true_and, and_true, eq_self, ↓reduceIte, not_true_eq_false, not_false_eq_true]
  grind
def usedM (P : Int → Int → Int) (n f : Int) : Int := sumZ n fun p => if P p 1 = f then P p 0 else 0
theorem q_212 {f : Int} (hB : BR S) (hf : R32 f) (hK : ∀ r, r = usedM (oR S) (S 301 4) f → K (.inl (some (vi r))) (X S m)) : Runs tb pg (d + 2) 212 [vr 300, vi f] (X S m) K := by
  refine Runs.of (al := [vr 300, vi f]) (n := 2) ⟨300, _, _, rfl, xo_300⟩ rfl rfl trivial ?_
  unfold R32 at hf
  have b4 := hB.2.2.1
  simp only [w_iconst, w_istore, w_fall, Int.reduceToNat, w_iload, w_aload, x_g1001_300, x_iald, w_ialoads, w_ialoadw, w_ifc, R32, cI, w_call, w_goto, w_iadd, w_iinc, lgB, Nat.reduceSub, w_ireturn, isA_301, isA_302, isA_303, isA_304, isA_305, isA_306, isA_307, isA_308, isA_309, isA_310, isA_311, isA_312, isA_313, isA_314, isA_315, len_301, len_302, len_303, len_304, len_305, len_306, len_307, len_308, len_309, len_310, len_311, len_312, len_313, len_314, len_315, Int.cast_ofNat_Int, a212_0, a212_34, a212_35, a212_43, List.getElem?_cons_zero, List.getElem?_cons_succ, List.set_cons_zero, List.set_cons_succ, List.cons_append, List.nil_append, List.replicate_succ, List.replicate_zero, List.take_succ_cons, List.take_zero, List.drop_succ_cons, List.drop_zero, List.reverse_cons, List.reverse_nil, List.length_cons, List.length_nil, Option.toList, true_and, and_true, eq_self, ↓reduceIte, not_true_eq_false, not_false_eq_true]
  refine loopZ (fun i => ∀ a, a = usedM (oR S) i f → At tb (d + 1) 212 K 4 [vr 300, vi f, vi a, vi i] [] (X S m)) (S 301 4) (by omega) ?_ ?_ 0 rfl
  · intro i h0 h1 h9 a ha
    rw [a212_4]
    simp only [w_iconst, w_istore, w_fall, Int.reduceToNat, w_iload, w_aload, x_g1001_300, x_iald, w_ialoads, w_ialoadw, w_ifc, R32, cI, w_call, w_goto, w_iadd, w_iinc, lgB, Nat.reduceSub, w_ireturn, isA_301, isA_302, isA_303, isA_304, isA_305, isA_306, isA_307, isA_308, isA_309, isA_310, isA_311, isA_312, isA_313, isA_314, isA_315, len_301, len_302, len_303, len_304, len_305, len_306, len_307, len_308, len_309, len_310, len_311, len_312, len_313, len_314, len_315, Int.cast_ofNat_Int, a212_0, a212_34, a212_35, a212_43, List.getElem?_cons_zero, List.getElem?_cons_succ, List.set_cons_zero, List.set_cons_succ, List.cons_append, List.nil_append, List.replicate_succ, List.replicate_zero, List.take_succ_cons, List.take_zero, List.drop_succ_cons, List.drop_zero, List.reverse_cons, List.reverse_nil, List.length_cons, List.length_nil, Option.toList, true_and, and_true, eq_self, ↓reduceIte, not_true_eq_false, not_false_eq_true]
    refine ⟨by omega, fun _ => by omega, fun _ => ⟨by omega, q_206 hB ⟨h0, by omega⟩ (by omega) fun q1 q2 => ?_⟩⟩
    simp only [w_iconst, w_istore, w_fall, Int.reduceToNat, w_iload, w_aload, x_g1001_300, x_iald, w_ialoads, w_ialoadw, w_ifc, R32, cI, w_call, w_goto, w_iadd, w_iinc, lgB, Nat.reduceSub, w_ireturn, isA_301, isA_302, isA_303, isA_304, isA_305, isA_306, isA_307, isA_308, isA_309, isA_310, isA_311, isA_312, isA_313, isA_314, isA_315, len_301, len_302, len_303, len_304, len_305, len_306, len_307, len_308, len_309, len_310, len_311, len_312, len_313, len_314, len_315, Int.cast_ofNat_Int, a212_0, a212_34, a212_35, a212_43, List.getElem?_cons_zero, List.getElem?_cons_succ, List.set_cons_zero, List.set_cons_succ, List.cons_append, List.nil_append, List.replicate_succ, List.replicate_zero, List.take_succ_cons, List.take_zero, List.drop_succ_cons, List.drop_zero, List.reverse_cons, List.reverse_nil, List.length_cons, List.length_nil, Option.toList, true_and, and_true, eq_self, ↓reduceIte, not_true_eq_false, not_false_eq_true]
    refine ⟨by omega, fun e => h9 _ ?_, fun e => ⟨by omega, q_206 hB ⟨h0, by omega⟩ (by omega) fun q3 q4 => ?_⟩⟩
    · grind [usedM, sumZ_s]
    · simp only [w_iconst, w_istore, w_fall, Int.reduceToNat, w_iload, w_aload, x_g1001_300, x_iald, w_ialoads, w_ialoadw, w_ifc, R32, cI, w_call, w_goto, w_iadd, w_iinc, lgB, Nat.reduceSub, w_ireturn, isA_301, isA_302, isA_303, isA_304, isA_305, isA_306, isA_307, isA_308, isA_309, isA_310, isA_311, isA_312, isA_313, isA_314, isA_315, len_301, len_302, len_303, len_304, len_305, len_306, len_307, len_308, len_309, len_310, len_311, len_312, len_313, len_314, len_315, Int.cast_ofNat_Int, a212_0, a212_34, a212_35, a212_43, List.getElem?_cons_zero, List.getElem?_cons_succ, List.set_cons_zero, List.set_cons_succ, List.cons_append, List.nil_append, List.replicate_succ, List.replicate_zero, List.take_succ_cons, List.take_zero, List.drop_succ_cons, List.drop_zero, List.reverse_cons, List.reverse_nil, List.length_cons, List.length_nil, Option.toList, true_and, and_true, eq_self, ↓reduceIte, not_true_eq_false, not_false_eq_true]
      refine h9 _ ?_
      grind [usedM, sumZ_s]
  · intro a ha
    rw [a212_4]
    simp only [w_iconst, w_istore, w_fall, Int.reduceToNat, w_iload, w_aload, x_g1001_300, x_iald, w_ialoads, w_ialoadw, w_ifc, R32, cI, w_call, w_goto, w_iadd, w_iinc, lgB, Nat.reduceSub, w_ireturn, isA_301, isA_302, isA_303, isA_304, isA_305, isA_306, isA_307, isA_308, isA_309, isA_310, isA_311, isA_312, isA_313, isA_314, isA_315, len_301, len_302, len_303, len_304, len_305, len_306, len_307, len_308, len_309, len_310, len_311, len_312, len_313, len_314, len_315, Int.cast_ofNat_Int, a212_0, a212_34, a212_35, a212_43, List.getElem?_cons_zero, List.getElem?_cons_succ, List.set_cons_zero, List.set_cons_succ, List.cons_append, List.nil_append, List.replicate_succ, List.replicate_zero, List.take_succ_cons, List.take_zero, List.drop_succ_cons, List.drop_zero, List.reverse_cons, List.reverse_nil, List.length_cons, List.length_nil, Option.toList, true_and, and_true, eq_self, ↓reduceIte, not_true_eq_false, not_false_eq_true]
    grind
end Ref
