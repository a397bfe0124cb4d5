/-! ===== THE CLASS: the law, as it lies in the memory ===== -/
def LWc (m : AM) (a n nc : Nat) (k u b c : Nat → Int) : Prop := 317 ≤ a ∧ m.1 a = co 2 [vi n, vr (a + 1), vr (a + 2), vr (a + 3), vr (a + 4), vr (a + 5)] ∧ m.1 (a + 1) = ca 0 n k ∧ m.1 (a + 2) = ca 0 n u ∧ m.1 (a + 3) = ca 0 (n + 1) b ∧ m.1 (a + 4) = ca 0 nc c
section lawrules
variable {tb : Tab} {hs : Nat → Option (Nat × Nat)} {C : Nat → List AV → AM → (Out → AM → Prop) → Prop} {Q : Out → AM → Prop} {J : Nat → List AV → List AV → AM → Prop} {is : List Instr} {ls st : List AV} {m : AM} {S : Nat → Int → Int} {a n nc : Nat} {k u b c : Nat → Int} {q : AC} {j v : Int} {s : Nat → Int}
theorem lg_o {e : Nat} (h : 317 ≤ a) (he : e < 5) : (X S (mset m (a + 5) q)).1 (a + e) = m.1 (a + e) := by
  rw [X_o (by omega), mset_1, if_neg (by omega)]
theorem lg_0 (h : LWc m a n nc k u b c) : (X S (mset m (a + 5) q)).1 a = co 2 [vi n, vr (a + 1), vr (a + 2), vr (a + 3), vr (a + 4), vr (a + 5)] := (lg_o (e := 0) h.1 (by decide)).trans h.2.1
theorem lg_5 (h : 317 ≤ a) : (X S (mset m (a + 5) q)).1 (a + 5) = q := by
  rw [X_o (by omega), mset_1, if_pos rfl]
theorem lg_200 (h : LWc m a n nc k u b c) : wpB tb hs C Q J (.getfield 200 :: is) ls (vr a :: st) (X S (mset m (a + 5) q)) = wpB tb hs C Q J is ls (vi n :: st) (X S (mset m (a + 5) q)) := by
  rw [w_getf (lg_0 h) rfl]; exact propext (and_iff_right rfl)
theorem lg_201 (h : LWc m a n nc k u b c) : wpB tb hs C Q J (.getfield 201 :: is) ls (vr a :: st) (X S (mset m (a + 5) q)) = wpB tb hs C Q J is ls (vr (a + 1) :: st) (X S (mset m (a + 5) q)) := by
  rw [w_getf (lg_0 h) rfl]; exact propext (and_iff_right rfl)
theorem lg_202 (h : LWc m a n nc k u b c) : wpB tb hs C Q J (.getfield 202 :: is) ls (vr a :: st) (X S (mset m (a + 5) q)) = wpB tb hs C Q J is ls (vr (a + 2) :: st) (X S (mset m (a + 5) q)) := by
  rw [w_getf (lg_0 h) rfl]; exact propext (and_iff_right rfl)
theorem lg_203 (h : LWc m a n nc k u b c) : wpB tb hs C Q J (.getfield 203 :: is) ls (vr a :: st) (X S (mset m (a + 5) q)) = wpB tb hs C Q J is ls (vr (a + 3) :: st) (X S (mset m (a + 5) q)) := by
  rw [w_getf (lg_0 h) rfl]; exact propext (and_iff_right rfl)
theorem lg_204 (h : LWc m a n nc k u b c) : wpB tb hs C Q J (.getfield 204 :: is) ls (vr a :: st) (X S (mset m (a + 5) q)) = wpB tb hs C Q J is ls (vr (a + 4) :: st) (X S (mset m (a + 5) q)) := by
  rw [w_getf (lg_0 h) rfl]; exact propext (and_iff_right rfl)
theorem lg_205 (h : LWc m a n nc k u b c) : wpB tb hs C Q J (.getfield 205 :: is) ls (vr a :: st) (X S (mset m (a + 5) q)) = wpB tb hs C Q J is ls (vr (a + 5) :: st) (X S (mset m (a + 5) q)) := by
  rw [w_getf (lg_0 h) rfl]; exact propext (and_iff_right rfl)
theorem lg_a1 (h : LWc m a n nc k u b c) : wpB tb hs C Q J (.iaload :: is) ls (vi j :: vr (a + 1) :: st) (X S (mset m (a + 5) q)) = ((0 ≤ j ∧ j < n) ∧ wpB tb hs C Q J is ls (vi (k j.toNat) :: st) (X S (mset m (a + 5) q))) := w_iaload ((lg_o h.1 (by decide)).trans h.2.2.1)
theorem lg_a2 (h : LWc m a n nc k u b c) : wpB tb hs C Q J (.iaload :: is) ls (vi j :: vr (a + 2) :: st) (X S (mset m (a + 5) q)) = ((0 ≤ j ∧ j < n) ∧ wpB tb hs C Q J is ls (vi (u j.toNat) :: st) (X S (mset m (a + 5) q))) := w_iaload ((lg_o h.1 (by decide)).trans h.2.2.2.1)
theorem lg_a3 (h : LWc m a n nc k u b c) : wpB tb hs C Q J (.iaload :: is) ls (vi j :: vr (a + 3) :: st) (X S (mset m (a + 5) q)) = ((0 ≤ j ∧ j < (n : Int) + 1) ∧ wpB tb hs C Q J is ls (vi (b j.toNat) :: st) (X S (mset m (a + 5) q))) := w_iaload ((lg_o h.1 (by decide)).trans h.2.2.2.2.1)
theorem lg_a4 (h : LWc m a n nc k u b c) : wpB tb hs C Q J (.iaload :: is) ls (vi j :: vr (a + 4) :: st) (X S (mset m (a + 5) q)) = ((0 ≤ j ∧ j < nc) ∧ wpB tb hs C Q J is ls (vi (c j.toNat) :: st) (X S (mset m (a + 5) q))) := w_iaload ((lg_o h.1 (by decide)).trans h.2.2.2.2.2)
theorem lg_a5 (h : 317 ≤ a) : wpB tb hs C Q J (.iaload :: is) ls (vi j :: vr (a + 5) :: st) (X S (mset m (a + 5) (ca 0 32 s))) = ((0 ≤ j ∧ j < 32) ∧ wpB tb hs C Q J is ls (vi (s j.toNat) :: st) (X S (mset m (a + 5) (ca 0 32 s)))) := w_iaload (lg_5 h)
theorem lg_s5 (h : 317 ≤ a) : wpB tb hs C Q J (.iastore :: is) ls (vi v :: vi j :: vr (a + 5) :: st) (X S (mset m (a + 5) (ca 0 32 s))) = ((0 ≤ j ∧ j < 32) ∧ wpB tb hs C Q J is ls st (X S (mset m (a + 5) (ca 0 32 (up s j.toNat v))))) := by
  rw [w_iastore (lg_5 h), X_seto (by omega), mset_mset]; rfl
end lawrules
theorem mset_id {m : AM} {a : Nat} {c : AC} (h : m.1 a = c) : mset m a c = m := by
  refine Prod.ext (funext fun b => ?_) rfl
  show (if b = a then c else m.1 b) = m.1 b
  by_cases y : b = a
  · rw [if_pos y, y, h]
  · rw [if_neg y]
/-- the stack holds a list, its head on top -/
def stk (s : Nat → Int) (st : List Int) : Prop := ∀ (x : Int) (p q : List Int), st = p ++ x :: q → s q.length = x
theorem stk_0 {s : Nat → Int} : stk s [] := fun x p q h => by cases p <;> cases h
theorem stk_p {s : Nat → Int} {st : List Int} {v j : Int} (h : stk s st) (hj : j = st.length) : stk (up s j.toNat v) (v :: st) := fun x p q e => by
  have ej : j.toNat = st.length := by omega
  rw [ej]
  show (if q.length = st.length then v else s q.length) = x
  cases p with
  | nil =>
    have e1 := List.cons.inj e
    rw [← e1.2, if_pos rfl, e1.1]
  | cons y p =>
    have e1 := List.cons.inj e
    have el : st.length = (p ++ x :: q).length := congrArg List.length e1.2
    rw [List.length_append, List.length_cons] at el
    rw [if_neg (by omega)]
    exact h x p q e1.2
theorem stk_t {s : Nat → Int} {x : Int} {st : List Int} (h : stk s (x :: st)) : stk s st := fun y p q e => h y (x :: p) q (by rw [e]; rfl)
theorem stk_h {s : Nat → Int} {x : Int} {st : List Int} (h : stk s (x :: st)) : s st.length = x := h x [] st rfl
theorem sfL_at {fc : Int → Int} : ∀ (cs st : List Int), sfL fc cs st → ∀ (i : Nat) (x : Int), cs[i]? = some x → sf1 x (runL fc (cs.take i) st) ∧ runL fc (cs.take (i + 1)) st = stpL fc x (runL fc (cs.take i) st)
  | [], st, h, i, x, e => by cases e
  | y :: l, st, h, 0, x, e => by
    have e1 : y = x := Option.some.inj e
    subst e1
    exact ⟨h.1, rfl⟩
  | y :: l, st, h, i + 1, x, e => sfL_at l (stpL fc y st) h.2 i x e
theorem and01 {x y : Int} (hx : x = 0 ∨ x = 1) (hy : y = 0 ∨ y = 1) : andI x y = if x = 1 ∧ y = 1 then 1 else 0 := by
  rcases hx with h | h <;> rcases hy with g | g <;> subst h <;> subst g <;> decide
theorem or01 {x y : Int} (hx : x = 0 ∨ x = 1) (hy : y = 0 ∨ y = 1) : orI x y = if x = 1 ∨ y = 1 then 1 else 0 := by
  rcases hx with h | h <;> rcases hy with g | g <;> subst h <;> subst g <;> decide
section stp
variable {fc : Int → Int} {x y z : Int} {st q : List Int}
theorem stp_n (h : x < 1000) : stpL fc x st = x :: st := if_pos h
theorem stp_f (h : 1000 ≤ x ∧ x < 2000) : stpL fc x st = fc (x - 1000) :: st := by
  unfold stpL; rw [if_neg (by omega), if_pos h.2]
theorem stp_not (h : x = 2000) : stpL fc x (y :: q) = (1 - y) :: q := by subst h; rfl
theorem stp_2 (h : 2001 ≤ x) : stpL fc x (y :: z :: q) = (if x = 2001 then (if z = 1 ∧ y = 1 then 1 else 0) else if x = 2002 then (if z = 1 ∨ y = 1 then 1 else 0) else if x = 2003 then z + y else if x = 2004 then (if z < y then 1 else 0) else (if y < z then 1 else 0)) :: q := by
  unfold stpL
  rw [if_neg (by omega), if_neg (by omega)]
  show (if x = 2000 then _ else _) = _
  rw [if_neg (by omega)]
end stp
section Law36
variable {tb : Tab} {d : Nat} {m : AM} {K : Out → AM → Prop} {S : Nat → Int → Int} {w a n nc : Nat} {k u b c s : Nat → Int} {fc : Int → Int}
theorem k36_0 : pg.1 36 0 = [.bipush 0, .istore 3, .aload 0, .getfield 203, .iload 1, .iaload, .istore 4, .jsr 10] := rfl
theorem a36_0 {tb : Tab} {d : Nat} {K : Out → AM → Prop} {ls st : List AV} {m : AM} : At tb d 36 K 0 ls st m = wpB tb (pg.2.1 36) (Runs tb pg d) K (At tb d 36 K) [.bipush 0, .istore 3, .aload 0, .getfield 203, .iload 1, .iaload, .istore 4, .jsr 10] ls st m := At.eq k36_0
theorem k36_10 : pg.1 36 10 = [.iload 4, .aload 0, .getfield 203, .iload 1, .bipush 1, .iadd, .iaload, .if_icmp .ge 250, .aload 0, .getfield 204, .iload 4, .iaload, .istore 5, .iload 5, .bipush 2000, .if_icmp .ge 89, .iload 3, .bipush 32, .if_icmp .ge 54, .iload 5, .bipush 1010, .if_icmp .lt 56, .jsr 54] := rfl
theorem a36_10 {tb : Tab} {d : Nat} {K : Out → AM → Prop} {ls st : List AV} {m : AM} : At tb d 36 K 10 ls st m = wpB tb (pg.2.1 36) (Runs tb pg d) K (At tb d 36 K) [.iload 4, .aload 0, .getfield 203, .iload 1, .bipush 1, .iadd, .iaload, .if_icmp .ge 250, .aload 0, .getfield 204, .iload 4, .iaload, .istore 5, .iload 5, .bipush 2000, .if_icmp .ge 89, .iload 3, .bipush 32, .if_icmp .ge 54, .iload 5, .bipush 1010, .if_icmp .lt 56, .jsr 54] ls st m := At.eq k36_10
theorem k36_54 : pg.1 36 54 = [.bipush 0, .freturn] := rfl
theorem a36_54 {tb : Tab} {d : Nat} {K : Out → AM → Prop} {ls st : List AV} {m : AM} : At tb d 36 K 54 ls st m = wpB tb (pg.2.1 36) (Runs tb pg d) K (At tb d 36 K) [.bipush 0, .freturn] ls st m := At.eq k36_54
theorem k36_56 : pg.1 36 56 = [.aload 0, .getfield 205, .iload 3, .iload 5, .bipush 1000, .if_icmp .ge 74, .iload 5, .goto 82] := rfl
theorem a36_56 {tb : Tab} {d : Nat} {K : Out → AM → Prop} {ls st : List AV} {m : AM} : At tb d 36 K 56 ls st m = wpB tb (pg.2.1 36) (Runs tb pg d) K (At tb d 36 K) [.aload 0, .getfield 205, .iload 3, .iload 5, .bipush 1000, .if_icmp .ge 74, .iload 5, .goto 82] ls st m := At.eq k36_56
theorem k36_74 : pg.1 36 74 = [.aload 2, .iload 5, .bipush 1000, .isub, .iaload, .jsr 82] := rfl
theorem a36_74 {tb : Tab} {d : Nat} {K : Out → AM → Prop} {ls st : List AV} {m : AM} : At tb d 36 K 74 ls st m = wpB tb (pg.2.1 36) (Runs tb pg d) K (At tb d 36 K) [.aload 2, .iload 5, .bipush 1000, .isub, .iaload, .jsr 82] ls st m := At.eq k36_74
theorem k36_82 : pg.1 36 82 = [.iastore, .iinc 3 1, .goto 244] := rfl
theorem a36_82 {tb : Tab} {d : Nat} {K : Out → AM → Prop} {ls st : List AV} {m : AM} : At tb d 36 K 82 ls st m = wpB tb (pg.2.1 36) (Runs tb pg d) K (At tb d 36 K) [.iastore, .iinc 3 1, .goto 244] ls st m := At.eq k36_82
theorem k36_89 : pg.1 36 89 = [.iload 5, .bipush 2000, .if_icmp .ne 125, .iload 3, .bipush 1, .if_icmp .ge 104, .bipush 0, .freturn] := rfl
theorem a36_89 {tb : Tab} {d : Nat} {K : Out → AM → Prop} {ls st : List AV} {m : AM} : At tb d 36 K 89 ls st m = wpB tb (pg.2.1 36) (Runs tb pg d) K (At tb d 36 K) [.iload 5, .bipush 2000, .if_icmp .ne 125, .iload 3, .bipush 1, .if_icmp .ge 104, .bipush 0, .freturn] ls st m := At.eq k36_89
theorem k36_104 : pg.1 36 104 = [.aload 0, .getfield 205, .iload 3, .bipush 1, .isub, .bipush 1, .aload 0, .getfield 205, .iload 3, .bipush 1, .isub, .iaload, .isub, .iastore, .goto 244] := rfl
theorem a36_104 {tb : Tab} {d : Nat} {K : Out → AM → Prop} {ls st : List AV} {m : AM} : At tb d 36 K 104 ls st m = wpB tb (pg.2.1 36) (Runs tb pg d) K (At tb d 36 K) [.aload 0, .getfield 205, .iload 3, .bipush 1, .isub, .bipush 1, .aload 0, .getfield 205, .iload 3, .bipush 1, .isub, .iaload, .isub, .iastore, .goto 244] ls st m := At.eq k36_104
theorem k36_125 : pg.1 36 125 = [.iload 3, .bipush 2, .if_icmp .ge 132, .bipush 0, .freturn] := rfl
theorem a36_125 {tb : Tab} {d : Nat} {K : Out → AM → Prop} {ls st : List AV} {m : AM} : At tb d 36 K 125 ls st m = wpB tb (pg.2.1 36) (Runs tb pg d) K (At tb d 36 K) [.iload 3, .bipush 2, .if_icmp .ge 132, .bipush 0, .freturn] ls st m := At.eq k36_125
theorem k36_132 : pg.1 36 132 = [.iinc 3 (-1), .aload 0, .getfield 205, .iload 3, .bipush 1, .isub, .iaload, .istore 6, .aload 0, .getfield 205, .iload 3, .iaload, .istore 7, .aload 0, .getfield 205, .iload 3, .bipush 1, .isub, .iload 5, .bipush 2001, .if_icmp .ne 176, .iload 6, .iload 7, .iand, .goto 243] := rfl
theorem a36_132 {tb : Tab} {d : Nat} {K : Out → AM → Prop} {ls st : List AV} {m : AM} : At tb d 36 K 132 ls st m = wpB tb (pg.2.1 36) (Runs tb pg d) K (At tb d 36 K) [.iinc 3 (-1), .aload 0, .getfield 205, .iload 3, .bipush 1, .isub, .iaload, .istore 6, .aload 0, .getfield 205, .iload 3, .iaload, .istore 7, .aload 0, .getfield 205, .iload 3, .bipush 1, .isub, .iload 5, .bipush 2001, .if_icmp .ne 176, .iload 6, .iload 7, .iand, .goto 243] ls st m := At.eq k36_132
theorem k36_176 : pg.1 36 176 = [.iload 5, .bipush 2002, .if_icmp .ne 192, .iload 6, .iload 7, .ior, .goto 243] := rfl
theorem a36_176 {tb : Tab} {d : Nat} {K : Out → AM → Prop} {ls st : List AV} {m : AM} : At tb d 36 K 176 ls st m = wpB tb (pg.2.1 36) (Runs tb pg d) K (At tb d 36 K) [.iload 5, .bipush 2002, .if_icmp .ne 192, .iload 6, .iload 7, .ior, .goto 243] ls st m := At.eq k36_176
theorem k36_192 : pg.1 36 192 = [.iload 5, .bipush 2003, .if_icmp .ne 208, .iload 6, .iload 7, .iadd, .goto 243] := rfl
theorem a36_192 {tb : Tab} {d : Nat} {K : Out → AM → Prop} {ls st : List AV} {m : AM} : At tb d 36 K 192 ls st m = wpB tb (pg.2.1 36) (Runs tb pg d) K (At tb d 36 K) [.iload 5, .bipush 2003, .if_icmp .ne 208, .iload 6, .iload 7, .iadd, .goto 243] ls st m := At.eq k36_192
theorem k36_208 : pg.1 36 208 = [.iload 5, .bipush 2004, .if_icmp .ne 231, .iload 6, .iload 7, .if_icmp .ge 227, .bipush 1, .goto 243] := rfl
theorem a36_208 {tb : Tab} {d : Nat} {K : Out → AM → Prop} {ls st : List AV} {m : AM} : At tb d 36 K 208 ls st m = wpB tb (pg.2.1 36) (Runs tb pg d) K (At tb d 36 K) [.iload 5, .bipush 2004, .if_icmp .ne 231, .iload 6, .iload 7, .if_icmp .ge 227, .bipush 1, .goto 243] ls st m := At.eq k36_208
theorem k36_227 : pg.1 36 227 = [.bipush 0, .goto 243] := rfl
theorem a36_227 {tb : Tab} {d : Nat} {K : Out → AM → Prop} {ls st : List AV} {m : AM} : At tb d 36 K 227 ls st m = wpB tb (pg.2.1 36) (Runs tb pg d) K (At tb d 36 K) [.bipush 0, .goto 243] ls st m := At.eq k36_227
theorem k36_231 : pg.1 36 231 = [.iload 6, .iload 7, .if_icmp .le 242, .bipush 1, .goto 243] := rfl
theorem a36_231 {tb : Tab} {d : Nat} {K : Out → AM → Prop} {ls st : List AV} {m : AM} : At tb d 36 K 231 ls st m = wpB tb (pg.2.1 36) (Runs tb pg d) K (At tb d 36 K) [.iload 6, .iload 7, .if_icmp .le 242, .bipush 1, .goto 243] ls st m := At.eq k36_231
theorem k36_242 : pg.1 36 242 = [.bipush 0, .jsr 243] := rfl
theorem a36_242 {tb : Tab} {d : Nat} {K : Out → AM → Prop} {ls st : List AV} {m : AM} : At tb d 36 K 242 ls st m = wpB tb (pg.2.1 36) (Runs tb pg d) K (At tb d 36 K) [.bipush 0, .jsr 243] ls st m := At.eq k36_242
theorem k36_243 : pg.1 36 243 = [.iastore, .jsr 244] := rfl
theorem a36_243 {tb : Tab} {d : Nat} {K : Out → AM → Prop} {ls st : List AV} {m : AM} : At tb d 36 K 243 ls st m = wpB tb (pg.2.1 36) (Runs tb pg d) K (At tb d 36 K) [.iastore, .jsr 244] ls st m := At.eq k36_243
theorem k36_244 : pg.1 36 244 = [.iinc 4 1, .goto 10] := rfl
theorem a36_244 {tb : Tab} {d : Nat} {K : Out → AM → Prop} {ls st : List AV} {m : AM} : At tb d 36 K 244 ls st m = wpB tb (pg.2.1 36) (Runs tb pg d) K (At tb d 36 K) [.iinc 4 1, .goto 10] ls st m := At.eq k36_244
theorem k36_250 : pg.1 36 250 = [.iload 3, .ifCond .eq 263, .aload 0, .getfield 205, .bipush 0, .iaload, .ifCond .eq 267, .jsr 263] := rfl
theorem a36_250 {tb : Tab} {d : Nat} {K : Out → AM → Prop} {ls st : List AV} {m : AM} : At tb d 36 K 250 ls st m = wpB tb (pg.2.1 36) (Runs tb pg d) K (At tb d 36 K) [.iload 3, .ifCond .eq 263, .aload 0, .getfield 205, .bipush 0, .iaload, .ifCond .eq 267, .jsr 263] ls st m := At.eq k36_250
theorem k36_263 : pg.1 36 263 = [.bipush 1, .goto 268] := rfl
theorem a36_263 {tb : Tab} {d : Nat} {K : Out → AM → Prop} {ls st : List AV} {m : AM} : At tb d 36 K 263 ls st m = wpB tb (pg.2.1 36) (Runs tb pg d) K (At tb d 36 K) [.bipush 1, .goto 268] ls st m := At.eq k36_263
theorem k36_267 : pg.1 36 267 = [.bipush 0, .jsr 268] := rfl
theorem a36_267 {tb : Tab} {d : Nat} {K : Out → AM → Prop} {ls st : List AV} {m : AM} : At tb d 36 K 267 ls st m = wpB tb (pg.2.1 36) (Runs tb pg d) K (At tb d 36 K) [.bipush 0, .jsr 268] ls st m := At.eq k36_267
theorem k36_268 : pg.1 36 268 = [.freturn] := rfl
theorem a36_268 {tb : Tab} {d : Nat} {K : Out → AM → Prop} {ls st : List AV} {m : AM} : At tb d 36 K 268 ls st m = wpB tb (pg.2.1 36) (Runs tb pg d) K (At tb d 36 K) [.freturn] ls st m := At.eq k36_268
theorem w_36 {line : Int} (hw : isW w) (hc : LWc m a n nc k u b c) {cs : List Int} (hl : 0 ≤ line ∧ line < n) (hb : 0 ≤ b line.toNat ∧ b (line + 1).toNat = b line.toNat + cs.length ∧ b (line + 1).toNat ≤ nc ∧ nc ≤ 400) (hcs : ∀ (i : Nat) (x : Int), cs[i]? = some x → c (b line.toNat + i).toNat = x) (ho : cs = [] ∨ okE fc 17 1 cs) (hF : ∀ j, 0 ≤ j → j < 10 → S (w + 16) j = fc j) (hK : ∀ s v, v = (if valL fc cs ≠ 0 then 1 else 0) → K (.inl (some (vi v))) (X S (mset m (a + 5) (ca 0 32 s)))) : Runs tb pg (d + 1) 36 [vr a, vi line, vr (w + 16)] (X S (mset m (a + 5) (ca 0 32 s))) K := by
  have hsf : sfL fc cs [] := by
    rcases ho with y | ⟨v, _, _, _, y⟩
    · rw [y]; trivial
    · exact y [] (by decide)
  have hfin : ∀ (s : Nat → Int) (st : List Int), st = runL fc cs [] → stk s st → ((st.length : Int) = 0 ∧ valL fc cs ≠ 0) ∨ ((st.length : Int) ≠ 0 ∧ s 0 = valL fc cs ∧ -1 ≤ valL fc cs ∧ valL fc cs ≤ 1) := fun s st e e2 => by
    rcases ho with y | ⟨v, v1, _, v3, _⟩
    · left
      rw [e, y]
      exact ⟨rfl, by rw [valL_0]; decide⟩
    · right
      rw [v3 []] at e
      rw [valL_v v3]
      rw [e] at e2 ⊢
      exact ⟨(by show (((0 + 1 : Nat)) : Int) ≠ 0; decide), stk_h e2, v1⟩
  have hL10 : (fun i : Int => ∀ (z5 : AV) (z6 : AV) (z7 : AV) (st : List Int) (tp : Int) (zc : Int) (s : Nat → Int), (st = runL fc (cs.take i.toNat) []) → tp = (st.length : Int) → zc = b line.toNat + i → (tp ≤ 32) → (stk s st) → At tb d 36 K 10 [vr a, vi line, vr (w + 16), vi tp, vi zc, z5, z6, z7] [] (X S (mset m (a + 5) (ca 0 32 s)))) 0 := by
    refine loopZ (fun i : Int => ∀ (z5 : AV) (z6 : AV) (z7 : AV) (st : List Int) (tp : Int) (zc : Int) (s : Nat → Int), (st = runL fc (cs.take i.toNat) []) → tp = (st.length : Int) → zc = b line.toNat + i → (tp ≤ 32) → (stk s st) → At tb d 36 K 10 [vr a, vi line, vr (w + 16), vi tp, vi zc, z5, z6, z7] [] (X S (mset m (a + 5) (ca 0 32 s)))) ((cs.length : Int)) (by omega) ?_ ?_
    · intro i h0 h1 h9 z5 z6 z7 st tp zc s hst htp hzc ht2 hs
      subst hzc
      obtain ⟨x, hx⟩ : ∃ x, cs[i.toNat]? = some x := ⟨_, List.getElem?_eq_getElem (by omega)⟩
      have hcx := hcs _ x hx
      rw [Int.toNat_of_nonneg h0] at hcx
      obtain ⟨f1, nx⟩ := sfL_at cs [] hsf _ x hx
      rw [← hst] at f1 nx
      rw [show i.toNat + 1 = (i + 1).toNat by omega] at nx
      have hz : x < 1000 ∨ (1000 ≤ x ∧ x < 2000) ∨ (x = 2000 ∧ ∃ y q, st = y :: q ∧ (y = 0 ∨ y = 1) ∧ tp = q.length + 1 ∧ s (tp - 1).toNat = y) ∨ (2001 ≤ x ∧ x ≤ 2005 ∧ ∃ y y2 q, st = y :: y2 :: q ∧ tp = q.length + 2 ∧ s (tp + -1).toNat = y ∧ s (tp + -1 - 1).toNat = y2 ∧ (-1000000000 ≤ y ∧ y ≤ 1000000000) ∧ (-1000000000 ≤ y2 ∧ y2 ≤ 1000000000) ∧ (x ≤ 2002 → (y = 0 ∨ y = 1) ∧ (y2 = 0 ∨ y2 = 1))) := by
        rcases (show x < 1000 ∨ (1000 ≤ x ∧ x < 2000) ∨ x = 2000 ∨ 2001 ≤ x by omega) with z | z | z | z
        · exact Or.inl z
        · exact Or.inr (Or.inl z)
        · obtain ⟨y, q, e, g⟩ := f1.2.1 z
          rw [e] at htp hs
          have l1 : tp = q.length + 1 := htp
          exact Or.inr (Or.inr (Or.inl ⟨z, y, q, e, g, l1, (by rw [show (tp - 1).toNat = q.length by omega]; exact stk_h hs)⟩))
        · obtain ⟨g, y, y2, q, e, g1, g2, g3⟩ := f1.2.2 z
          rw [e] at htp hs
          have l1 : tp = ((q.length + 1 + 1 : Nat) : Int) := htp
          exact Or.inr (Or.inr (Or.inr ⟨z, g, y, y2, q, e, by omega, (by rw [show (tp + -1).toNat = (y2 :: q).length by show _ = q.length + 1; omega]; exact stk_h hs), (by rw [show (tp + -1 - 1).toNat = q.length by omega]; exact stk_h (stk_t hs)), g1, g2, g3⟩))
      have hs4 := f1.1
      rcases hz with z | z | ⟨z, y, q, e, g1, g2, g3⟩ | ⟨z, z9, y, y2, q, e, g1, g2, g3, g4, g5, g6⟩
      all_goals rw [a36_10]
      repeat' (first | omega | with_reducible refine h9 _ _ _ (stpL fc x st) _ _ _ nx.symm ?_ ?_ ?_ ?_ | simp only [w_iconst, w_istore, w_aload, w_iload, x_iald, w_ialoads, w_ialoadw, w_fall, Int.reduceToNat, w_iadd, w_ifc, cI, w_zreturn, w_goto, w_isub, x_iast, w_iinc, lgB, Nat.reduceSub, w_iand, w_ior, w_if, isA_w1, isA_w2, isA_w3, isA_w4, isA_w5, isA_w6, isA_w7, isA_w8, isA_w10, isA_w11, isA_w12, isA_w14, isA_w15, isA_w16, len_w1, len_w2, len_w3, len_w4, len_w5, len_w6, len_w7, len_w8, len_w10, len_w11, len_w12, len_w14, len_w15, len_w16, Int.cast_ofNat_Int, a36_0, a36_54, a36_56, a36_74, a36_82, a36_89, a36_104, a36_125, a36_132, a36_176, a36_192, a36_208, a36_227, a36_231, a36_242, a36_243, a36_244, a36_250, a36_263, a36_267, a36_268, R32, List.getElem?_cons_zero, List.getElem?_cons_succ, List.set_cons_zero, List.set_cons_succ, List.cons_append, List.nil_append, List.replicate_succ, List.replicate_zero, List.take_succ_cons, List.take_zero, List.drop_succ_cons, List.drop_zero, List.reverse_cons, List.reverse_nil, List.length_cons, List.length_nil, Option.toList, true_and, and_true, eq_self, ↓reduceIte, not_true_eq_false, not_false_eq_true, true_or, or_true, lg_200 hc, lg_201 hc, lg_202 hc, lg_203 hc, lg_204 hc, lg_205 hc, lg_a1 hc, lg_a2 hc, lg_a3 hc, lg_a4 hc, lg_a5 hc.1, lg_s5 hc.1, hw] | with_reducible refine And.intro ?_ ?_ | with_reducible intro _)
      all_goals (try (first | omega | contradiction | (rw [e, stp_not z]; first | (show _ = ((q.length + 1 : Nat) : Int); omega) | (rw [g3]; rw [e] at hs; exact stk_p (stk_t hs) (by omega))) | (rw [e, stp_2 z]; (show _ = ((q.length + 1 : Nat) : Int)); omega) | (rw [e] at hs; rw [e, stp_2 z]; (try rw [g2]); (try rw [g3]); have zz := stk_t (stk_t hs); first | (rw [if_pos (by omega), and01 (by omega) (by omega)]; exact stk_p zz (by omega)) | (rw [if_neg (by omega), if_pos (by omega), or01 (by omega) (by omega)]; exact stk_p zz (by omega)) | (rw [if_neg (by omega), if_neg (by omega), if_pos (by omega)]; exact stk_p zz (by omega)) | (rw [if_neg (by omega), if_neg (by omega), if_neg (by omega), if_pos (by omega), if_pos (by omega)]; exact stk_p zz (by omega)) | (rw [if_neg (by omega), if_neg (by omega), if_neg (by omega), if_pos (by omega), if_neg (by omega)]; exact stk_p zz (by omega)) | (rw [if_neg (by omega), if_neg (by omega), if_neg (by omega), if_neg (by omega), if_pos (by omega)]; exact stk_p zz (by omega)) | (rw [if_neg (by omega), if_neg (by omega), if_neg (by omega), if_neg (by omega), if_neg (by omega)]; exact stk_p zz (by omega))) | (rw [stp_n (by omega)]; first | (show _ = ((st.length + 1 : Nat) : Int); omega) | (rw [hcx]; exact stk_p hs htp)) | (rw [stp_f (by omega), ← hF (x - 1000) (by omega) (by omega)]; first | (show _ = ((st.length + 1 : Nat) : Int); omega) | (rw [hcx]; exact stk_p hs htp))))
    · intro z5 z6 z7 st tp zc s hst htp hzc ht2 hs
      subst hzc
      rw [Int.toNat_natCast, List.take_length] at hst
      have hf := hfin s st hst hs
      rw [a36_10]
      repeat' (first | omega | (refine hK s _ ?_) | simp only [w_iconst, w_istore, w_aload, w_iload, x_iald, w_ialoads, w_ialoadw, w_fall, Int.reduceToNat, w_iadd, w_ifc, cI, w_zreturn, w_goto, w_isub, x_iast, w_iinc, lgB, Nat.reduceSub, w_iand, w_ior, w_if, isA_w1, isA_w2, isA_w3, isA_w4, isA_w5, isA_w6, isA_w7, isA_w8, isA_w10, isA_w11, isA_w12, isA_w14, isA_w15, isA_w16, len_w1, len_w2, len_w3, len_w4, len_w5, len_w6, len_w7, len_w8, len_w10, len_w11, len_w12, len_w14, len_w15, len_w16, Int.cast_ofNat_Int, a36_0, a36_54, a36_56, a36_74, a36_82, a36_89, a36_104, a36_125, a36_132, a36_176, a36_192, a36_208, a36_227, a36_231, a36_242, a36_243, a36_244, a36_250, a36_263, a36_267, a36_268, R32, List.getElem?_cons_zero, List.getElem?_cons_succ, List.set_cons_zero, List.set_cons_succ, List.cons_append, List.nil_append, List.replicate_succ, List.replicate_zero, List.take_succ_cons, List.take_zero, List.drop_succ_cons, List.drop_zero, List.reverse_cons, List.reverse_nil, List.length_cons, List.length_nil, Option.toList, true_and, and_true, eq_self, ↓reduceIte, not_true_eq_false, not_false_eq_true, true_or, or_true, lg_200 hc, lg_201 hc, lg_202 hc, lg_203 hc, lg_204 hc, lg_205 hc, lg_a1 hc, lg_a2 hc, lg_a3 hc, lg_a4 hc, lg_a5 hc.1, lg_s5 hc.1, hw] | with_reducible refine And.intro ?_ ?_ | with_reducible intro _)
      all_goals (try (first | omega | contradiction | (rw [if_pos (by omega)]) | (rw [if_neg (by omega)])))
  refine Runs.of (al := [vr a, vi line, vr (w + 16)]) (n := 5) ⟨a, _, _, rfl, lg_0 hc⟩ rfl rfl trivial ?_
  repeat' (first | omega | with_reducible refine hL10 _ _ _ [] _ _ _ ?_ ?_ ?_ ?_ ?_ | simp only [w_iconst, w_istore, w_aload, w_iload, x_iald, w_ialoads, w_ialoadw, w_fall, Int.reduceToNat, w_iadd, w_ifc, cI, w_zreturn, w_goto, w_isub, x_iast, w_iinc, lgB, Nat.reduceSub, w_iand, w_ior, w_if, isA_w1, isA_w2, isA_w3, isA_w4, isA_w5, isA_w6, isA_w7, isA_w8, isA_w10, isA_w11, isA_w12, isA_w14, isA_w15, isA_w16, len_w1, len_w2, len_w3, len_w4, len_w5, len_w6, len_w7, len_w8, len_w10, len_w11, len_w12, len_w14, len_w15, len_w16, Int.cast_ofNat_Int, a36_0, a36_54, a36_56, a36_74, a36_82, a36_89, a36_104, a36_125, a36_132, a36_176, a36_192, a36_208, a36_227, a36_231, a36_242, a36_243, a36_244, a36_250, a36_263, a36_267, a36_268, R32, List.getElem?_cons_zero, List.getElem?_cons_succ, List.set_cons_zero, List.set_cons_succ, List.cons_append, List.nil_append, List.replicate_succ, List.replicate_zero, List.take_succ_cons, List.take_zero, List.drop_succ_cons, List.drop_zero, List.reverse_cons, List.reverse_nil, List.length_cons, List.length_nil, Option.toList, true_and, and_true, eq_self, ↓reduceIte, not_true_eq_false, not_false_eq_true, true_or, or_true, lg_200 hc, lg_201 hc, lg_202 hc, lg_203 hc, lg_204 hc, lg_205 hc, lg_a1 hc, lg_a2 hc, lg_a3 hc, lg_a4 hc, lg_a5 hc.1, lg_s5 hc.1, hw] | with_reducible refine And.intro ?_ ?_ | with_reducible intro _)
  all_goals (try (first | omega | (exfalso; assumption) | rfl | exact stk_0))
end Law36
