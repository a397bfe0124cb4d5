theorem k34_0 : pg.1 34 0 = [.aload 0, .invokespecial 0, .aload 0, .bipush 32, .newarray .int, .putstatic 205, .aload 0, .iload 1, .putfield 200, .aload 0, .aload 2, .putstatic 201, .aload 0, .aload 3, .putstatic 202, .aload 0, .aload 4, .putstatic 203, .aload 0, .aload 5, .putstatic 204, .return_] := rfl
theorem a34_0 {tb : Tab} {d : Nat} {K : Out → AM → Prop} {ls st : List AV} {m : AM} : At tb d 34 K 0 ls st m = wpB tb (pg.2.1 34) (Runs tb pg d) K (At tb d 34 K) [.aload 0, .invokespecial 0, .aload 0, .bipush 32, .newarray .int, .putstatic 205, .aload 0, .iload 1, .putfield 200, .aload 0, .aload 2, .putstatic 201, .aload 0, .aload 3, .putstatic 202, .aload 0, .aload 4, .putstatic 203, .aload 0, .aload 5, .putstatic 204, .return_] ls st m := At.eq k34_0
/-! ===== THE CLASS: a law is made ===== -/
/-- a law of lines q is laid into new cells -/
def NW (m m2 : AM) (q : List LL) : Prop := m2.2 = (m.2.1 + 6, m.2.2.1 + 6, m.2.2.2 + (6 + q.length + q.length + (q.length + 1) + (cdL q).length + 32)) ∧ (∀ a D, LWm m a D → LWm m2 a D) ∧ ∀ D : LawD, D.1 = q.length → lawL D = q → LWm m2 m.2.1 D
theorem X_new {S : Nat → Int → Int} {m : AM} {c : AC} {w : Nat} (h : 317 ≤ m.2.1) : mnew (X S m) c w = X S (mnew m c w) := by
  refine Prod.ext (funext fun b => ?_) rfl
  show (if b = m.2.1 then c else if b < 317 then cX b (S b) else m.1 b) = if b < 317 then cX b (S b) else if b = m.2.1 then c else m.1 b
  by_cases y : b < 317
  · rw [if_pos y, if_pos y, if_neg (by omega)]
  · rw [if_neg y, if_neg y]
theorem LWm_k {m m2 : AM} {a : Nat} {D : LawD} (h2 : m.2.1 ≤ m2.2.1) (h1 : ∀ b, b < m.2.1 → m2.1 b = m.1 b) (h : LWm m a D) : LWm m2 a D := by
  obtain ⟨h0, n, nc, k, u, b, c, s, ⟨d0, d1, d2, d3, d4, d5⟩, d6, d7⟩ := h
  exact ⟨by omega, n, nc, k, u, b, c, s, ⟨d0, (h1 _ (by omega)).trans d1, (h1 _ (by omega)).trans d2, (h1 _ (by omega)).trans d3, (h1 _ (by omega)).trans d4, (h1 _ (by omega)).trans d5⟩, (h1 _ (by omega)).trans d6, d7⟩
section mklaw
variable {tb : Tab} {d : Nat} {m : AM} {K : Out → AM → Prop} {S : Nat → Int → Int}
theorem w_383 {a : Nat} {n : Int} (ha : isA a 0) (hm : 317 ≤ m.2.1) (hn : 0 ≤ n ∧ n < 1000000) (hl : lenX a < 1000000) (hK : ∀ g : Nat → Int, (∀ j, j < n.toNat → g j = if j < lenX a then S a j else 0) → K (.inl (some (vr m.2.1))) (X S (mnew m (ca 0 n.toNat g) n.toNat))) : Runs tb pg (d + 1) 383 [vr a, vi n] (X S m) K := by
  refine r_383 (len := lenX a) (f := fun j => S a j) (by rw [X_1 ha.1, ha.2]) (by have := ha.1; show a < m.2.1; omega) hl hn.1 hn.2 (fun g hg => ?_)
  rw [X_new hm]
  exact hK g hg
theorem r_34 {a b1 b2 b3 b4 : Nat} {n : Int} (hm : m.1 a = co 2 [vi 0, vn, vn, vn, vn, vn]) (ha : a < m.2.1) (hK : K (.inl none) (mset (mnew m (ca 0 32 (fun _ => 0)) 32) a (co 2 [vi n, vr b1, vr b2, vr b3, vr b4, vr m.2.1]))) : Runs tb pg (d + 1) 34 [vr a, vi n, vr b1, vr b2, vr b3, vr b4] m K := by
  refine Runs.of (al := [vr a, vi n, vr b1, vr b2, vr b3, vr b4]) (n := 0) ⟨a, _, _, rfl, hm⟩ rfl rfl trivial ?_
  have z0 : (mnew m (ca 0 32 (fun _ => 0)) 32).1 a = co 2 [vi 0, vn, vn, vn, vn, vn] := by rw [mnew_1, if_neg (by omega)]; exact hm
  have mm : ∀ (c1 c2 : AC), mset (mset (mnew m (ca 0 32 (fun _ => 0)) 32) a c1) a c2 = mset (mnew m (ca 0 32 (fun _ => 0)) 32) a c2 := fun c1 c2 => mset_mset
  have zz : ∀ c1 : AC, (mset (mnew m (ca 0 32 (fun _ => 0)) 32) a c1).1 a = c1 := fun c1 => if_pos rfl
  rw [At.eq k34_0]
  simp only [w_aload, w_iload, w_iconst, w_init, w_newi, w_return, List.getElem?_cons_zero, List.getElem?_cons_succ, List.append_eq, List.cons_append, List.nil_append]
  refine ⟨by decide, ⟨by decide, by decide⟩, ?_⟩
  rw [show (32 : Int).toNat = 32 from rfl]
  rw [w_putr z0]
  simp only [w_aload, w_iload, List.getElem?_cons_zero, List.getElem?_cons_succ, List.cons_append, List.nil_append, List.set_cons_zero, List.set_cons_succ, Nat.reduceMod]
  refine ⟨by trivial, ?_⟩
  rw [w_putf (zz _), mm]
  simp only [w_aload, w_iload, List.getElem?_cons_zero, List.getElem?_cons_succ, List.cons_append, List.nil_append, List.set_cons_zero, List.set_cons_succ, Nat.reduceMod]
  refine ⟨by trivial, ?_⟩
  rw [w_putr (zz _), mm]
  simp only [w_aload, w_iload, List.getElem?_cons_zero, List.getElem?_cons_succ, List.cons_append, List.nil_append, List.set_cons_zero, List.set_cons_succ, Nat.reduceMod]
  refine ⟨by trivial, ?_⟩
  rw [w_putr (zz _), mm]
  simp only [w_aload, w_iload, List.getElem?_cons_zero, List.getElem?_cons_succ, List.cons_append, List.nil_append, List.set_cons_zero, List.set_cons_succ, Nat.reduceMod]
  refine ⟨by trivial, ?_⟩
  rw [w_putr (zz _), mm]
  simp only [w_aload, w_iload, List.getElem?_cons_zero, List.getElem?_cons_succ, List.cons_append, List.nil_append, List.set_cons_zero, List.set_cons_succ, Nat.reduceMod]
  refine ⟨by trivial, ?_⟩
  rw [w_putr (zz _), mm]
  simp only [w_return, List.set_cons_zero, List.set_cons_succ, Nat.reduceMod]
  refine ⟨by trivial, ?_⟩
  exact hK
theorem mk6 {c0 c1 c2 c3 c4 c5 cN : AC} {w0 w1 w2 w3 w4 w5 : Nat} (e : Nat) : (mset (mnew (mnew (mnew (mnew (mnew (mnew m c0 w0) c1 w1) c2 w2) c3 w3) c4 w4) c5 w5) m.2.1 cN).1 e = if e = m.2.1 then cN else if e = m.2.1 + 5 then c5 else if e = m.2.1 + 4 then c4 else if e = m.2.1 + 3 then c3 else if e = m.2.1 + 2 then c2 else if e = m.2.1 + 1 then c1 else if e = m.2.1 then c0 else m.1 e := rfl
theorem mk5 {c0 c1 c2 c3 c4 : AC} {w0 w1 w2 w3 w4 : Nat} (e : Nat) : (mnew (mnew (mnew (mnew (mnew m c0 w0) c1 w1) c2 w2) c3 w3) c4 w4).1 e = if e = m.2.1 + 4 then c4 else if e = m.2.1 + 3 then c3 else if e = m.2.1 + 2 then c2 else if e = m.2.1 + 1 then c1 else if e = m.2.1 then c0 else m.1 e := rfl
theorem mk50 {c0 c1 c2 c3 c4 : AC} {w0 w1 w2 w3 w4 : Nat} : (mnew (mnew (mnew (mnew (mnew m c0 w0) c1 w1) c2 w2) c3 w3) c4 w4).1 m.2.1 = c0 := by rw [mk5, if_neg (by omega), if_neg (by omega), if_neg (by omega), if_neg (by omega), if_pos rfl]
/-- what lies in the new cells -/
theorem NW_of {q : List LL} {k u b c : Nat → Int} (hq : q.length ≤ 12) (hl : (cdL q).length ≤ 400) (hm : 317 ≤ m.2.1) (hB : LB S q) (hC : CD S (cdL q)) (b12 : S 62 q.length = (cdL q).length)
    (hk : ∀ j, j < q.length → k j = S 60 j) (hu : ∀ j, j < q.length → u j = S 61 j) (hb : ∀ j, j < q.length + 1 → b j = S 62 j) (hc : ∀ j, j < (cdL q).length → c j = S 63 j) :
    NW m (mset (mnew (mnew (mnew (mnew (mnew (mnew m (co 2 [vi 0, vn, vn, vn, vn, vn]) 6) (ca 0 q.length k) q.length) (ca 0 q.length u) q.length) (ca 0 (q.length + 1) b) (q.length + 1)) (ca 0 (cdL q).length c) (cdL q).length) (ca 0 32 (fun _ => 0)) 32) m.2.1 (co 2 [vi q.length, vr (m.2.1 + 1), vr (m.2.1 + 2), vr (m.2.1 + 3), vr (m.2.1 + 4), vr (m.2.1 + 5)])) q := by
  refine ⟨?_, fun a D h => ?_, fun D h1 h2 => ?_⟩
  · simp only [mset_2, mnew_2]
    refine Prod.ext rfl (Prod.ext rfl ?_)
    show m.2.2.2 + 6 + q.length + q.length + (q.length + 1) + (cdL q).length + 32 = _
    simp only
    omega
  · refine LWm_k ?_ (fun e he => ?_) h
    · simp only [mset_2, mnew_2]; omega
    · rw [mk6, if_neg (by omega), if_neg (by omega), if_neg (by omega), if_neg (by omega), if_neg (by omega), if_neg (by omega), if_neg (by omega)]
  · refine ⟨by simp only [mset_2, mnew_2]; omega, q.length, (cdL q).length, k, u, b, c, fun _ => 0, ⟨hm, ?_, ?_, ?_, ?_, ?_⟩, ?_, h1.symm, by rw [h2], ?_, hl⟩
    · rw [mk6, if_pos rfl]
    · rw [mk6, if_neg (by omega), if_neg (by omega), if_neg (by omega), if_neg (by omega), if_neg (by omega), if_pos rfl]
    · rw [mk6, if_neg (by omega), if_neg (by omega), if_neg (by omega), if_neg (by omega), if_pos rfl]
    · rw [mk6, if_neg (by omega), if_neg (by omega), if_neg (by omega), if_pos rfl]
    · rw [mk6, if_neg (by omega), if_neg (by omega), if_pos rfl]
    · rw [mk6, if_neg (by omega), if_pos rfl]
    · rw [h2]
      intro i l hil
      have hi := (List.getElem?_eq_some_iff.mp hil).1
      obtain ⟨l1, l2, l3, l4⟩ := hB i l hil
      have bs := bgL_s hil
      have bl := bgL_le (q := q) (j := i + 1)
      have e1 : b (i + 1) = bgL q (i + 1) := by
        rw [hb (i + 1) (by omega)]
        by_cases y : i + 1 < q.length
        · obtain ⟨l', hl'⟩ : ∃ l', q[i + 1]? = some l' := ⟨_, List.getElem?_eq_getElem y⟩
          exact (hB (i + 1) l' hl').2.2.2
        · have e : i + 1 = q.length := by omega
          rw [e, b12, bgL_n]
      have e0 : b i = bgL q i := (hb i (by omega)).trans l4
      refine ⟨⟨(hk i hi).trans l1, l2⟩, (hu i hi).trans l3, ⟨by rw [e0]; omega, by rw [e1, e0, bs]; omega, by rw [e1]; omega⟩, fun j x hx => ?_⟩
      have g := cdL_g hil hx
      have gl := (List.getElem?_eq_some_iff.mp g).1
      rw [show (b i + (j : Int)).toNat = bgL q i + j by rw [e0]; omega, hc _ gl]
      exact hC.2 _ x g
/-- the lines with one more -/
theorem LB_x {T T2 T8 : Nat → Int → Int} {q : List LL} {i k v : Int} {c : List Int} (hB : LB T q) (hi : i = q.length) (h57 : T 57 5 = (cdL q).length) (hW : HW (upS T 62 i (T 57 5)) T2 i k v) (hk : 0 ≤ k ∧ k ≤ 2) (e60 : T8 60 = T2 60) (e61 : T8 61 = T2 61) (e62 : T8 62 = T2 62) : LB T8 (q ++ [(k, v, c)]) := by
  subst hi
  obtain ⟨w1, w2, w3, w4⟩ := hW
  have f62 : T2 62 = upS T 62 q.length (T 57 5) 62 := w1 62 (by decide) (by decide) (by decide)
  refine LB_1 (LB_f hB fun j hj => ?_) ?_ hk ?_ ?_
  · rw [e60, e61, e62, f62, upS_at, if_neg (by omega)]
    have g := w2 j (by omega)
    rw [g.1, g.2]
    exact ⟨congrFun (up_lit (by decide)) _, congrFun (up_lit (by decide)) _, rfl⟩
  · rw [e60]; exact w3
  · rw [e61]; exact w4
  · rw [e62, f62, upS_at, if_pos ⟨rfl, rfl⟩, h57, bgL_n]
theorem CD_h {T T2 : Nat → Int → Int} {q : List Int} {i j k v x : Int} (hC : CD T q) (hW : HW (upS T 62 i x) T2 j k v) : CD T2 q := by
  unfold CD
  rw [hW.1 57 (by decide) (by decide) (by decide), hW.1 63 (by decide) (by decide) (by decide), up_lit (by decide), up_lit (by decide)]
  exact hC
end mklaw
section Law7
variable {tb : Tab} {d : Nat} {m : AM} {K : Out → AM → Prop} {S : Nat → Int → Int}
theorem k39_0 : pg.1 39 0 = [.aload 0, .getfield 303, .iload 1, .aload 0, .getfield 305, .iastore, .new 2, .dup, .iload 1, .aload 0, .getfield 301, .iload 1, .invokeinterface 383 2, .aload 0, .getfield 302, .iload 1, .invokeinterface 383 2, .aload 0, .getfield 303, .iload 1, .bipush 1, .iadd, .invokeinterface 383 2, .aload 0, .getfield 304, .aload 0, .getfield 305, .invokeinterface 383 2, .invokeinterface 34 6, .areturn] := rfl
theorem a39_0 {tb : Tab} {d : Nat} {K : Out → AM → Prop} {ls st : List AV} {m : AM} : At tb d 39 K 0 ls st m = wpB tb (pg.2.1 39) (Runs tb pg d) K (At tb d 39 K) [.aload 0, .getfield 303, .iload 1, .aload 0, .getfield 305, .iastore, .new 2, .dup, .iload 1, .aload 0, .getfield 301, .iload 1, .invokeinterface 383 2, .aload 0, .getfield 302, .iload 1, .invokeinterface 383 2, .aload 0, .getfield 303, .iload 1, .bipush 1, .iadd, .invokeinterface 383 2, .aload 0, .getfield 304, .aload 0, .getfield 305, .invokeinterface 383 2, .invokeinterface 34 6, .areturn] ls st m := At.eq k39_0
theorem w_39 {i : Int} {q : List LL} (hi : i = q.length) (hq : q.length ≤ 12) (hB : LB S q) (hC : CD S (cdL q)) (hl : (cdL q).length ≤ 400) (hm : 317 ≤ m.2.1) (hD : tb.1 2 = [vi 0, vn, vn, vn, vn, vn]) (hK : ∀ m2, NW m m2 q → K (.inl (some (vr m.2.1))) (X (upS S 62 i (S 57 5)) m2)) : Runs tb pg (d + 2) 39 [vr 57, vi i] (X S m) K := by
  refine Runs.of (al := [vr 57, vi i]) (n := 0) ⟨57, _, _, rfl, xo_57⟩ rfl rfl trivial ?_
  have l62 : (lenX 62 : Int) = 13 := rfl
  have e5 := hC.1
  have i0 : 0 ≤ i ∧ i ≤ 12 := by omega
  have e57 : upS S 62 i (S 57 5) 57 5 = S 57 5 := congrFun (up_lit (by decide)) _
  have hB2 : LB (upS S 62 i (S 57 5)) q := LB_f hB (fun j hj => ⟨congrFun (up_lit (by decide)) _, congrFun (up_lit (by decide)) _, by rw [upS_at, if_neg (fun z => by omega)]⟩)
  have hC2 : CD (upS S 62 i (S 57 5)) (cdL q) := ⟨(congrFun (up_lit (by decide)) _).trans e5, fun j x hx => (congrFun (up_lit (by decide)) _).trans (hC.2 j x hx)⟩
  have b12 : upS S 62 i (S 57 5) 62 q.length = (cdL q).length := by rw [upS_at, if_pos ⟨rfl, hi.symm⟩]; exact e5
  repeat' (first | omega | (rw [X_new (show 317 ≤ m.2.1 + 1 + 1 + 1 + 1 + 1 by omega), X_seto hm]; refine hK _ ?_; have hi1 : i.toNat = q.length := (by omega); have hi2 : (i + 1).toNat = q.length + 1 := (by omega); have hi3 : (upS S 62 i (S 57 5) 57 5).toNat = (cdL q).length := (by rw [hC2.1]; omega); rw [hi1] at h60 h61; rw [hi2] at h62; rw [hi3] at h63; rw [hi1, hi2, hi3, show (i : Int) = (q.length : Int) from hi]; exact NW_of hq hl hm hB2 hC2 b12 (fun j hj => by rw [h60 j hj, if_pos (show j < 12 by omega)]) (fun j hj => by rw [h61 j hj, if_pos (show j < 12 by omega)]) (fun j hj => by rw [h62 j hj, if_pos (show j < 13 by omega)]) (fun j hj => by rw [h63 j hj, if_pos (show j < 400 by omega)])) | simp only [w_aload, x_g303_57, w_iload, x_g305_57, x_iast, w_new, w_dupi, w_dupr, x_g301_57, w_call, x_g302_57, w_iconst, w_iadd, x_g304_57, w_areturn, w_areturnn, isA_w1, isA_w2, isA_w3, isA_w4, isA_w5, isA_w6, isA_w7, isA_w8, isA_w10, isA_w11, isA_w12, isA_w14, isA_w15, isA_w16, len_w1, len_w2, len_w3, len_w4, len_w5, len_w6, len_w7, len_w8, len_w10, len_w11, len_w12, len_w14, len_w15, len_w16, Int.cast_ofNat_Int, a39_0, R32, List.getElem?_cons_zero, List.getElem?_cons_succ, List.set_cons_zero, List.set_cons_succ, List.cons_append, List.nil_append, List.replicate_succ, List.replicate_zero, List.take_succ_cons, List.take_zero, List.drop_succ_cons, List.drop_zero, List.reverse_cons, List.reverse_nil, List.length_cons, List.length_nil, Option.toList, true_and, and_true, eq_self, ↓reduceIte, not_true_eq_false, not_false_eq_true, true_or, or_true, upS_at, Int.reduceEq, Nat.reduceEqDiff, and_self, and_true, true_and, and_false, false_and, if_true, if_false, reduceIte, Int.reduceToNat, x_alen isA_62 (by decide), x_iast isA_62, l62] | (rw [hD, X_new hm]) | (refine w_383 isA_60 (show 317 ≤ m.2.1 + 1 by omega) ⟨by omega, by omega⟩ (by decide) (fun g60 h60 => ?_)) | (refine w_383 isA_61 (show 317 ≤ m.2.1 + 1 + 1 by omega) ⟨by omega, by omega⟩ (by decide) (fun g61 h61 => ?_)) | (refine w_383 isA_62 (show 317 ≤ m.2.1 + 1 + 1 + 1 by omega) ⟨by omega, by omega⟩ (by decide) (fun g62 h62 => ?_)) | (refine w_383 isA_63 (show 317 ≤ m.2.1 + 1 + 1 + 1 + 1 by omega) ⟨by omega, by omega⟩ (by decide) (fun g63 h63 => ?_)) | (refine r_34 (a := m.2.1) ((X_o hm).trans mk50) (show m.2.1 < m.2.1 + 1 + 1 + 1 + 1 + 1 by omega) ?_) | with_reducible refine And.intro ?_ ?_ | with_reducible intro _)
  all_goals (try (first | omega | (exfalso; assumption) | skip))
end Law7
