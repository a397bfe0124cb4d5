theorem k34_0 : pg.1 34 0 = [.aload 0, .invokespecial 0, .aload 0, .bipush 32, .newarray .int, .putstatic 205, .aload 0, .iload 1, .putfield 200, .aload 0, .aload 2, .putstatic 201, .aload 0, .aload 3, .putstatic 202, .aload 0, .aload 4, .putstatic 203, .aload 0, .aload 5, .putstatic 204, .return_] := rfl
theorem a34_0 {tb : Tab} {d : Nat} {K : Out → AM → Prop} {ls st : List AV} {m : AM} : At tb d 34 K 0 ls st m = wpB tb (pg.2.1 34) (Runs tb pg d) K (At tb d 34 K) [.aload 0, .invokespecial 0, .aload 0, .bipush 32, .newarray .int, .putstatic 205, .aload 0, .iload 1, .putfield 200, .aload 0, .aload 2, .putstatic 201, .aload 0, .aload 3, .putstatic 202, .aload 0, .aload 4, .putstatic 203, .aload 0, .aload 5, .putstatic 204, .return_] ls st m := At.eq k34_0
/-! ===== THE CLASS: a law is made ===== -/
/-- a law of lines q is laid into new cells -/
def NW (m m2 : AM) (q : List LL) : Prop := (m2.2 = (m.2.1 + 6, m.2.2.1 + 6, m.2.2.2 + (6 + q.length + q.length + (q.length + 1) + (cdL q).length + 32)) ∧ q.length ≤ 12 ∧ (cdL q).length ≤ 400) ∧ (∀ a D, LWm m a D → LWm m2 a D) ∧ ∀ D : LawD, D.1 = q.length → lawL D = q → LWm m2 m.2.1 D
theorem X_new {S : Nat → Int → Int} {m : AM} {c : AC} {w : Nat} (h : 317 ≤ m.2.1) : mnew (X S m) c w = X S (mnew m c w) := by
  refine Prod.ext (funext fun b => ?_) rfl
  show (if b = m.2.1 then c else if b < 317 then cX b (S b) else m.1 b) = if b < 317 then cX b (S b) else if b = m.2.1 then c else m.1 b
  by_cases y : b < 317
  · rw [if_pos y, if_pos y, if_neg (by omega)]
  · rw [if_neg y, if_neg y]
theorem LWm_k {m m2 : AM} {a : Nat} {D : LawD} (h2 : m.2.1 ≤ m2.2.1) (h1 : ∀ b, b < m.2.1 → m2.1 b = m.1 b) (h : LWm m a D) : LWm m2 a D := by
  obtain ⟨h0, n, nc, k, u, b, c, s, ⟨d0, d1, d2, d3, d4, d5⟩, d6, d7⟩ := h
  exact ⟨by omega, n, nc, k, u, b, c, s, ⟨d0, (h1 _ (by omega)).trans d1, (h1 _ (by omega)).trans d2, (h1 _ (by omega)).trans d3, (h1 _ (by omega)).trans d4, (h1 _ (by omega)).trans d5⟩, (h1 _ (by omega)).trans d6, d7⟩
section mklaw
variable {tb : Tab} {d : Nat} {m : AM} {K : Out → AM → Prop} {S : Nat → Int → Int}
theorem w_383 {a : Nat} {n : Int} (ha : isA a 0) (hm : 317 ≤ m.2.1) (hn : 0 ≤ n ∧ n < 1000000) (hl : lenX a < 1000000) (hK : ∀ g : Nat → Int, (∀ j, j < n.toNat → g j = if j < lenX a then S a j else 0) → K (.inl (some (vr m.2.1))) (X S (mnew m (ca 0 n.toNat g) n.toNat))) : Runs tb pg (d + 1) 383 [vr a, vi n] (X S m) K := by
  refine r_383 (len := lenX a) (f := fun j => S a j) (by rw [X_1 ha.1, ha.2]) (by have := ha.1; show a < m.2.1; omega) hl hn.1 hn.2 (fun g hg => ?_)
  rw [X_new hm]
  exact hK g hg
theorem r_34 {a b1 b2 b3 b4 : Nat} {n : Int} (hm : m.1 a = co 2 [vi 0, vn, vn, vn, vn, vn]) (ha : a < m.2.1) (hK : K (.inl none) (mset (mnew m (ca 0 32 (fun _ => 0)) 32) a (co 2 [vi n, vr b1, vr b2, vr b3, vr b4, vr m.2.1]))) : Runs tb pg (d + 1) 34 [vr a, vi n, vr b1, vr b2, vr b3, vr b4] m K := by
  refine Runs.of (al := [vr a, vi n, vr b1, vr b2, vr b3, vr b4]) (n := 0) ⟨a, _, _, rfl, hm⟩ rfl rfl trivial ?_
  have z0 : (mnew m (ca 0 32 (fun _ => 0)) 32).1 a = co 2 [vi 0, vn, vn, vn, vn, vn] := by rw [mnew_1, if_neg (by omega)]; exact hm
  have mm : ∀ (c1 c2 : AC), mset (mset (mnew m (ca 0 32 (fun _ => 0)) 32) a c1) a c2 = mset (mnew m (ca 0 32 (fun _ => 0)) 32) a c2 := fun c1 c2 => mset_mset
  have zz : ∀ c1 : AC, (mset (mnew m (ca 0 32 (fun _ => 0)) 32) a c1).1 a = c1 := fun c1 => if_pos rfl
  rw [At.eq k34_0]
  simp only [w_aload, w_iload, w_iconst, w_init, w_newi, w_return, List.getElem?_cons_zero, List.getElem?_cons_succ, List.append_eq, List.cons_append, List.nil_append]
  refine ⟨by decide, ⟨by decide, by decide⟩, ?_⟩
  rw [show (32 : Int).toNat = 32 from rfl]
  rw [w_putr z0]
  simp only [w_aload, w_iload, List.getElem?_cons_zero, List.getElem?_cons_succ, List.cons_append, List.nil_append, List.set_cons_zero, List.set_cons_succ, Nat.reduceMod]
  refine ⟨by trivial, ?_⟩
  rw [w_putf (zz _), mm]
  simp only [w_aload, w_iload, List.getElem?_cons_zero, List.getElem?_cons_succ, List.cons_append, List.nil_append, List.set_cons_zero, List.set_cons_succ, Nat.reduceMod]
  refine ⟨by trivial, ?_⟩
  rw [w_putr (zz _), mm]
  simp only [w_aload, w_iload, List.getElem?_cons_zero, List.getElem?_cons_succ, List.cons_append, List.nil_append, List.set_cons_zero, List.set_cons_succ, Nat.reduceMod]
  refine ⟨by trivial, ?_⟩
  rw [w_putr (zz _), mm]
  simp only [w_aload, w_iload, List.getElem?_cons_zero, List.getElem?_cons_succ, List.cons_append, List.nil_append, List.set_cons_zero, List.set_cons_succ, Nat.reduceMod]
  refine ⟨by trivial, ?_⟩
  rw [w_putr (zz _), mm]
  simp only [w_aload, w_iload, List.getElem?_cons_zero, List.getElem?_cons_succ, List.cons_append, List.nil_append, List.set_cons_zero, List.set_cons_succ, Nat.reduceMod]
  refine ⟨by trivial, ?_⟩
  rw [w_putr (zz _), mm]
  simp only [w_return, List.set_cons_zero, List.set_cons_succ, Nat.reduceMod]
  refine ⟨by trivial, ?_⟩
  exact hK
theorem mk6 {c0 c1 c2 c3 c4 c5 cN : AC} {w0 w1 w2 w3 w4 w5 : Nat} (e : Nat) : (mset (mnew (mnew (mnew (mnew (mnew (mnew m c0 w0) c1 w1) c2 w2) c3 w3) c4 w4) c5 w5) m.2.1 cN).1 e = if e = m.2.1 then cN else if e = m.2.1 + 5 then c5 else if e = m.2.1 + 4 then c4 else if e = m.2.1 + 3 then c3 else if e = m.2.1 + 2 then c2 else if e = m.2.1 + 1 then c1 else if e = m.2.1 then c0 else m.1 e := rfl
theorem mk5 {c0 c1 c2 c3 c4 : AC} {w0 w1 w2 w3 w4 : Nat} (e : Nat) : (mnew (mnew (mnew (mnew (mnew m c0 w0) c1 w1) c2 w2) c3 w3) c4 w4).1 e = if e = m.2.1 + 4 then c4 else if e = m.2.1 + 3 then c3 else if e = m.2.1 + 2 then c2 else if e = m.2.1 + 1 then c1 else if e = m.2.1 then c0 else m.1 e := rfl
theorem mk50 {c0 c1 c2 c3 c4 : AC} {w0 w1 w2 w3 w4 : Nat} : (mnew (mnew (mnew (mnew (mnew m c0 w0) c1 w1) c2 w2) c3 w3) c4 w4).1 m.2.1 = c0 := by rw [mk5, if_neg (by omega), if_neg (by omega), if_neg (by omega), if_neg (by omega), if_pos rfl]
/-- what lies in the new cells -/
theorem NW_of {q : List LL} {k u b c : Nat → Int} (hq : q.length ≤ 12) (hl : (cdL q).length ≤ 400) (hm : 317 ≤ m.2.1) (hB : LB S q) (hC : CD S (cdL q)) (b12 : S 62 q.length = (cdL q).length)
    (hk : ∀ j, j < q.length → k j = S 60 j) (hu : ∀ j, j < q.length → u j = S 61 j) (hb : ∀ j, j < q.length + 1 → b j = S 62 j) (hc : ∀ j, j < (cdL q).length → c j = S 63 j) :
    NW m (mset (mnew (mnew (mnew (mnew (mnew (mnew m (co 2 [vi 0, vn, vn, vn, vn, vn]) 6) (ca 0 q.length k) q.length) (ca 0 q.length u) q.length) (ca 0 (q.length + 1) b) (q.length + 1)) (ca 0 (cdL q).length c) (cdL q).length) (ca 0 32 (fun _ => 0)) 32) m.2.1 (co 2 [vi q.length, vr (m.2.1 + 1), vr (m.2.1 + 2), vr (m.2.1 + 3), vr (m.2.1 + 4), vr (m.2.1 + 5)])) q := by
  refine ⟨⟨?_, hq, hl⟩, fun a D h => ?_, fun D h1 h2 => ?_⟩
  · simp only [mset_2, mnew_2]
    refine Prod.ext rfl (Prod.ext rfl ?_)
    show m.2.2.2 + 6 + q.length + q.length + (q.length + 1) + (cdL q).length + 32 = _
    simp only
    omega
  · refine LWm_k ?_ (fun e he => ?_) h
    · simp only [mset_2, mnew_2]; omega
    · rw [mk6, if_neg (by omega), if_neg (by omega), if_neg (by omega), if_neg (by omega), if_neg (by omega), if_neg (by omega), if_neg (by omega)]
  · refine ⟨by simp only [mset_2, mnew_2]; omega, q.length, (cdL q).length, k, u, b, c, fun _ => 0, ⟨hm, ?_, ?_, ?_, ?_, ?_⟩, ?_, h1.symm, by rw [h2], ?_, hl⟩
    · rw [mk6, if_pos rfl]
    · rw [mk6, if_neg (by omega), if_neg (by omega), if_neg (by omega), if_neg (by omega), if_neg (by omega), if_pos rfl]
    · rw [mk6, if_neg (by omega), if_neg (by omega), if_neg (by omega), if_neg (by omega), if_pos rfl]
    · rw [mk6, if_neg (by omega), if_neg (by omega), if_neg (by omega), if_pos rfl]
    · rw [mk6, if_neg (by omega), if_neg (by omega), if_pos rfl]
    · rw [mk6, if_neg (by omega), if_pos rfl]
    · rw [h2]
      intro i l hil
      have hi := (List.getElem?_eq_some_iff.mp hil).1
      obtain ⟨l1, l2, l3, l4⟩ := hB i l hil
      have bs := bgL_s hil
      have bl := bgL_le (q := q) (j := i + 1)
      have e1 : b (i + 1) = bgL q (i + 1) := by
        rw [hb (i + 1) (by omega)]
        by_cases y : i + 1 < q.length
        · obtain ⟨l', hl'⟩ : ∃ l', q[i + 1]? = some l' := ⟨_, List.getElem?_eq_getElem y⟩
          exact (hB (i + 1) l' hl').2.2.2
        · have e : i + 1 = q.length := by omega
          rw [e, b12, bgL_n]
      have e0 : b i = bgL q i := (hb i (by omega)).trans l4
      refine ⟨⟨(hk i hi).trans l1, l2⟩, (hu i hi).trans l3, ⟨by rw [e0]; omega, by rw [e1, e0, bs]; omega, by rw [e1]; omega⟩, fun j x hx => ?_⟩
      have g := cdL_g hil hx
      have gl := (List.getElem?_eq_some_iff.mp g).1
      rw [show (b i + (j : Int)).toNat = bgL q i + j by rw [e0]; omega, hc _ gl]
      exact hC.2 _ x g
/-- the lines with one more -/
theorem LB_x {T T2 T8 : Nat → Int → Int} {q : List LL} {i k v : Int} {c : List Int} (hB : LB T q) (hi : i = q.length) (h57 : T 57 5 = (cdL q).length) (hW : HW (upS T 62 i (T 57 5)) T2 i k v) (hk : 0 ≤ k ∧ k ≤ 2) (e60 : T8 60 = T2 60) (e61 : T8 61 = T2 61) (e62 : T8 62 = T2 62) : LB T8 (q ++ [(k, v, c)]) := by
  subst hi
  obtain ⟨w1, w2, w3, w4⟩ := hW
  have f62 : T2 62 = upS T 62 q.length (T 57 5) 62 := w1 62 (by decide) (by decide) (by decide)
  refine LB_1 (LB_f hB fun j hj => ?_) ?_ hk ?_ ?_
  · rw [e60, e61, e62, f62, upS_at, if_neg (by omega)]
    have g := w2 j (by omega)
    rw [g.1, g.2]
    exact ⟨congrFun (up_lit (by decide)) _, congrFun (up_lit (by decide)) _, rfl⟩
  · rw [e60]; exact w3
  · rw [e61]; exact w4
  · rw [e62, f62, upS_at, if_pos ⟨rfl, rfl⟩, h57, bgL_n]
theorem CD_h {T T2 : Nat → Int → Int} {q : List Int} {i j k v x : Int} (hC : CD T q) (hW : HW (upS T 62 i x) T2 j k v) : CD T2 q := by
  unfold CD
  rw [hW.1 57 (by decide) (by decide) (by decide), hW.1 63 (by decide) (by decide) (by decide), up_lit (by decide), up_lit (by decide)]
  exact hC
end mklaw
section Law7
variable {tb : Tab} {d : Nat} {m : AM} {K : Out → AM → Prop} {S : Nat → Int → Int}
theorem k39_0 : pg.1 39 0 = [.aload 0, .getfield 303, .iload 1, .aload 0, .getfield 305, .iastore, .new 2, .dup, .iload 1, .aload 0, .getfield 301, .iload 1, .invokeinterface 383 2, .aload 0, .getfield 302, .iload 1, .invokeinterface 383 2, .aload 0, .getfield 303, .iload 1, .bipush 1, .iadd, .invokeinterface 383 2, .aload 0, .getfield 304, .aload 0, .getfield 305, .invokeinterface 383 2, .invokeinterface 34 6, .areturn] := rfl
theorem a39_0 {tb : Tab} {d : Nat} {K : Out → AM → Prop} {ls st : List AV} {m : AM} : At tb d 39 K 0 ls st m = wpB tb (pg.2.1 39) (Runs tb pg d) K (At tb d 39 K) [.aload 0, .getfield 303, .iload 1, .aload 0, .getfield 305, .iastore, .new 2, .dup, .iload 1, .aload 0, .getfield 301, .iload 1, .invokeinterface 383 2, .aload 0, .getfield 302, .iload 1, .invokeinterface 383 2, .aload 0, .getfield 303, .iload 1, .bipush 1, .iadd, .invokeinterface 383 2, .aload 0, .getfield 304, .aload 0, .getfield 305, .invokeinterface 383 2, .invokeinterface 34 6, .areturn] ls st m := At.eq k39_0
theorem w_39 {i : Int} {q : List LL} (hi : i = q.length) (hq : q.length ≤ 12) (hB : LB S q) (hC : CD S (cdL q)) (hl : (cdL q).length ≤ 400) (hm : 317 ≤ m.2.1) (hD : tb.1 2 = [vi 0, vn, vn, vn, vn, vn]) (hK : ∀ m2, NW m m2 q → K (.inl (some (vr m.2.1))) (X (upS S 62 i (S 57 5)) m2)) : Runs tb pg (d + 2) 39 [vr 57, vi i] (X S m) K := by
  refine Runs.of (al := [vr 57, vi i]) (n := 0) ⟨57, _, _, rfl, xo_57⟩ rfl rfl trivial ?_
  have l62 : (lenX 62 : Int) = 13 := rfl
  have e5 := hC.1
  have i0 : 0 ≤ i ∧ i ≤ 12 := by omega
  have e57 : upS S 62 i (S 57 5) 57 5 = S 57 5 := congrFun (up_lit (by decide)) _
  have hB2 : LB (upS S 62 i (S 57 5)) q := LB_f hB (fun j hj => ⟨congrFun (up_lit (by decide)) _, congrFun (up_lit (by decide)) _, by rw [upS_at, if_neg (fun z => by omega)]⟩)
  have hC2 : CD (upS S 62 i (S 57 5)) (cdL q) := ⟨(congrFun (up_lit (by decide)) _).trans e5, fun j x hx => (congrFun (up_lit (by decide)) _).trans (hC.2 j x hx)⟩
  have b12 : upS S 62 i (S 57 5) 62 q.length = (cdL q).length := by rw [upS_at, if_pos ⟨rfl, hi.symm⟩]; exact e5
  repeat' (first | omega | (rw [X_new (show 317 ≤ m.2.1 + 1 + 1 + 1 + 1 + 1 by omega), X_seto hm]; refine hK _ ?_; have hi1 : i.toNat = q.length := (by omega); have hi2 : (i + 1).toNat = q.length + 1 := (by omega); have hi3 : (S 57 5).toNat = (cdL q).length := (by omega); rw [hi1] at h60 h61; rw [hi2] at h62; rw [hi3] at h63; rw [hi1, hi2, hi3, show (i : Int) = (q.length : Int) from hi]; exact NW_of hq hl hm hB2 hC2 b12 (fun j hj => by rw [h60 j hj, if_pos (show j < lenX 60 from (by show j < 12; omega))]) (fun j hj => by rw [h61 j hj, if_pos (show j < lenX 61 from (by show j < 12; omega))]) (fun j hj => by rw [h62 j hj, if_pos (show j < lenX 62 from (by show j < 13; omega))]) (fun j hj => by rw [h63 j hj, if_pos (show j < lenX 63 from (by show j < 400; omega))])) | simp only [w_aload, x_g303_57, w_iload, x_g305_57, x_iast, w_new, w_dupi, w_dupr, x_g301_57, w_call, x_g302_57, w_iconst, w_iadd, x_g304_57, w_areturn, w_areturnn, isA_w1, isA_w2, isA_w3, isA_w4, isA_w5, isA_w6, isA_w7, isA_w8, isA_w10, isA_w11, isA_w12, isA_w14, isA_w15, isA_w16, len_w1, len_w2, len_w3, len_w4, len_w5, len_w6, len_w7, len_w8, len_w10, len_w11, len_w12, len_w14, len_w15, len_w16, Int.cast_ofNat_Int, a39_0, R32, List.getElem?_cons_zero, List.getElem?_cons_succ, List.set_cons_zero, List.set_cons_succ, List.cons_append, List.nil_append, List.replicate_succ, List.replicate_zero, List.take_succ_cons, List.take_zero, List.drop_succ_cons, List.drop_zero, List.reverse_cons, List.reverse_nil, List.length_cons, List.length_nil, Option.toList, true_and, and_true, eq_self, ↓reduceIte, not_true_eq_false, not_false_eq_true, true_or, or_true, upS_at, Int.reduceEq, Nat.reduceEqDiff, and_self, and_true, true_and, and_false, false_and, if_true, if_false, reduceIte, Int.reduceToNat, x_alen isA_62 (by decide), x_iast isA_62, l62] | (rw [hD, X_new hm]) | (refine w_383 isA_60 (show 317 ≤ m.2.1 + 1 by omega) ⟨by omega, by omega⟩ (by decide) (fun g60 h60 => ?_)) | (refine w_383 isA_61 (show 317 ≤ m.2.1 + 1 + 1 by omega) ⟨by omega, by omega⟩ (by decide) (fun g61 h61 => ?_)) | (refine w_383 isA_62 (show 317 ≤ m.2.1 + 1 + 1 + 1 by omega) ⟨by omega, by omega⟩ (by decide) (fun g62 h62 => ?_)) | (refine w_383 isA_63 (show 317 ≤ m.2.1 + 1 + 1 + 1 + 1 by omega) ⟨by omega, by omega⟩ (by decide) (fun g63 h63 => ?_)) | (refine r_34 (a := m.2.1) ((X_o hm).trans mk50) (show m.2.1 < m.2.1 + 1 + 1 + 1 + 1 + 1 by omega) ?_) | with_reducible refine And.intro ?_ ?_ | with_reducible intro _)
  all_goals (try (first | omega | (exact Or.inr ⟨rfl, by omega⟩) | (exfalso; assumption) | skip))
set_option maxHeartbeats 400000 in
theorem k38_0 : pg.1 38 0 = [.aload 0, .getfield 300, .aload 1, .iload 2, .invokeinterface 94 3, .aload 0, .bipush 0, .putfield 305, .aload 0, .getfield 300, .invokeinterface 96 1, .ifCond .eq 30, .aload 0, .bipush 0, .invokeinterface 39 2, .areturn] := rfl
theorem a38_0 {tb : Tab} {d : Nat} {K : Out → AM → Prop} {ls st : List AV} {m : AM} : At tb d 38 K 0 ls st m = wpB tb (pg.2.1 38) (Runs tb pg d) K (At tb d 38 K) [.aload 0, .getfield 300, .aload 1, .iload 2, .invokeinterface 94 3, .aload 0, .bipush 0, .putfield 305, .aload 0, .getfield 300, .invokeinterface 96 1, .ifCond .eq 30, .aload 0, .bipush 0, .invokeinterface 39 2, .areturn] ls st m := At.eq k38_0
theorem k38_30 : pg.1 38 30 = [.bipush 0, .istore 3, .jsr 32] := rfl
theorem a38_30 {tb : Tab} {d : Nat} {K : Out → AM → Prop} {ls st : List AV} {m : AM} : At tb d 38 K 30 ls st m = wpB tb (pg.2.1 38) (Runs tb pg d) K (At tb d 38 K) [.bipush 0, .istore 3, .jsr 32] ls st m := At.eq k38_30
theorem k38_32 : pg.1 38 32 = [.iload 3, .bipush 12, .if_icmp .ge 125, .aload 0, .getfield 303, .iload 3, .aload 0, .getfield 305, .iastore, .aload 0, .iload 3, .invokeinterface 40 2, .ifCond .ne 58, .aconst_null, .areturn] := rfl
theorem a38_32 {tb : Tab} {d : Nat} {K : Out → AM → Prop} {ls st : List AV} {m : AM} : At tb d 38 K 32 ls st m = wpB tb (pg.2.1 38) (Runs tb pg d) K (At tb d 38 K) [.iload 3, .bipush 12, .if_icmp .ge 125, .aload 0, .getfield 303, .iload 3, .aload 0, .getfield 305, .iastore, .aload 0, .iload 3, .invokeinterface 40 2, .ifCond .ne 58, .aconst_null, .areturn] ls st m := At.eq k38_32
theorem k38_58 : pg.1 38 58 = [.aload 0, .getfield 300, .ldc 17, .invokeinterface 97 2, .ifCond .eq 87, .aload 0, .getfield 300, .invokeinterface 95 1, .aload 0, .bipush 0, .invokeinterface 41 2, .ifCond .ne 87, .aconst_null, .areturn] := rfl
theorem a38_58 {tb : Tab} {d : Nat} {K : Out → AM → Prop} {ls st : List AV} {m : AM} : At tb d 38 K 58 ls st m = wpB tb (pg.2.1 38) (Runs tb pg d) K (At tb d 38 K) [.aload 0, .getfield 300, .ldc 17, .invokeinterface 97 2, .ifCond .eq 87, .aload 0, .getfield 300, .invokeinterface 95 1, .aload 0, .bipush 0, .invokeinterface 41 2, .ifCond .ne 87, .aconst_null, .areturn] ls st m := At.eq k38_58
theorem k38_87 : pg.1 38 87 = [.aload 0, .getfield 300, .invokeinterface 96 1, .ifCond .eq 105, .aload 0, .iload 3, .bipush 1, .iadd, .invokeinterface 39 2, .areturn] := rfl
theorem a38_87 {tb : Tab} {d : Nat} {K : Out → AM → Prop} {ls st : List AV} {m : AM} : At tb d 38 K 87 ls st m = wpB tb (pg.2.1 38) (Runs tb pg d) K (At tb d 38 K) [.aload 0, .getfield 300, .invokeinterface 96 1, .ifCond .eq 105, .aload 0, .iload 3, .bipush 1, .iadd, .invokeinterface 39 2, .areturn] ls st m := At.eq k38_87
theorem k38_105 : pg.1 38 105 = [.aload 0, .getfield 300, .bipush 59, .invokeinterface 103 2, .ifCond .ne 119, .aconst_null, .areturn] := rfl
theorem a38_105 {tb : Tab} {d : Nat} {K : Out → AM → Prop} {ls st : List AV} {m : AM} : At tb d 38 K 105 ls st m = wpB tb (pg.2.1 38) (Runs tb pg d) K (At tb d 38 K) [.aload 0, .getfield 300, .bipush 59, .invokeinterface 103 2, .ifCond .ne 119, .aconst_null, .areturn] ls st m := At.eq k38_105
theorem k38_119 : pg.1 38 119 = [.iinc 3 1, .goto 32] := rfl
theorem a38_119 {tb : Tab} {d : Nat} {K : Out → AM → Prop} {ls st : List AV} {m : AM} : At tb d 38 K 119 ls st m = wpB tb (pg.2.1 38) (Runs tb pg d) K (At tb d 38 K) [.iinc 3 1, .goto 32] ls st m := At.eq k38_119
theorem k38_125 : pg.1 38 125 = [.aload 0, .getfield 300, .invokeinterface 104 1, .pop, .aconst_null, .areturn] := rfl
theorem a38_125 {tb : Tab} {d : Nat} {K : Out → AM → Prop} {ls st : List AV} {m : AM} : At tb d 38 K 125 ls st m = wpB tb (pg.2.1 38) (Runs tb pg d) K (At tb d 38 K) [.aload 0, .getfield 300, .invokeinterface 104 1, .pop, .aconst_null, .areturn] ls st m := At.eq k38_125
theorem w_38 {n : Int} {t : Int → Int} (hP : TPE S t n) (hX : tb.2.1 = strB) (hm : 317 ≤ m.2.1) (hD : tb.1 2 = [vi 0, vn, vn, vn, vn, vn]) (hK0 : ∀ e T, rdP (lawP t n) t n 12 [] 0 = .inl e → TK0 T 58 t n e e → LFr S T → K (.inl (some vn)) (X T m)) (hK : ∀ q e T m2, rdP (lawP t n) t n 12 [] 0 = .inr (q, e) → TK0 T 58 t n e (-1) → LFr S T → NW m m2 q → K (.inl (some (vr m.2.1))) (X T m2)) : Runs tb pg (d + 40) 38 [vr 57, vr 1, vi n] (X S m) K := by
  refine Runs.of (al := [vr 57, vr 1, vi n]) (n := 1) ⟨57, _, _, rfl, xo_57⟩ rfl rfl trivial ?_
  have hn := hP.1
  have hL32 : (fun i : Int => ∀ (q : List LL) (a : Int) (T : Nat → Int → Int), (rdN (lawP t n) t n (12 - i).toNat q a = rdP (lawP t n) t n 12 [] 0) → (TK0 T 58 t n (skp t n a) (-1)) → (LB T q) → ((q.length : Int) = i) → (CD T (cdL q)) → (((cdL q).length : Int) ≤ a) → (LFr S T) → (a ≤ n) → At tb (d + 39) 38 K 32 [vr 57, vr 1, vi n, vi i] [] (X T m)) 0 := by
    refine loopZ (fun i : Int => ∀ (q : List LL) (a : Int) (T : Nat → Int → Int), (rdN (lawP t n) t n (12 - i).toNat q a = rdP (lawP t n) t n 12 [] 0) → (TK0 T 58 t n (skp t n a) (-1)) → (LB T q) → ((q.length : Int) = i) → (CD T (cdL q)) → (((cdL q).length : Int) ≤ a) → (LFr S T) → (a ≤ n) → At tb (d + 39) 38 K 32 [vr 57, vr 1, vi n, vi i] [] (X T m)) (12) (by omega) ?_ ?_
    · intro i h0 h1 h9 q a T hE hTx hBx hql hCx hlx hF hax
      have hPx : TPE T t n := TPE_L hF hP
      have hn := hP.1
      have hbx := hTx.1
      have sg59 : ¬ isLt 59 ∧ ¬ isDg 59 ∧ (59 : Int) ≠ 32 := by unfold isLt isDg; omega
      have e57 := hCx.1
      have l62 : (lenX 62 : Int) = 13 := rfl
      have hN : ∀ (T8 : Nat → Int → Int) (k v e8 : Int) (c8 : List Int), lawP t n q (skp t n a) = .inr (q ++ [(k, v, c8)], e8) → TK0 T8 58 t n (skp t n e8) (-1) → LB T8 (q ++ [(k, v, c8)]) → CD T8 (cdL (q ++ [(k, v, c8)])) → ((cdL (q ++ [(k, v, c8)])).length : Int) ≤ e8 → e8 ≤ n → LFr S T8 → At tb (d + 39) 38 K 87 [vr 57, vr 1, vi n, vi i] [] (X T8 m) := by
        intro T8 k v e8 c8 hp hT8 hB8 hC8 hl8 he8 hF8
        have hP8 : TPE T8 t n := TPE_L hF8 hP
        have hb8 := hT8.1
        have q8l : ((q ++ [(k, v, c8)]).length : Int) = i + 1 := by rw [List.length_append]; show ((q.length + 1 : Nat) : Int) = _; omega
        have se : e8 ≤ skp t n e8 := skp_ge
        rw [a38_87]
        repeat' (first | omega | (exact hK _ _ _ m5 z5 (TK0_f (S := T8) (up_lit (by decide)) (by rw [y5]; rw [y5] at hT8; exact hT8)) (LFr_u (by decide) hF8) w5) | (exact hK0 _ _ z6 (TK0_T x7) (LFr_t hF8 (LFr_x x7.2.1))) | (exact h9 _ (skp t n e8 + 1) T8b z8 (TK0_T x8) (LB_f hB8 (fun j _ => ⟨congrFun (x8.2.1 60 (by decide)) _, congrFun (x8.2.1 61 (by decide)) _, congrFun (x8.2.1 62 (by decide)) _⟩)) q8l (CD_x x8.2.1 hC8) (Int.le_trans hl8 (by omega)) (LFr_t hF8 (LFr_x x8.2.1)) (by omega)) | simp only [w_aload, x_g300_57, w_iload, w_call, w_iconst, x_p305_57, w_if, cI, Int.reduceToNat, w_areturn, w_areturnn, w_istore, w_fall, w_ifc, x_g303_57, x_g305_57, x_iast, w_null, w_ldc, w_iadd, w_iinc, lgB, Nat.reduceSub, w_goto, w_popi, w_popr, isA_w1, isA_w2, isA_w3, isA_w4, isA_w5, isA_w6, isA_w7, isA_w8, isA_w10, isA_w11, isA_w12, isA_w14, isA_w15, isA_w16, len_w1, len_w2, len_w3, len_w4, len_w5, len_w6, len_w7, len_w8, len_w10, len_w11, len_w12, len_w14, len_w15, len_w16, Int.cast_ofNat_Int, a38_0, a38_30, a38_58, a38_105, a38_119, a38_125, R32, List.getElem?_cons_zero, List.getElem?_cons_succ, List.set_cons_zero, List.set_cons_succ, List.cons_append, List.nil_append, List.replicate_succ, List.replicate_zero, List.take_succ_cons, List.take_zero, List.drop_succ_cons, List.drop_zero, List.reverse_cons, List.reverse_nil, List.length_cons, List.length_nil, Option.toList, true_and, and_true, eq_self, ↓reduceIte, not_true_eq_false, not_false_eq_true, true_or, or_true, upS_at, Int.reduceEq, Nat.reduceEqDiff, and_self, and_true, true_and, and_false, false_and, if_true, if_false, reduceIte, Int.reduceToNat] | ((with_reducible refine w_96_58 hP8 hT8 (fun v4 x4 => ?_)); have gy4 := yn_b x4) | (have y4 : skp t n e8 = n := (by rcases x4 with ⟨xa, xb⟩ | ⟨xa, xb⟩; exact xb; exfalso; omega); have z5 := rd12_e h1 hp hE y4; have y5 := y4; clear x4; (refine w_39 (q := q ++ [(k, v, c8)]) (by omega) (by omega) hB8 hC8 (by omega) hm hD (fun m5 w5 => ?_))) | (have n4 : skp t n e8 ≠ n := (by rcases x4 with ⟨xa, xb⟩ | ⟨xa, xb⟩; exfalso; omega; exact xb); clear x4; (with_reducible refine w_103_58 (c := 59) hP8 hT8 sg59 (by omega) (fun y6 T7 x7 => ?_) (fun y8 T8b x8 => ?_))) | (have z6 := rd12_w h1 hp hE n4 (fun z => y6 ⟨by omega, z⟩); clear n4) | (have z8 := rd12_c h1 hp hE n4 y8.2; clear n4) | with_reducible refine And.intro ?_ ?_ | with_reducible intro _)
        all_goals (try (first | omega | (exfalso; assumption) | skip))

      have l62 : (lenX 62 : Int) = 13 := rfl
      have hP0 : TPE (upS T 62 i (T 57 5)) t n := TPE_f hPx rfl
      have hT0 : TK0 (upS T 62 i (T 57 5)) 58 t n (skp t n a) (-1) := TK0_f (S := T) (up_lit (by decide)) hTx
      have F0 : LFr S (upS T 62 i (T 57 5)) := LFr_u (by decide) hF
      have sa : a ≤ skp t n a := skp_ge
      have hc41 := w_41 hX (w_42 hX (w_43 hX 6 (Nat.le_refl _)))
      have l17 : 0 < (strB 17).length := by decide
      rw [a38_32]
      repeat' (first | omega | with_reducible refine h9 _ _ _ ?_ ?_ ?_ ?_ ?_ ?_ ?_ ?_ | (exact hK0 _ _ (rd12_f h1 z1 hE) x1 (LFr_t F0 f1)) | (exact hN _ _ _ _ _ z3 (by rw [skp_skp]; exact x2) (LB_x hBx hql.symm e57 w2 k2 rfl rfl rfl) c2 (by rw [cdL_1]; show ((cdL q ++ []).length : Int) ≤ _; rw [List.append_nil]; omega) (by omega) F2) | (exact hK0 _ _ (rd12_f h1 z5 hE) x5 (LFr_t F2 (LFr_t (LFr_x x4.2.1) (LFr_8 f5)))) | (exact hN _ _ _ _ _ z6 x6 (LB_x hBx hql.symm e57 w2 k2 ((f6 60 (by decide) (by decide) (by decide)).trans (x4.2.1 60 (by decide))) ((f6 61 (by decide) (by decide) (by decide)).trans (x4.2.1 61 (by decide))) ((f6 62 (by decide) (by decide) (by decide)).trans (x4.2.1 62 (by decide)))) (by rw [cdL_1]; exact c6q) (by rw [cdL_1]; show ((cdL q ++ c6).length : Int) ≤ _; omega) e6 (LFr_t F2 (LFr_t (LFr_x x4.2.1) (LFr_8 f6)))) | simp only [w_aload, x_g300_57, w_iload, w_call, w_iconst, x_p305_57, w_if, cI, Int.reduceToNat, w_areturn, w_areturnn, w_istore, w_fall, w_ifc, x_g303_57, x_g305_57, x_iast, w_null, w_ldc, w_iadd, w_iinc, lgB, Nat.reduceSub, w_goto, w_popi, w_popr, isA_w1, isA_w2, isA_w3, isA_w4, isA_w5, isA_w6, isA_w7, isA_w8, isA_w10, isA_w11, isA_w12, isA_w14, isA_w15, isA_w16, len_w1, len_w2, len_w3, len_w4, len_w5, len_w6, len_w7, len_w8, len_w10, len_w11, len_w12, len_w14, len_w15, len_w16, Int.cast_ofNat_Int, a38_0, a38_30, a38_58, a38_105, a38_119, a38_125, R32, List.getElem?_cons_zero, List.getElem?_cons_succ, List.set_cons_zero, List.set_cons_succ, List.cons_append, List.nil_append, List.replicate_succ, List.replicate_zero, List.take_succ_cons, List.take_zero, List.drop_succ_cons, List.drop_zero, List.reverse_cons, List.reverse_nil, List.length_cons, List.length_nil, Option.toList, true_and, and_true, eq_self, ↓reduceIte, not_true_eq_false, not_false_eq_true, true_or, or_true, upS_at, Int.reduceEq, Nat.reduceEqDiff, and_self, and_true, true_and, and_false, false_and, if_true, if_false, reduceIte, Int.reduceToNat, x_alen isA_62 (by decide), x_iast isA_62, l62] | (with_reducible refine w_40 ⟨h0, h1⟩ hP0 hT0 hX (fun e T1 r1 x1 f1 => ?_) (fun k v e2 T2 k2 r2 x2 g2 w2 => ?_)) | (have z1 : lawP t n q (skp t n a) = .inl e := (by rw [lawP_h, r1]; rfl); clear r1) | ((with_reducible refine w_97_58 (i := 17) hP2 x2 hX (by decide) (strB_l 17 (by decide)) (fun v3 x3 => ?_)); have gy3 := yn_b x3) | (have F2 := LFr_t F0 (LFr_h w2); have hP2 := TPE_L F2 hP; have C2 := CD_h hCx w2; have s2 : e2 ≤ skp t n e2 := skp_ge; have b2 := x2.1; have L2 := lawP_h (t := t) (n := n) (b := skp t n a) (L := q); rw [r2] at L2; clear r2) | (have n3 : ¬ wdP t n (skp t n e2) (strB 17) := (by rcases x3 with ⟨xa, xb⟩ | ⟨xa, xb⟩; exfalso; omega; exact xb); have z3 : lawP t n q (skp t n a) = .inr (q ++ [(k, v, [])], skp t n e2) := L2.trans (by show bnd (conP t n (k, v) e2) _ = _; unfold conP; rw [wdI_n n3]; rfl); have c2 : CD T2 (cdL (q ++ [(k, v, [])])) := (by rw [cdL_1, List.append_nil]; exact C2); clear x3) | (have y3 : wdP t n (skp t n e2) (strB 17) := (by rcases x3 with ⟨xa, xb⟩ | ⟨xa, xb⟩; exact xb; exfalso; omega); have wf := wd_f x2 l17 y3; clear x3; (with_reducible refine w_95_58w hP2 x2 wf (fun T4 x4 => ?_))) | (have s4 : (skp t n e2 + (strB 17).length) ≤ skp t n (skp t n e2 + (strB 17).length) := skp_ge; have F4 := x4.2.1; have P4 := TPE_L (LFr_x F4) hP2; have C4 := CD_x F4 C2; have hT4 := TK0_T x4; ((with_reducible refine hc41 (d + 29) m _ T4 (cdL q) (skp t n e2 + (strB 17).length) (skp t n (skp t n e2 + (strB 17).length) - (cdL q).length) 0 t n rfl (by omega) P4 hT4 C4 (by omega) (by omega) (fun e5 T5 (r5 : somP (atmP t n 6) t n (skp t n e2 + (strB 17).length) = .inl e5) x5 f5 => ?_) (fun c6 e6q T6 (r6 : somP (atmP t n 6) t n (skp t n e2 + (strB 17).length) = .inr (c6, e6q)) c6q l6 e6 x6 f6 => ?_)))) | (have z5 : lawP t n q (skp t n a) = .inl e5 := L2.trans (by show bnd (conP t n (k, v) e2) _ = _; unfold conP; rw [wdI_y y3, r5]; rfl); clear r5) | (have z6 : lawP t n q (skp t n a) = .inr (q ++ [(k, v, c6)], e6q) := L2.trans (by show bnd (conP t n (k, v) e2) _ = _; unfold conP; rw [wdI_y y3, r6]; rfl); clear r6) | with_reducible refine And.intro ?_ ?_ | with_reducible intro _)
      all_goals (try (first | omega | contradiction | skip))
    · intro q a T hE hTx hBx hql hCx hlx hF hax
      have hPx : TPE T t n := TPE_L hF hP
      have hn := hP.1
      have hbx := hTx.1
      have sg59 : ¬ isLt 59 ∧ ¬ isDg 59 ∧ (59 : Int) ≠ 32 := by unfold isLt isDg; omega
      have e57 := hCx.1
      have l62 : (lenX 62 : Int) = 13 := rfl

      rw [a38_32]
      repeat' (first | omega | (exact hK0 _ _ (hE.symm.trans rfl) (TK0_T x3) (LFr_t hF (LFr_x x3.2.1))) | simp only [w_aload, x_g300_57, w_iload, w_call, w_iconst, x_p305_57, w_if, cI, Int.reduceToNat, w_areturn, w_areturnn, w_istore, w_fall, w_ifc, x_g303_57, x_g305_57, x_iast, w_null, w_ldc, w_iadd, w_iinc, lgB, Nat.reduceSub, w_goto, w_popi, w_popr, isA_w1, isA_w2, isA_w3, isA_w4, isA_w5, isA_w6, isA_w7, isA_w8, isA_w10, isA_w11, isA_w12, isA_w14, isA_w15, isA_w16, len_w1, len_w2, len_w3, len_w4, len_w5, len_w6, len_w7, len_w8, len_w10, len_w11, len_w12, len_w14, len_w15, len_w16, Int.cast_ofNat_Int, a38_0, a38_30, a38_58, a38_105, a38_119, a38_125, R32, List.getElem?_cons_zero, List.getElem?_cons_succ, List.set_cons_zero, List.set_cons_succ, List.cons_append, List.nil_append, List.replicate_succ, List.replicate_zero, List.take_succ_cons, List.take_zero, List.drop_succ_cons, List.drop_zero, List.reverse_cons, List.reverse_nil, List.length_cons, List.length_nil, Option.toList, true_and, and_true, eq_self, ↓reduceIte, not_true_eq_false, not_false_eq_true, true_or, or_true, upS_at, Int.reduceEq, Nat.reduceEqDiff, and_self, and_true, true_and, and_false, false_and, if_true, if_false, reduceIte, Int.reduceToNat, x_alen isA_62 (by decide), x_iast isA_62, l62] | ((with_reducible refine w_104_58 hPx hTx (fun T3 x3 => ?_))) | with_reducible refine And.intro ?_ ?_ | with_reducible intro _)
      all_goals (try (first | omega | contradiction | skip))
  repeat' (first | omega | (exact hK _ _ _ m5 q8 (TK0_f (S := T1) rfl (by rw [y2]; rw [y2] at x1t; exact x1t)) (LFr_u (by decide) (LFr_u (by decide) F1)) w5) | (exact hL32 [] (skp t n 0) _ q7 (by rw [skp_skp]; exact hT2) LB_0 rfl hC0 (by show (0 : Int) ≤ _; omega) (LFr_u (by decide) F1) hb1.2) | simp only [w_aload, x_g300_57, w_iload, w_call, w_iconst, x_p305_57, w_if, cI, Int.reduceToNat, w_areturn, w_areturnn, w_istore, w_fall, w_ifc, x_g303_57, x_g305_57, x_iast, w_null, w_ldc, w_iadd, w_iinc, lgB, Nat.reduceSub, w_goto, w_popi, w_popr, isA_w1, isA_w2, isA_w3, isA_w4, isA_w5, isA_w6, isA_w7, isA_w8, isA_w10, isA_w11, isA_w12, isA_w14, isA_w15, isA_w16, len_w1, len_w2, len_w3, len_w4, len_w5, len_w6, len_w7, len_w8, len_w10, len_w11, len_w12, len_w14, len_w15, len_w16, Int.cast_ofNat_Int, a38_0, a38_30, a38_58, a38_105, a38_119, a38_125, R32, List.getElem?_cons_zero, List.getElem?_cons_succ, List.set_cons_zero, List.set_cons_succ, List.cons_append, List.nil_append, List.replicate_succ, List.replicate_zero, List.take_succ_cons, List.take_zero, List.drop_succ_cons, List.drop_zero, List.reverse_cons, List.reverse_nil, List.length_cons, List.length_nil, Option.toList, true_and, and_true, eq_self, ↓reduceIte, not_true_eq_false, not_false_eq_true, true_or, or_true, upS_at, Int.reduceEq, Nat.reduceEqDiff, and_self, and_true, true_and, and_false, false_and, if_true, if_false, reduceIte, Int.reduceToNat] | ((with_reducible refine w_94_58 hP (fun T1 x1 => ?_)); have F1 := LFr_x x1.2.1; have x1t := TK0_T x1; have hb1 := x1.1; have hP1 : TPE (upS T1 57 5 0) t n := TPE_f (TPE_L F1 hP) rfl; have hT2 : TK0 (upS T1 57 5 0) 58 t n (skp t n 0) (-1) := TK0_f (S := T1) (up_lit (by decide)) x1t; have hC0 : CD (upS T1 57 5 0) [] := ⟨by rw [upS_at, if_pos ⟨rfl, rfl⟩]; rfl, fun j x h => by cases h⟩) | ((with_reducible refine w_96_58 hP1 hT2 (fun v2 x2 => ?_)); have gy2 := yn_b x2) | (have y2 : skp t n 0 = n := (by rcases x2 with ⟨xa, xb⟩ | ⟨xa, xb⟩; exact xb; exfalso; omega); have q8 : rdP (lawP t n) t n 12 [] 0 = .inr ([], skp t n 0) := if_neg (by omega); clear x2; (refine w_39 (q := []) rfl (by decide) LB_0 hC0 (by decide) hm hD (fun m5 w5 => ?_))) | (have y2 : skp t n 0 ≠ n := (by rcases x2 with ⟨xa, xb⟩ | ⟨xa, xb⟩; exfalso; omega; exact xb); have q7 : rdN (lawP t n) t n (12 - 0 : Int).toNat [] (skp t n 0) = rdP (lawP t n) t n 12 [] 0 := (if_pos (show skp t n 0 < n by omega)).symm; clear x2) | with_reducible refine And.intro ?_ ?_ | with_reducible intro _)
  all_goals (try (first | omega | (exfalso; assumption) | skip))
end Law7
