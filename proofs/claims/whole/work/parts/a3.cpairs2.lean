/-! ===== THE CLASS: people two by two, tried out ===== -/
theorem and_256 {a b : Int} (b0 : 0 ≤ b) (b1 : b < 256) : 0 ≤ andI a b ∧ andI a b < 256 := by
  unfold andI
  have e2 : (Int32.ofInt a &&& Int32.ofInt b).toInt = ((Int32.ofInt a).toBitVec &&& (Int32.ofInt b).toBitVec).toInt := rfl
  rw [e2]
  have hb : (Int32.ofInt b).toBitVec.toNat = b.toNat := by
    show (BitVec.ofInt 32 b).toNat = b.toNat
    rw [BitVec.toNat_ofInt]
    omega
  have hle : ((Int32.ofInt a).toBitVec &&& (Int32.ofInt b).toBitVec).toNat ≤ 255 := by
    rw [BitVec.toNat_and, hb]
    exact Nat.le_trans Nat.and_le_right (by omega)
  have : ((Int32.ofInt a).toBitVec &&& (Int32.ofInt b).toBitVec).toInt = (((Int32.ofInt a).toBitVec &&& (Int32.ofInt b).toBitVec).toNat : Int) := by
    rw [BitVec.toInt_eq_toNat_of_lt]
    omega
  omega
theorem kinds_rg {r : Int → Int} (hA : AB r) (hV : GV r) {p : Int} (hp : 0 ≤ p ∧ p < r 4) : ∀ k : Nat, (k : Int) ≤ pr r p 0 → 0 ≤ kindsM (pr r) p k ∧ kindsM (pr r) p k < 256
  | 0, _ => ⟨Int.le_refl _, show (0 : Int) < 256 by decide⟩
  | k + 1, h => by
    have ih := kinds_rg hA hV hp k (by omega)
    have z := AB_pp hA hp.1 hp.2
    have v := (hV p k hp.1 hp.2 (by omega) (by omega)).1 (by omega)
    have u := (AB_pk hA hp.1 hp.2 (k := k) (by omega) (by omega)).2.1
    rw [show ((k + 1 : Nat) : Int) = (k : Int) + 1 by omega, kindsM_s (by omega)]
    exact or_bd ih.1 ih.2 v u.2
theorem kinds_r {r : Int → Int} (hA : AB r) (hV : GV r) {p : Int} (hp : 0 ≤ p ∧ p < r 4) : 0 ≤ kindsM (pr r) p (pr r p 0) ∧ kindsM (pr r) p (pr r p 0) < 256 := by
  have z := AB_pp hA hp.1 hp.2
  have := kinds_rg hA hV hp (pr r p 0).toNat (by omega)
  rw [Int.toNat_of_nonneg (by omega)] at this
  exact this
def tpF (S T : Nat → Int → Int) : Prop := (∀ a, a ≠ 64 → a ≠ 68 → a ≠ 69 → T a = S a) ∧ ∀ j, j ≠ 6 → T 64 j = S 64 j
theorem tpF_r {S : Nat → Int → Int} : tpF S S := ⟨fun _ _ _ _ => rfl, fun _ _ => rfl⟩
theorem tpF_t {S T U : Nat → Int → Int} (h : tpF S T) (g : tpF T U) : tpF S U := ⟨fun a a1 a2 a3 => (g.1 a a1 a2 a3).trans (h.1 a a1 a2 a3), fun j hj => (g.2 j hj).trans (h.2 j hj)⟩
theorem tpF_u {S T : Nat → Int → Int} {i x : Int} (h : tpF S T) : tpF S (upS T 68 i x) := ⟨fun a a1 a2 a3 => (up_lit a2).trans (h.1 a a1 a2 a3), fun j hj => h.2 j hj⟩
theorem tpF_W {S T : Nat → Int → Int} {v : Nat} {r : Int → Int} (hv : isW v) (hR : RW S v r) (h : tpF S T) : RW T v r := RW_k hR (fun k hk => h.1 _ (scr_w hv (by unfold scr; omega) hk) (scr_w hv (by unfold scr; omega) hk) (scr_w hv (by unfold scr; omega) hk))
def tpO (P : Int → Int → Int) (n : Int) (S T : Nat → Int → Int) (p sh l : Int) : Prop := tpF S T ∧ T 68 = S 68 ∧ ((sh + pF P n l ≤ S 64 6 ∧ T 64 6 = S 64 6 ∧ T 69 = S 69) ∨ (S 64 6 < sh + pF P n l ∧ T 64 6 = sh + pF P n l ∧ ∀ k, 0 ≤ k → k < n → T 69 k = if k < p ∨ S 68 k ≠ -1 then S 68 k else dC P n k l))
def wiX (P : Int → Int → Int) (n l p o x w : Int) : Prop := (w = -1 ∧ pF P n (l - pw p) = x) ∨ (pF P n (l - pw p) < x ∧ (p < w ∧ w < o) ∧ bitB (l - pw p) w ∧ comM P p w + pF P n (l - pw p - pw w) = x ∧ ∀ q, p < q → q < w → bitB (l - pw p) q → comM P p q + pF P n (l - pw p - pw q) < x)
def lxt (l p w : Int) : Int := if w = -1 then l - pw p else l - pw p - pw w
def plO (P : Int → Int → Int) (n : Int) (S T : Nat → Int → Int) (p sh l o x w : Int) : Prop := tpF S T ∧ T 68 = S 68 ∧ isPx P (pF P n) l p o x ∧ wiX P n l p o x w ∧ ((sh + x ≤ S 64 6 ∧ T 64 6 = S 64 6 ∧ T 69 = S 69) ∨ (S 64 6 < sh + x ∧ T 64 6 = sh + x ∧ ∀ k, 0 ≤ k → k < n → T 69 k = if k < p ∨ S 68 k ≠ -1 then S 68 k else if k = p then w else if k = w then p else dC P n k (lxt l p w)))
section tp
variable {P : Int → Int → Int} {n p sh l o x w : Int} {S T U : Nat → Int → Int}
theorem pF_0 (hn : 0 ≤ n ∧ n ≤ 6) : pF P n 0 = 0 := (pF_is hn).1.1
theorem tp_no (hn : 0 ≤ n ∧ n ≤ 6) (h : sh ≤ S 64 6) : tpO P n S S n sh (lS (S 68) n n) := by
  rw [lS_e hn]
  refine ⟨tpF_r, rfl, Or.inl ⟨?_, rfl, rfl⟩⟩
  rw [pF_0 hn]; omega
theorem tp_yes (hn : 0 ≤ n ∧ n ≤ 6) (h : S 64 6 < sh) : tpO P n S (cpyS (upS S 64 6 sh) 68 69 0 0 6) n sh (lS (S 68) n n) := by
  rw [lS_e hn]
  have e6 : cpyS (upS S 64 6 sh) 68 69 0 0 6 64 6 = sh := by
    show upS S 64 6 sh 64 6 = sh
    rw [upS_at, if_pos ⟨rfl, rfl⟩]
  refine ⟨⟨fun a a1 a2 a3 => ?_, fun j hj => ?_⟩, rfl, Or.inr ⟨by rw [pF_0 hn]; omega, by rw [e6, pF_0 hn]; omega, fun k k0 k1 => ?_⟩⟩
  · show (if a = 69 then _ else upS S 64 6 sh a) = S a
    rw [if_neg a3]; exact if_neg a1
  · show upS S 64 6 sh 64 j = S 64 j
    rw [upS_at, if_neg (fun y => hj y.2)]
  · rw [if_pos (Or.inl k1)]
    show (if 0 ≤ k ∧ k < 0 + 6 then upS S 64 6 sh 68 (0 + (k - 0)) else _) = _
    rw [if_pos (by omega)]
    show S 68 (0 + (k - 0)) = S 68 k
    exact congrArg _ (by omega)
theorem tp_have (hn : 0 ≤ n ∧ n ≤ 6) (h : tpO P n S T (p + 1) sh (lS (S 68) (p + 1) n)) (hp : S 68 p ≠ -1) : tpO P n S T p sh (lS (S 68) p n) := by
  rw [lS_n hn hp] at h
  refine ⟨h.1, h.2.1, h.2.2.elim Or.inl (fun z => Or.inr ⟨z.1, z.2.1, fun k k0 k1 => ?_⟩)⟩
  rw [z.2.2 k k0 k1]
  by_cases y : k < p ∨ S 68 k ≠ -1
  · rw [if_pos (by omega), if_pos y]
  · rw [if_neg y, if_neg]
    intro c
    by_cases e : k = p
    · subst e; exact y (Or.inr hp)
    · exact y (by omega)
theorem pl_0 (hn : 0 ≤ n ∧ n ≤ 6) (p0 : 0 ≤ p) (p1 : p < n) (hp : S 68 p = -1) (h : tpO P n S T (p + 1) sh (lS (S 68) (p + 1) n)) : plO P n S T p sh (lS (S 68) p n) (p + 1) (pF P n (lS (S 68) p n - pw p)) (-1) := by
  rw [(lS_y hn p0 p1 hp).2] at h
  refine ⟨h.1, h.2.1, isPx_0, Or.inl ⟨rfl, rfl⟩, h.2.2.elim Or.inl (fun z => Or.inr ⟨z.1, z.2.1, fun k k0 k1 => ?_⟩)⟩
  rw [z.2.2 k k0 k1]
  by_cases y : k < p ∨ S 68 k ≠ -1
  · rw [if_pos (by omega), if_pos y]
  · rw [if_neg y]
    by_cases e : k = p
    · rw [if_pos (by omega), if_pos e, e, hp]
    · rw [if_neg (by omega), if_neg e, if_neg (by omega)]
      unfold lxt
      rw [if_pos rfl]
theorem wiX_n (h : wiX P n l p o x w) : wiX P n l p (o + 1) x w := h.elim Or.inl (fun z => Or.inr ⟨z.1, by have := z.2.1; omega, z.2.2⟩)
theorem pl_n (h : plO P n S T p sh l o x w) (hb : ¬ bitB (l - pw p) o) : plO P n S T p sh l (o + 1) x w := ⟨h.1, h.2.1, isPx_n h.2.2.1 hb, wiX_n h.2.2.2.1, h.2.2.2.2⟩
theorem px_le (h : isPx P (pF P n) l p o x) {q : Int} (q0 : p < q) (q1 : q < o) (hb : bitB (l - pw p) q) : comM P p q + pF P n (l - pw p - pw q) ≤ x := h.2.1 q q0 q1 hb
theorem pl_y (hpo : p < o) (p0 : 0 ≤ p) (h : plO P n S T p sh l o x w) (hp : S 68 p = -1) (ho : S 68 o = -1) (hb : bitB (l - pw p) o) (hU : tpO P n (upS (upS T 68 p o) 68 o p) U (p + 1) (sh + comM P p o) (l - pw p - pw o)) : ∃ x2 w2, plO P n S (upS (upS U 68 p (-1)) 68 o (-1)) p sh l (o + 1) x2 w2 := by
  obtain ⟨h1, h2, h3, h4, h5⟩ := h
  obtain ⟨u1, u2, u3⟩ := hU
  have f1 : tpF S (upS (upS U 68 p (-1)) 68 o (-1)) := tpF_u (tpF_u (tpF_t h1 (tpF_t (tpF_u (tpF_u tpF_r)) u1)))
  have e68 : (upS (upS U 68 p (-1)) 68 o (-1)) 68 = S 68 := by
    funext j
    rw [upS_at, upS_at, u2, upS_at, upS_at, h2]
    by_cases y : j = o
    · rw [if_pos ⟨rfl, y⟩, y, ho]
    · rw [if_neg (fun z => y z.2)]
      by_cases z : j = p
      · rw [if_pos ⟨rfl, z⟩, z, hp]
      · rw [if_neg (fun q => z q.2), if_neg (fun q => y q.2), if_neg (fun q => z q.2)]
  have e6 : (upS (upS U 68 p (-1)) 68 o (-1)) 64 6 = U 64 6 := rfl
  have e69 : (upS (upS U 68 p (-1)) 68 o (-1)) 69 = U 69 := rfl
  have t6 : (upS (upS T 68 p o) 68 o p) 64 6 = T 64 6 := rfl
  have t69 : (upS (upS T 68 p o) 68 o p) 69 = T 69 := rfl
  rw [t6, t69] at u3
  obtain ⟨y, hy⟩ : ∃ y, y = comM P p o + pF P n (l - pw p - pw o) := ⟨_, rfl⟩
  rw [Int.add_assoc, ← hy] at u3
  by_cases c : y ≤ x
  · have nx : isPx P (pF P n) l p (o + 1) x := isPx_y hpo h3 hb (by
      by_cases q : comM P p o + pF P n (l - pw p - pw o) < x
      · rw [if_pos q]
      · rw [if_neg q]; omega)
    have un : U 64 6 = T 64 6 ∧ U 69 = T 69 := by
      rcases u3 with z | z
      · exact z.2
      · rcases h5 with q | q <;> omega
    refine ⟨x, w, f1, e68, nx, wiX_n h4, ?_⟩
    rw [e6, e69, un.1, un.2]
    exact h5
  · have nx : isPx P (pF P n) l p (o + 1) y := isPx_y hpo h3 hb (by rw [if_neg (by omega)]; exact hy)
    have wx : wiX P n l p (o + 1) y o := Or.inr ⟨by have := h3.1; omega, by omega, hb, hy.symm, fun q q0 q1 q2 => by have := px_le h3 q0 q1 q2; omega⟩
    refine ⟨y, o, f1, e68, nx, wx, ?_⟩
    rw [e6, e69]
    rcases u3 with z | z
    · left
      rcases h5 with q | q
      · rw [z.2.1, z.2.2, q.2.1, q.2.2]
        exact ⟨by omega, rfl, rfl⟩
      · omega
    · right
      have s6 : S 64 6 < sh + y := by rcases h5 with q | q <;> omega
      refine ⟨s6, z.2.1, fun k k0 k1 => ?_⟩
      have gg : (upS (upS T 68 p o) 68 o p) 68 k = if k = o then p else if k = p then o else S 68 k := by
        rw [upS_at, upS_at, h2]
        by_cases b : k = o
        · rw [if_pos ⟨rfl, b⟩, if_pos b]
        · rw [if_neg (fun q => b q.2), if_neg b]
          by_cases e : k = p
          · rw [if_pos ⟨rfl, e⟩, if_pos e]
          · rw [if_neg (fun q => e q.2), if_neg e]
      rw [z.2.2 k k0 k1, gg]
      by_cases b : k = o
      · have a : ¬ (k < p ∨ S 68 k ≠ -1) := fun c => by rw [b] at c; rcases c with c | c; omega; exact c ho
        rw [if_pos b, if_pos (Or.inr (by omega)), if_neg a, if_neg (by omega), if_pos b]
      · by_cases e : k = p
        · have a : ¬ (k < p ∨ S 68 k ≠ -1) := fun c => by rw [e] at c; rcases c with c | c; omega; exact c hp
          rw [if_neg b, if_pos e, if_pos (Or.inl (by omega)), if_neg a, if_pos e]
        · rw [if_neg b, if_neg e]
          by_cases a : k < p ∨ S 68 k ≠ -1
          · rw [if_pos a, if_pos (by omega)]
          · rw [if_neg a, if_neg (by omega), if_neg e, if_neg b]
            unfold lxt
            rw [if_neg (by omega)]
theorem pl_e (hn : 0 ≤ n ∧ n ≤ 6) (p0 : 0 ≤ p) (p1 : p < n) (hp : S 68 p = -1) (h : plO P n S T p sh (lS (S 68) p n) n x w) : tpO P n S T p sh (lS (S 68) p n) := by
  obtain ⟨h1, h2, h3, h4, h5⟩ := h
  have q : pw n ≤ 64 := pw_le (q := 6) hn.1 hn.2
  have rg := lS_rg (g := S 68) (p := p) hn
  have hl := (lS_y hn p0 p1 hp).1
  have c := clr_eq rg.1 (by omega) p0 (by omega) hl.2.1
  have pp := pw_pos p
  obtain ⟨t, t1, t2⟩ := (pF_is (P := P) hn).1.2 (lS (S 68) p n) (by omega) rg.2
  have e := isLow_uq hl t1
  subst e
  have ex : x = pF P n (lS (S 68) p n) := isPx_uq h3 t2
  have hw : isWi P n (pF P n) (lS (S 68) p n) p w := by
    rcases h4 with ⟨a, b⟩ | ⟨a, b, b2, b3, b4⟩
    · exact Or.inl ⟨b.trans ex, a⟩
    · refine Or.inr ⟨by omega, Or.inr ⟨b, ⟨b2, b3.trans ex⟩, fun o o0 o1 y => ?_⟩⟩
      have := b4 o o0 o1 y.1
      have := y.2
      omega
  refine ⟨h1, h2, ?_⟩
  rw [← ex]
  rcases h5 with z | z
  · exact Or.inl z
  · refine Or.inr ⟨z.1, z.2.1, fun k k0 k1 => ?_⟩
    rw [z.2.2 k k0 k1]
    by_cases y : k < p ∨ S 68 k ≠ -1
    · rw [if_pos y, if_pos y]
    · rw [if_neg y, if_neg y, dC_s hn (by omega) hl hw]
      unfold lxt
      by_cases b : k = p
      · rw [if_pos b, if_pos (show p = k from b.symm)]
      · rw [if_neg b, if_neg (show ¬ p = k from fun e => b e.symm)]
        by_cases e : k = w
        · rw [if_pos e, if_pos (show w = k from e.symm)]
        · rw [if_neg e, if_neg (show ¬ w = k from fun z => e z.symm)]
theorem tp_mo (hn : 0 ≤ n ∧ n ≤ 6) (hl : 0 ≤ l ∧ l < pw n) (hs : 0 ≤ sh ∧ sh ≤ 1000) (h : tpO P n S T p sh l) (hm : -1 ≤ S 64 6 ∧ S 64 6 ≤ 100000) : -1 ≤ T 64 6 ∧ T 64 6 ≤ 100000 := by
  have q : pw n ≤ 64 := pw_le (q := 6) hn.1 hn.2
  have b := (pF_is (P := P) hn).2 l hl.1 hl.2
  rcases h.2.2 with z | z <;> omega
theorem pl_mo (hn : 0 ≤ n ∧ n ≤ 6) (hs : 0 ≤ sh ∧ sh ≤ 1000) (h : plO P n S T p sh l o x w) (hx : 0 ≤ x ∧ x ≤ 10000) (hm : -1 ≤ S 64 6 ∧ S 64 6 ≤ 100000) : -1 ≤ T 64 6 ∧ T 64 6 ≤ 100000 := by
  rcases h.2.2.2.2 with z | z <;> omega
theorem px_rg (hn : 0 ≤ n ∧ n ≤ 6) (hl : 0 < l ∧ l < pw n) (hlo : isLow l p) (ho : o ≤ 6) (h : isPx P (pF P n) l p o x) : 0 ≤ x ∧ x ≤ 10000 := by
  have q : pw n ≤ 64 := pw_le (q := 6) hn.1 hn.2
  have pn := bit_lt (s := l) (by omega) hn.1 hl.2 hlo.1.2 hlo.2.1
  have := isPx_bd h (by omega) ⟨hlo.1.1, by omega⟩ ho hlo.2.1 (fun j j0 j1 => (pF_is (P := P) hn).2 j j0 (by omega))
  omega
end tp
section Names7
variable {tb : Tab} {d : Nat} {m : AM} {K : Out → AM → Prop} {S : Nat → Int → Int} {w : Nat} {r : Int → Int}
theorem w_382b {s : Int} (hs : 0 ≤ s ∧ s < 256) (hK : ∀ v, v = bitsM s 31 → K (.inl (some (vi v))) m) : Runs tb pg (d + 1) 382 [vi s] m K := by
  refine Runs.of (al := [vi s]) (n := 0) trivial rfl rfl trivial ?_
  have e := bcI_256 hs.1 hs.2
  unfold bcI at e
  have hK2 := hK _ e
  clear hK e
  repeat' (first | omega | (exact hK2) | simp only [w_iload, w_iconst, w_iushr, w_iand, w_isub, w_istore, w_iadd, w_ireturn, a382_0, R32, List.getElem?_cons_zero, List.getElem?_cons_succ, List.set_cons_zero, List.set_cons_succ, List.cons_append, List.nil_append, List.replicate_succ, List.replicate_zero, List.take_succ_cons, List.take_zero, List.drop_succ_cons, List.drop_zero, List.reverse_cons, List.reverse_nil, List.length_cons, List.length_nil, Option.toList, true_and, and_true, eq_self, ↓reduceIte, not_true_eq_false, not_false_eq_true, true_or, or_true] | with_reducible refine And.intro ?_ ?_ | with_reducible intro _)
  all_goals (try (first | omega | (exfalso; assumption) | omega))
theorem k80_0 : pg.1 80 0 = [.aload 0, .getfield 506, .ireturn] := rfl
theorem a80_0 {tb : Tab} {d : Nat} {K : Out → AM → Prop} {ls st : List AV} {m : AM} : At tb d 80 K 0 ls st m = wpB tb (pg.2.1 80) (Runs tb pg d) K (At tb d 80 K) [.aload 0, .getfield 506, .ireturn] ls st m := At.eq k80_0
theorem w_80 (hK : K (.inl (some (vi (S 64 6)))) (X S m)) : Runs tb pg (d + 1) 80 [vr 64] (X S m) K := by
  refine Runs.of (al := [vr 64]) (n := 0) ⟨64, _, _, rfl, xo_64⟩ rfl rfl trivial ?_
  repeat' (first | omega | with_reducible exact hK | simp only [w_aload, x_g506_64, w_ireturn, a80_0, R32, List.getElem?_cons_zero, List.getElem?_cons_succ, List.set_cons_zero, List.set_cons_succ, List.cons_append, List.nil_append, List.replicate_succ, List.replicate_zero, List.take_succ_cons, List.take_zero, List.drop_succ_cons, List.drop_zero, List.reverse_cons, List.reverse_nil, List.length_cons, List.length_nil, Option.toList, true_and, and_true, eq_self, ↓reduceIte, not_true_eq_false, not_false_eq_true, true_or, or_true] | with_reducible refine And.intro ?_ ?_ | with_reducible intro _)
  all_goals (try (first | omega | (exfalso; assumption) | skip))
theorem k81_0 : pg.1 81 0 = [.aload 0, .getfield 505, .iload 1, .iaload, .ireturn] := rfl
theorem a81_0 {tb : Tab} {d : Nat} {K : Out → AM → Prop} {ls st : List AV} {m : AM} : At tb d 81 K 0 ls st m = wpB tb (pg.2.1 81) (Runs tb pg d) K (At tb d 81 K) [.aload 0, .getfield 505, .iload 1, .iaload, .ireturn] ls st m := At.eq k81_0
theorem w_81 {p : Int} (hp : 0 ≤ p ∧ p < 6) (hK : K (.inl (some (vi (S 69 p)))) (X S m)) : Runs tb pg (d + 1) 81 [vr 64, vi p] (X S m) K := by
  refine Runs.of (al := [vr 64, vi p]) (n := 0) ⟨64, _, _, rfl, xo_64⟩ rfl rfl trivial ?_
  repeat' (first | omega | with_reducible exact hK | simp only [w_aload, x_g505_64, w_iload, x_iald, w_ialoads, w_ialoadw, w_ireturn, isA_w1, isA_w2, isA_w3, isA_w4, isA_w5, isA_w6, isA_w7, isA_w8, isA_w10, isA_w11, isA_w12, isA_w14, isA_w15, isA_w16, len_w1, len_w2, len_w3, len_w4, len_w5, len_w6, len_w7, len_w8, len_w10, len_w11, len_w12, len_w14, len_w15, len_w16, isA_68, len_68, isA_69, len_69, Int.cast_ofNat_Int, a81_0, R32, List.getElem?_cons_zero, List.getElem?_cons_succ, List.set_cons_zero, List.set_cons_succ, List.cons_append, List.nil_append, List.replicate_succ, List.replicate_zero, List.take_succ_cons, List.take_zero, List.drop_succ_cons, List.drop_zero, List.reverse_cons, List.reverse_nil, List.length_cons, List.length_nil, Option.toList, true_and, and_true, eq_self, ↓reduceIte, not_true_eq_false, not_false_eq_true, true_or, or_true] | with_reducible refine And.intro ?_ ?_ | with_reducible intro _)
  all_goals (try (first | omega | (exfalso; assumption) | skip))
theorem k79_0 : pg.1 79 0 = [.iload 2, .aload 1, .getfield 804, .if_icmp .ge 14, .iload 2, .bipush 6, .if_icmp .lt 43, .jsr 14] := rfl
theorem a79_0 {tb : Tab} {d : Nat} {K : Out → AM → Prop} {ls st : List AV} {m : AM} : At tb d 79 K 0 ls st m = wpB tb (pg.2.1 79) (Runs tb pg d) K (At tb d 79 K) [.iload 2, .aload 1, .getfield 804, .if_icmp .ge 14, .iload 2, .bipush 6, .if_icmp .lt 43, .jsr 14] ls st m := At.eq k79_0
theorem k79_14 : pg.1 79 14 = [.iload 3, .aload 0, .getfield 506, .if_icmp .le 42, .aload 0, .iload 3, .putfield 506, .aload 0, .getfield 504, .bipush 0, .aload 0, .getfield 505, .bipush 0, .bipush 6, .invokestatic 2, .jsr 42] := rfl
theorem a79_14 {tb : Tab} {d : Nat} {K : Out → AM → Prop} {ls st : List AV} {m : AM} : At tb d 79 K 14 ls st m = wpB tb (pg.2.1 79) (Runs tb pg d) K (At tb d 79 K) [.iload 3, .aload 0, .getfield 506, .if_icmp .le 42, .aload 0, .iload 3, .putfield 506, .aload 0, .getfield 504, .bipush 0, .aload 0, .getfield 505, .bipush 0, .bipush 6, .invokestatic 2, .jsr 42] ls st m := At.eq k79_14
theorem k79_42 : pg.1 79 42 = [.return_] := rfl
theorem a79_42 {tb : Tab} {d : Nat} {K : Out → AM → Prop} {ls st : List AV} {m : AM} : At tb d 79 K 42 ls st m = wpB tb (pg.2.1 79) (Runs tb pg d) K (At tb d 79 K) [.return_] ls st m := At.eq k79_42
theorem k79_43 : pg.1 79 43 = [.aload 0, .aload 1, .iload 2, .bipush 1, .iadd, .iload 3, .invokeinterface 79 4, .aload 0, .getfield 504, .iload 2, .iaload, .bipush (-1), .if_icmp .eq 63, .return_] := rfl
theorem a79_43 {tb : Tab} {d : Nat} {K : Out → AM → Prop} {ls st : List AV} {m : AM} : At tb d 79 K 43 ls st m = wpB tb (pg.2.1 79) (Runs tb pg d) K (At tb d 79 K) [.aload 0, .aload 1, .iload 2, .bipush 1, .iadd, .iload 3, .invokeinterface 79 4, .aload 0, .getfield 504, .iload 2, .iaload, .bipush (-1), .if_icmp .eq 63, .return_] ls st m := At.eq k79_43
theorem k79_63 : pg.1 79 63 = [.iload 2, .bipush 1, .iadd, .istore 4, .jsr 68] := rfl
theorem a79_63 {tb : Tab} {d : Nat} {K : Out → AM → Prop} {ls st : List AV} {m : AM} : At tb d 79 K 63 ls st m = wpB tb (pg.2.1 79) (Runs tb pg d) K (At tb d 79 K) [.iload 2, .bipush 1, .iadd, .istore 4, .jsr 68] ls st m := At.eq k79_63
theorem k79_68 : pg.1 79 68 = [.iload 4, .aload 1, .getfield 804, .if_icmp .ge 154, .aload 0, .getfield 504, .iload 4, .iaload, .bipush (-1), .if_icmp .ne 148, .aload 0, .getfield 504, .iload 2, .iload 4, .iastore, .aload 0, .getfield 504, .iload 4, .iload 2, .iastore, .aload 1, .iload 2, .invokeinterface 116 2, .aload 1, .iload 4, .invokeinterface 116 2, .iand, .invokeinterface 382 1, .istore 5, .aload 0, .aload 1, .iload 2, .bipush 1, .iadd, .iload 3, .iload 5, .iadd, .invokeinterface 79 4, .aload 0, .getfield 504, .iload 2, .bipush (-1), .iastore, .aload 0, .getfield 504, .iload 4, .bipush (-1), .iastore, .jsr 148] := rfl
theorem a79_68 {tb : Tab} {d : Nat} {K : Out → AM → Prop} {ls st : List AV} {m : AM} : At tb d 79 K 68 ls st m = wpB tb (pg.2.1 79) (Runs tb pg d) K (At tb d 79 K) [.iload 4, .aload 1, .getfield 804, .if_icmp .ge 154, .aload 0, .getfield 504, .iload 4, .iaload, .bipush (-1), .if_icmp .ne 148, .aload 0, .getfield 504, .iload 2, .iload 4, .iastore, .aload 0, .getfield 504, .iload 4, .iload 2, .iastore, .aload 1, .iload 2, .invokeinterface 116 2, .aload 1, .iload 4, .invokeinterface 116 2, .iand, .invokeinterface 382 1, .istore 5, .aload 0, .aload 1, .iload 2, .bipush 1, .iadd, .iload 3, .iload 5, .iadd, .invokeinterface 79 4, .aload 0, .getfield 504, .iload 2, .bipush (-1), .iastore, .aload 0, .getfield 504, .iload 4, .bipush (-1), .iastore, .jsr 148] ls st m := At.eq k79_68
theorem k79_148 : pg.1 79 148 = [.iinc 4 1, .goto 68] := rfl
theorem a79_148 {tb : Tab} {d : Nat} {K : Out → AM → Prop} {ls st : List AV} {m : AM} : At tb d 79 K 148 ls st m = wpB tb (pg.2.1 79) (Runs tb pg d) K (At tb d 79 K) [.iinc 4 1, .goto 68] ls st m := At.eq k79_148
theorem k79_154 : pg.1 79 154 = [.return_] := rfl
theorem a79_154 {tb : Tab} {d : Nat} {K : Out → AM → Prop} {ls st : List AV} {m : AM} : At tb d 79 K 154 ls st m = wpB tb (pg.2.1 79) (Runs tb pg d) K (At tb d 79 K) [.return_] ls st m := At.eq k79_154
theorem w_79 {v : Nat} (hv : isW v) (hA : AB r) (hV : GV r) : ∀ (j p : Nat) (sh : Int) (S : Nat → Int → Int) (K : Out → AM → Prop), (p : Int) + j = r 4 → RW S v r → (∀ k, 0 ≤ k → k < 6 → -1 ≤ S 68 k ∧ S 68 k < 6) → (-1 ≤ S 64 6 ∧ S 64 6 ≤ 100000) → (0 ≤ sh ∧ sh ≤ 31 * p) → (∀ T, tpO (pr r) (r 4) S T p sh (lS (S 68) p (r 4)) → K (.inl none) (X T m)) → Runs tb pg (d + (j + 1)) 79 [vr 64, vr v, vi p, vi sh] (X S m) K
  | 0, p, sh, S, K, hp, hR, hb, hm, hs, hK => by
    have q4 := hA.2.1.2.1
    have t4 : S v 4 = r 4 := hR.1.2.1
    have ep : (p : Int) = r 4 := by omega
    have hno : sh ≤ S 64 6 → K (.inl none) (X S m) := fun y => hK _ (by rw [ep]; exact tp_no q4 y)
    have hyes : S 64 6 < sh → K (.inl none) (X (cpyS (upS S 64 6 sh) 68 69 0 0 6) m) := fun y => hK _ (by rw [ep]; exact tp_yes q4 y)
    refine Runs.of (al := [vr 64, vr v, vi p, vi sh]) (n := 2) ⟨64, _, _, rfl, xo_64⟩ rfl rfl trivial ?_
    repeat' (first | omega | (exact hno (by omega)) | (exact hyes (by omega)) | simp only [w_iload, w_aload, x_g804_w0, w_ifc, cI, Int.reduceToNat, w_iconst, w_fall, x_g506_64, x_p506_64, x_g504_64, x_g505_64, x_copy, w_return, w_iadd, w_call, x_iald, w_ialoads, w_ialoadw, w_istore, x_iast, w_iand, w_iinc, lgB, Nat.reduceSub, w_goto, isA_w1, isA_w2, isA_w3, isA_w4, isA_w5, isA_w6, isA_w7, isA_w8, isA_w10, isA_w11, isA_w12, isA_w14, isA_w15, isA_w16, len_w1, len_w2, len_w3, len_w4, len_w5, len_w6, len_w7, len_w8, len_w10, len_w11, len_w12, len_w14, len_w15, len_w16, isA_68, len_68, isA_69, len_69, Int.cast_ofNat_Int, a79_0, a79_14, a79_42, a79_63, a79_148, a79_154, R32, List.getElem?_cons_zero, List.getElem?_cons_succ, List.set_cons_zero, List.set_cons_succ, List.cons_append, List.nil_append, List.replicate_succ, List.replicate_zero, List.take_succ_cons, List.take_zero, List.drop_succ_cons, List.drop_zero, List.reverse_cons, List.reverse_nil, List.length_cons, List.length_nil, Option.toList, true_and, and_true, eq_self, ↓reduceIte, not_true_eq_false, not_false_eq_true, true_or, or_true, hv] | with_reducible refine And.intro ?_ ?_ | with_reducible intro _)
    all_goals (try (first | omega | (exfalso; assumption) | skip))
  | j + 1, p, sh, S, K, hp, hR, hb, hm, hs, hK => by
    have q4 := hA.2.1.2.1
    have t4 : S v 4 = r 4 := hR.1.2.1
    have qw : pw (r 4) ≤ 64 := pw_le (q := 6) q4.1 q4.2
    have bp := hb p (by omega) (by omega)
    have rg := lS_rg (g := S 68) (p := (p : Int)) q4
    have hfirst : ∀ (K2 : Out → AM → Prop), (∀ T, tpO (pr r) (r 4) S T ((p : Int) + 1) sh (lS (S 68) ((p : Int) + 1) (r 4)) → K2 (.inl none) (X T m)) → Runs tb pg (d + (j + 1)) 79 [vr 64, vr v, vi ((p : Int) + 1), vi sh] (X S m) K2 := fun K2 h => w_79 hv hA hV j (p + 1) sh S K2 (by omega) hR hb hm (by omega) h
    have hhave : ∀ T, tpO (pr r) (r 4) S T ((p : Int) + 1) sh (lS (S 68) ((p : Int) + 1) (r 4)) → S 68 p ≠ -1 → K (.inl none) (X T m) := fun T hT y => hK T (tp_have q4 hT y)
    have h63 : ∀ T1, tpO (pr r) (r 4) S T1 ((p : Int) + 1) sh (lS (S 68) ((p : Int) + 1) (r 4)) → S 68 p = -1 → ∀ (z4 z5 : AV), At tb (d + (j + 1)) 79 K 68 [vr 64, vr v, vi p, vi sh, vi ((p : Int) + 1), z5] [] (X T1 m) := by
      intro T1 hT1 hp1 z4 z5
      have hl := lS_y q4 (by omega) (by omega) hp1
      have hbit := clr_eq rg.1 (by omega) (by omega) (by omega) hl.1.2.1
      have pp := pw_pos (p : Int)
      have h116 : ∀ (T : Nat → Int → Int) (q : Int) (K2 : Out → AM → Prop), RW T v r → (0 ≤ q ∧ q < r 4) → (∀ v1, v1 = kindsM (pr r) q (pr r q 0) → K2 (.inl (some (vi v1))) (X T m)) → Runs tb pg (d + (j + 1)) 116 [vr v, vi q] (X T m) K2 := fun T q K2 hT hq h => Runs.le (d := 0 + 1) (w_116 hv hT hA hq h) (by omega)
      have h382 : ∀ (s : Int) (m2 : AM) (K2 : Out → AM → Prop), (0 ≤ s ∧ s < 256) → (∀ v1, v1 = bitsM s 31 → K2 (.inl (some (vi v1))) m2) → Runs tb pg (d + (j + 1)) 382 [vi s] m2 K2 := fun s m2 K2 hs h => Runs.le (d := 0 + 1) (w_382b hs h) (by omega)
      have hcall : ∀ (T : Nat → Int → Int) (o b x w : Int) (K2 : Out → AM → Prop), (p : Int) < o → o < r 4 → plO (pr r) (r 4) S T p sh (lS (S 68) p (r 4)) o x w → S 68 o = -1 → b = comM (pr r) p o → (∀ U x2 w2, plO (pr r) (r 4) S (upS (upS U 68 p (-1)) 68 o (-1)) p sh (lS (S 68) p (r 4)) (o + 1) x2 w2 → K2 (.inl none) (X U m)) → Runs tb pg (d + (j + 1)) 79 [vr 64, vr v, vi ((p : Int) + 1), vi (sh + b)] (X (upS (upS T 68 p o) 68 o p) m) K2 := by
        intro T o b x w K2 o0 o1 hT ho hbb hK2
        have e68 : ∀ k, (upS (upS T 68 p o) 68 o p) 68 k = if k = o then (p : Int) else if k = (p : Int) then o else S 68 k := fun k => by
          rw [upS_at, upS_at, hT.2.1]
          by_cases y : k = o
          · rw [if_pos ⟨rfl, y⟩, if_pos y]
          · rw [if_neg (fun z => y z.2), if_neg y]
            by_cases z : k = p
            · rw [if_pos ⟨rfl, z⟩, if_pos z]
            · rw [if_neg (fun q => z q.2), if_neg z]
        have l2 := lS_2 (g := S 68) q4 (by omega) o0 o1 ho e68
        have xr := px_rg q4 (by omega) hl.1 (by omega) hT.2.2.1
        have mo := pl_mo q4 (by omega) hT xr hm
        have cb := bits_le (andI (kindsM (pr r) p (pr r p 0)) (kindsM (pr r) o (pr r o 0)))
        have cb2 : b = bitsM (andI (kindsM (pr r) p (pr r p 0)) (kindsM (pr r) o (pr r o 0))) 31 := hbb
        refine w_79 hv hA hV j (p + 1) (sh + b) _ K2 (by omega) (tpF_W hv hR (tpF_u (tpF_u hT.1))) (fun k k0 k1 => ?_) mo (by omega) (fun U hU => ?_)
        · rw [e68]
          have := hb k k0 k1
          split
          · omega
          · split <;> omega
        · rw [show (((p + 1 : Nat)) : Int) = (p : Int) + 1 by omega] at hU
          rw [l2.2, hl.2, hbb] at hU
          have hb2 := l2.1
          rw [hl.2] at hb2
          obtain ⟨x2, w2, h⟩ := pl_y o0 (by omega) hT hp1 ho hb2 hU
          exact hK2 U x2 w2 h
      have hL68 : (fun i : Int => ∀ (z : Int) (z5 : AV) (x : Int) (w9 : Int) (T : Nat → Int → Int), z = (p : Int) + 1 + i → (plO (pr r) (r 4) S T p sh (lS (S 68) p (r 4)) z x w9) → At tb (d + (j + 1)) 79 K 68 [vr 64, vr v, vi p, vi sh, vi z, z5] [] (X T m)) 0 := by
        refine loopZ (fun i : Int => ∀ (z : Int) (z5 : AV) (x : Int) (w9 : Int) (T : Nat → Int → Int), z = (p : Int) + 1 + i → (plO (pr r) (r 4) S T p sh (lS (S 68) p (r 4)) z x w9) → At tb (d + (j + 1)) 79 K 68 [vr 64, vr v, vi p, vi sh, vi z, z5] [] (X T m)) (r 4 - ((p : Int) + 1)) (by omega) ?_ ?_
        · intro i h0 h1 h9 z z5 x w9 T hz hT
          have hTR : RW T v r := tpF_W hv hR hT.1
          have t4 : T v 4 = r 4 := hTR.1.2.1
          have e68 : T 68 = S 68 := hT.2.1
          have bz := hb z (by omega) (by omega)
          have bit1 : bitB (lS (S 68) p (r 4) - pw p) z ↔ S 68 z = -1 := by
            rw [← hl.2, lS_bit q4 (by omega) (by omega)]
            exact ⟨fun y => y.2.2, fun y => ⟨by omega, by omega, y⟩⟩
          have hT2 : RW (upS (upS T 68 p z) 68 z p) v r := tpF_W hv hR (tpF_u (tpF_u hT.1))
          have kp := kinds_r hA hV (p := z) ⟨by omega, by omega⟩
          rw [a79_68]
          repeat' (first | omega | (refine h9 _ _ x9 w8 _ ?_ ?_) | (refine h9 _ _ x w9 _ ?_ ?_) | simp only [w_iload, w_aload, x_g804_w0, w_ifc, cI, Int.reduceToNat, w_iconst, w_fall, x_g506_64, x_p506_64, x_g504_64, x_g505_64, x_copy, w_return, w_iadd, w_call, x_iald, w_ialoads, w_ialoadw, w_istore, x_iast, w_iand, w_iinc, lgB, Nat.reduceSub, w_goto, isA_w1, isA_w2, isA_w3, isA_w4, isA_w5, isA_w6, isA_w7, isA_w8, isA_w10, isA_w11, isA_w12, isA_w14, isA_w15, isA_w16, len_w1, len_w2, len_w3, len_w4, len_w5, len_w6, len_w7, len_w8, len_w10, len_w11, len_w12, len_w14, len_w15, len_w16, isA_68, len_68, isA_69, len_69, Int.cast_ofNat_Int, a79_0, a79_14, a79_42, a79_43, a79_63, a79_148, a79_154, R32, List.getElem?_cons_zero, List.getElem?_cons_succ, List.set_cons_zero, List.set_cons_succ, List.cons_append, List.nil_append, List.replicate_succ, List.replicate_zero, List.take_succ_cons, List.take_zero, List.drop_succ_cons, List.drop_zero, List.reverse_cons, List.reverse_nil, List.length_cons, List.length_nil, Option.toList, true_and, and_true, eq_self, ↓reduceIte, not_true_eq_false, not_false_eq_true, true_or, or_true, hv, up_lit, ne_eq, Nat.reduceEqDiff, not_false_eq_true] | (have tz : T 68 z = S 68 z := congrFun e68 z; (with_reducible refine h116 _ (p : Int) _ hT2 ⟨?_, ?_⟩ (fun v1 x1 => ?_))) | ((with_reducible refine h116 _ z _ hT2 ⟨?_, ?_⟩ (fun v2 x2 => ?_)); rotate_right; have ab := and_256 (a := v1) (b := v2) (by omega) (by omega)) | ((with_reducible refine h382 _ _ _ ab (fun v3 x3 => ?_)); rw [x1, x2] at x3; have s1 : S 68 z = -1 := (by omega)) | (have x4 : v3 = comM (pr r) p z := x3; (with_reducible refine hcall T z _ _ _ _ ?_ ?_ hT s1 x4 (fun U x9 w8 hU => ?_))) | with_reducible refine And.intro ?_ ?_ | with_reducible intro _)
          all_goals (try (first | omega | contradiction | exact hU | exact hT | (exact pl_n hT (fun y => by have := bit1.mp y; rw [← e68] at this; omega)) | (rw [e68] at *; omega)))
        · intro z z5 x w9 T hz hT
          have hTR : RW T v r := tpF_W hv hR hT.1
          have t4 : T v 4 = r 4 := hTR.1.2.1
          rw [a79_68]
          repeat' (first | omega | (exact hK _ (pl_e q4 (by omega) (by omega) hp1 (by rw [hz, show (p : Int) + 1 + (r 4 - ((p : Int) + 1)) = r 4 by omega] at hT; exact hT))) | simp only [w_iload, w_aload, x_g804_w0, w_ifc, cI, Int.reduceToNat, w_iconst, w_fall, x_g506_64, x_p506_64, x_g504_64, x_g505_64, x_copy, w_return, w_iadd, w_call, x_iald, w_ialoads, w_ialoadw, w_istore, x_iast, w_iand, w_iinc, lgB, Nat.reduceSub, w_goto, isA_w1, isA_w2, isA_w3, isA_w4, isA_w5, isA_w6, isA_w7, isA_w8, isA_w10, isA_w11, isA_w12, isA_w14, isA_w15, isA_w16, len_w1, len_w2, len_w3, len_w4, len_w5, len_w6, len_w7, len_w8, len_w10, len_w11, len_w12, len_w14, len_w15, len_w16, isA_68, len_68, isA_69, len_69, Int.cast_ofNat_Int, a79_0, a79_14, a79_42, a79_43, a79_63, a79_148, a79_154, R32, List.getElem?_cons_zero, List.getElem?_cons_succ, List.set_cons_zero, List.set_cons_succ, List.cons_append, List.nil_append, List.replicate_succ, List.replicate_zero, List.take_succ_cons, List.take_zero, List.drop_succ_cons, List.drop_zero, List.reverse_cons, List.reverse_nil, List.length_cons, List.length_nil, Option.toList, true_and, and_true, eq_self, ↓reduceIte, not_true_eq_false, not_false_eq_true, true_or, or_true, hv, up_lit, ne_eq, Nat.reduceEqDiff, not_false_eq_true] | (have tz : T 68 z = S 68 z := congrFun e68 z; (with_reducible refine h116 _ (p : Int) _ hT2 ⟨?_, ?_⟩ (fun v1 x1 => ?_))) | ((with_reducible refine h116 _ z _ hT2 ⟨?_, ?_⟩ (fun v2 x2 => ?_)); rotate_right; have ab := and_256 (a := v1) (b := v2) (by omega) (by omega)) | ((with_reducible refine h382 _ _ _ ab (fun v3 x3 => ?_)); rw [x1, x2] at x3; have s1 : S 68 z = -1 := (by omega)) | (have x4 : v3 = comM (pr r) p z := x3; (with_reducible refine hcall T z _ _ _ _ ?_ ?_ hT s1 x4 (fun U x9 w8 hU => ?_))) | with_reducible refine And.intro ?_ ?_ | with_reducible intro _)
          all_goals (try (first | omega | contradiction | skip))
      exact hL68 _ _ _ _ _ (by omega) (pl_0 q4 (by omega) (by omega) hp1 hT1)
    show Runs tb pg ((d + (j + 1)) + 1) 79 _ _ K
    refine Runs.of (al := [vr 64, vr v, vi p, vi sh]) (n := 2) ⟨64, _, _, rfl, xo_64⟩ rfl rfl trivial ?_
    repeat' (first | omega | (exact h63 _ hT1 (by have := congrFun hT1.2.1 (p : Int); omega) vu _) | (exact hhave _ hT1 (by have := congrFun hT1.2.1 (p : Int); omega)) | simp only [w_iload, w_aload, x_g804_w0, w_ifc, cI, Int.reduceToNat, w_iconst, w_fall, x_g506_64, x_p506_64, x_g504_64, x_g505_64, x_copy, w_return, w_iadd, w_call, x_iald, w_ialoads, w_ialoadw, w_istore, x_iast, w_iand, w_iinc, lgB, Nat.reduceSub, w_goto, isA_w1, isA_w2, isA_w3, isA_w4, isA_w5, isA_w6, isA_w7, isA_w8, isA_w10, isA_w11, isA_w12, isA_w14, isA_w15, isA_w16, len_w1, len_w2, len_w3, len_w4, len_w5, len_w6, len_w7, len_w8, len_w10, len_w11, len_w12, len_w14, len_w15, len_w16, isA_68, len_68, isA_69, len_69, Int.cast_ofNat_Int, a79_0, a79_42, a79_43, a79_63, a79_148, a79_154, R32, List.getElem?_cons_zero, List.getElem?_cons_succ, List.set_cons_zero, List.set_cons_succ, List.cons_append, List.nil_append, List.replicate_succ, List.replicate_zero, List.take_succ_cons, List.take_zero, List.drop_succ_cons, List.drop_zero, List.reverse_cons, List.reverse_nil, List.length_cons, List.length_nil, Option.toList, true_and, and_true, eq_self, ↓reduceIte, not_true_eq_false, not_false_eq_true, true_or, or_true, hv] | ((with_reducible refine hfirst _ (fun T1 hT1 => ?_)); have te : T1 68 p = S 68 p := congrFun hT1.2.1 (p : Int)) | with_reducible refine And.intro ?_ ?_ | with_reducible intro _)
    all_goals (try (first | omega | (exfalso; assumption) | skip))
theorem k78_0 : pg.1 78 0 = [.aload 0, .getfield 504, .bipush (-1), .invokeinterface 384 2, .aload 0, .bipush (-1), .putfield 506, .aload 0, .aload 1, .bipush 0, .bipush 0, .invokeinterface 79 4, .return_] := rfl
theorem a78_0 {tb : Tab} {d : Nat} {K : Out → AM → Prop} {ls st : List AV} {m : AM} : At tb d 78 K 0 ls st m = wpB tb (pg.2.1 78) (Runs tb pg d) K (At tb d 78 K) [.aload 0, .getfield 504, .bipush (-1), .invokeinterface 384 2, .aload 0, .bipush (-1), .putfield 506, .aload 0, .aload 1, .bipush 0, .bipush 0, .invokeinterface 79 4, .return_] ls st m := At.eq k78_0
theorem w_78 {v : Nat} (hv : isW v) (hR : RW S v r) (hA : AB r) (hV : GV r) (hK : ∀ T, tpF S T → T 64 6 = pF (pr r) (r 4) (pw (r 4) - 1) → (∀ k, 0 ≤ k → k < r 4 → T 69 k = dC (pr r) (r 4) k (pw (r 4) - 1)) → K (.inl none) (X T m)) : Runs tb pg (d + 8) 78 [vr 64, vr v] (X S m) K := by
  have q4 := hA.2.1.2.1
  have qw : pw (r 4) ≤ 64 := pw_le (q := 6) q4.1 q4.2
  have q1 := pw_pos (r 4)
  obtain ⟨S1, hS1⟩ : ∃ S1, S1 = upS (fun b => if b = 68 then (fun j => if 0 ≤ j ∧ j < 6 then -1 else S 68 j) else S b) 64 6 (-1) := ⟨_, rfl⟩
  have f1 : tpF S S1 := by
    rw [hS1]
    exact ⟨fun a a1 a2 a3 => (up_lit a1).trans (if_neg a2), fun j hj => by rw [upS_at, if_neg (fun y => hj y.2)]; exact congrFun (if_neg (by decide)) j⟩
  have e6 : S1 64 6 = -1 := by rw [hS1, upS_at, if_pos ⟨rfl, rfl⟩]
  have e68 : ∀ j, 0 ≤ j → j < 6 → S1 68 j = -1 := fun j j0 j1 => by
    rw [hS1, up_lit (by decide)]
    show (if 0 ≤ j ∧ j < 6 then (-1 : Int) else S 68 j) = -1
    rw [if_pos ⟨j0, j1⟩]
  have el : lS (S1 68) 0 (r 4) = pw (r 4) - 1 := by
    have a := lS_rg (g := S1 68) (p := 0) q4
    refine set_ext a.1 (by omega) (by omega) (by omega) (fun j j0 j1 => ?_)
    rw [lS_bit q4 j0 j1, bit_full q4 j0 j1]
    exact ⟨fun y => y.1, fun y => ⟨y, j0, e68 j j0 (by omega)⟩⟩
  have hcall : ∀ (K2 : Out → AM → Prop), (∀ T, tpO (pr r) (r 4) S1 T 0 0 (lS (S1 68) 0 (r 4)) → K2 (.inl none) (X T m)) → Runs tb pg (d + 7) 79 [vr 64, vr v, vi 0, vi 0] (X S1 m) K2 := fun K2 h => by
    refine Runs.le (d := d + ((r 4).toNat + 1)) ?_ (by omega)
    exact w_79 hv hA hV (r 4).toNat 0 0 S1 K2 (by omega) (tpF_W hv hR f1) (fun k k0 k1 => by rw [e68 k k0 k1]; omega) (by rw [e6]; omega) (by omega) h
  have hfin : ∀ T, tpO (pr r) (r 4) S1 T 0 0 (lS (S1 68) 0 (r 4)) → K (.inl none) (X T m) := fun T hT => by
    rw [el] at hT
    have b := (pF_is (P := pr r) q4).2 (pw (r 4) - 1) (by omega) (by omega)
    refine hK T (tpF_t f1 hT.1) ?_ (fun k k0 k1 => ?_)
    · rcases hT.2.2 with z | z <;> omega
    · rcases hT.2.2 with z | z
      · omega
      · rw [z.2.2 k k0 k1, if_neg]
        intro c
        rcases c with c | c
        · omega
        · exact c (e68 k k0 (by omega))
  have hfill : ∀ (K2 : Out → AM → Prop), K2 (.inl none) (X (fun b => if b = 68 then (fun j => if 0 ≤ j ∧ j < 6 then -1 else S 68 j) else S b) m) → Runs tb pg (d + 7) 384 [vr 68, vi (-1)] (X S m) K2 := fun K2 h => by
    refine Runs.le (d := d + 1) ?_ (by omega)
    refine r_384 (f := fun n => S 68 n) (len := 6) (X_1 (by decide)) (by decide) ?_
    rw [X_set (r := fun j => if 0 ≤ j ∧ j < 6 then -1 else S 68 j) (by decide) ?_]
    · exact h
    · show ca 0 6 _ = ca 0 6 _
      refine congrArg (ca 0 6) (funext fun k => ?_)
      by_cases y : k < 6
      · exact (if_pos (show 0 ≤ (k : Int) ∧ (k : Int) < 6 by omega)).trans (if_pos y).symm
      · exact (if_neg (show ¬ (0 ≤ (k : Int) ∧ (k : Int) < 6) by omega)).trans (if_neg y).symm
  refine Runs.of (al := [vr 64, vr v]) (n := 0) ⟨64, _, _, rfl, xo_64⟩ rfl rfl trivial ?_
  repeat' (first | omega | (exact hfin _ hT9) | simp only [w_aload, x_g504_64, w_iconst, w_call, x_p506_64, w_return, a78_0, R32, List.getElem?_cons_zero, List.getElem?_cons_succ, List.set_cons_zero, List.set_cons_succ, List.cons_append, List.nil_append, List.replicate_succ, List.replicate_zero, List.take_succ_cons, List.take_zero, List.drop_succ_cons, List.drop_zero, List.reverse_cons, List.reverse_nil, List.length_cons, List.length_nil, Option.toList, true_and, and_true, eq_self, ↓reduceIte, not_true_eq_false, not_false_eq_true, true_or, or_true, hv] | with_reducible refine hfill _ ?_ | ((try rw [← hS1]); with_reducible refine hcall _ (fun T9 hT9 => ?_)) | with_reducible refine And.intro ?_ ?_ | with_reducible intro _)
  all_goals (try (first | omega | (exfalso; assumption) | skip))
end Names7
