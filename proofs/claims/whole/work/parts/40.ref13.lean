/-! ===== THE REFERENCE: pairs ===== -/
theorem bit_ex {s : Int} (h0 : 1 ≤ s) (h1 : s < 256) : ∃ j, 0 ≤ j ∧ j < 8 ∧ bitB s j := by
  refine Classical.byContradiction fun z => ?_
  have e : s = 0 := set_ext (by omega) h1 (by decide) (by decide) fun k k0 k1 => ⟨fun q => absurd ⟨k, k0, k1, q⟩ z, fun q => absurd q (bit_0 k0 k1)⟩
  omega
theorem bit_lt {s k n : Int} (h0 : 0 ≤ s) (hn : 0 ≤ n) (h1 : s < pw n) (hk : k < 8) (hb : bitB s k) : k < n := by
  refine Classical.byContradiction fun z => ?_
  have := pw_le (p := n) (q := k) hn (by omega)
  exact (bit_hi (p := k) (by omega) hk h0 (by omega)).2 hb
/-- the least of a set -/
def isLow (s p : Int) : Prop := (0 ≤ p ∧ p < 8) ∧ bitB s p ∧ ∀ j, 0 ≤ j → j < p → ¬ bitB s j
/-- the most letters shared by a set whose least is p, with the partners below o -/
def isPx (P : Int → Int → Int) (f : Int → Int) (s p o x : Int) : Prop := f (s - pw p) ≤ x ∧ (∀ q, p < q → q < o → bitB (s - pw p) q → comM P p q + f (s - pw p - pw q) ≤ x) ∧ (x = f (s - pw p) ∨ ∃ q, p < q ∧ q < o ∧ bitB (s - pw p) q ∧ x = comM P p q + f (s - pw p - pw q))
theorem isPx_0 {P : Int → Int → Int} {f : Int → Int} {s p : Int} : isPx P f s p (p + 1) (f (s - pw p)) := ⟨Int.le_refl _, fun q h0 h1 => by omega, Or.inl rfl⟩
theorem isPx_n {P : Int → Int → Int} {f : Int → Int} {s p o x : Int} (h : isPx P f s p o x) (hb : ¬ bitB (s - pw p) o) : isPx P f s p (o + 1) x := by
  refine ⟨h.1, fun q h0 h1 h2 => ?_, ?_⟩
  · by_cases e : q = o
    · subst e; exact absurd h2 hb
    · exact h.2.1 q h0 (by omega) h2
  · rcases h.2.2 with z | ⟨q, q0, q1, q2⟩
    · exact Or.inl z
    · exact Or.inr ⟨q, q0, by omega, q2⟩
theorem isPx_y {P : Int → Int → Int} {f : Int → Int} {s p o x y : Int} (hp : p < o) (h : isPx P f s p o x) (hb : bitB (s - pw p) o) (hy : y = if comM P p o + f (s - pw p - pw o) < x then x else comM P p o + f (s - pw p - pw o)) : isPx P f s p (o + 1) y := by
  have h1 := h.1
  refine ⟨by split at hy <;> omega, fun q q0 q1 q2 => ?_, ?_⟩
  · by_cases e : q = o
    · subst e; split at hy <;> omega
    · have := h.2.1 q q0 (by omega) q2
      split at hy <;> omega
  · by_cases e : comM P p o + f (s - pw p - pw o) < x
    · rw [if_pos e] at hy
      subst hy
      rcases h.2.2 with z | ⟨q, q0, q1, q2⟩
      · exact Or.inl z
      · exact Or.inr ⟨q, q0, by omega, q2⟩
    · rw [if_neg e] at hy
      exact Or.inr ⟨o, hp, by omega, hb, hy⟩
theorem isPx_bd {P : Int → Int → Int} {f : Int → Int} {s p o x : Int} (h : isPx P f s p o x) (hs : 1 ≤ s ∧ s < 64) (hp : 0 ≤ p ∧ p < 6) (ho : o ≤ 6) (hb : bitB s p) (hf : ∀ j, 0 ≤ j → j < s → 0 ≤ f j ∧ f j ≤ 31 * j) : 0 ≤ x ∧ x ≤ 31 * s := by
  have q := (clr_eq (s := s) (by omega) hs.2 hp.1 hp.2 hb).2.2
  have w := pw_pos p
  have u := hf (s - pw p) (by omega) (by omega)
  refine ⟨by have := h.1; omega, ?_⟩
  rcases h.2.2 with z | ⟨q, q0, q1, q2, q3⟩
  · omega
  · have e := (clr_eq (s := s - pw p) (p := q) (by omega) (by omega) (by omega) (by omega) q2).2.2
    have e2 := pw_pos q
    have e3 := hf (s - pw p - pw q) (by omega) (by omega)
    have e4 := bits_le (andI (kindsM P p (P p 0)) (kindsM P q (P q 0)))
    unfold comM at q3
    omega
theorem isPx_congr {P : Int → Int → Int} {f g : Int → Int} {s p o x : Int} (h : isPx P f s p o x) (hs : 1 ≤ s ∧ s < 64) (hp : 0 ≤ p ∧ p < 6) (ho : o ≤ 6) (hb : bitB s p) (z : ∀ j, 0 ≤ j → j < s → f j = g j) : isPx P g s p o x := by
  have q := (clr_eq (s := s) (by omega) hs.2 hp.1 hp.2 hb).2.2
  have w := pw_pos p
  have e1 := z (s - pw p) (by omega) (by omega)
  have e2 : ∀ q, p < q → q < o → bitB (s - pw p) q → f (s - pw p - pw q) = g (s - pw p - pw q) := fun q q0 q1 q2 => by
    have e := (clr_eq (s := s - pw p) (p := q) (by omega) (by omega) (by omega) (by omega) q2).2.2
    have e2 := pw_pos q
    exact z _ (by omega) (by omega)
  refine ⟨by rw [← e1]; exact h.1, fun q q0 q1 q2 => ?_, ?_⟩
  · rw [← e2 q q0 q1 q2]; exact h.2.1 q q0 q1 q2
  · rcases h.2.2 with z | ⟨q, q0, q1, q2, q3⟩
    · exact Or.inl (by rw [← e1]; exact z)
    · exact Or.inr ⟨q, q0, q1, q2, by rw [← e2 q q0 q1 q2]; exact q3⟩
def pxU (P : Int → Int → Int) (T : Nat → Int → Int) (s p o : Int) (U : Nat → Int → Int) : Prop := ∃ x, isPx P (T 310) s p o x ∧ U = upS T 310 s x
/-- f tells of each set below N the most letters shared -/
def isPb (P : Int → Int → Int) (n : Int) (f : Int → Int) (N : Int) : Prop := f 0 = 0 ∧ ∀ s, 1 ≤ s → s < N → ∃ p, isLow s p ∧ isPx P f s p n (f s)
def pbV (P : Int → Int → Int) (n : Int) (T : Nat → Int → Int) (N : Int) : Prop := isPb P n (T 310) N ∧ ∀ s, 0 ≤ s → s < N → 0 ≤ T 310 s ∧ T 310 s ≤ 31 * s
theorem pbV_1 {P : Int → Int → Int} {n : Int} {T : Nat → Int → Int} : pbV P n (upS T 310 0 0) 1 := by
  have e : upS T 310 0 0 310 0 = 0 := by rw [upS_at]; rfl
  refine ⟨⟨e, fun s h1 h2 => by omega⟩, fun s h0 h1 => ?_⟩
  have : s = 0 := by omega
  subst this
  omega
theorem pbV_s {P : Int → Int → Int} {n s p x : Int} {T : Nat → Int → Int} (hn : 0 ≤ n ∧ n ≤ 6) (h : pbV P n T s) (hs : 1 ≤ s ∧ s < pw n) (hp : isLow s p) (hx : isPx P (T 310) s p n x) : pbV P n (upS T 310 s x) (s + 1) := by
  have w := pw_le64 hn.1 hn.2
  have hpn := bit_lt (s := s) (by omega) hn.1 hs.2 hp.1.2 hp.2.1
  have e : ∀ j, j ≠ s → T 310 j = upS T 310 s x 310 j := fun j hj => by rw [upS_at, if_neg (fun z => hj z.2)]
  have e2 : upS T 310 s x 310 s = x := by rw [upS_at, if_pos ⟨rfl, rfl⟩]
  refine ⟨⟨?_, fun q h1 h2 => ?_⟩, fun q h1 h2 => ?_⟩
  · rw [← e 0 (by omega)]; exact h.1.1
  · by_cases z : q = s
    · subst z
      exact ⟨p, hp, by rw [e2]; exact isPx_congr hx (by omega) ⟨hp.1.1, by omega⟩ hn.2 hp.2.1 (fun j j0 j1 => e j (by omega))⟩
    · obtain ⟨r, r1, r2⟩ := h.1.2 q h1 (by omega)
      have hrn := bit_lt (s := q) (by omega) hn.1 (by omega) r1.1.2 r1.2.1
      exact ⟨r, r1, by rw [← e q z]; exact isPx_congr r2 (by omega) ⟨r1.1.1, by omega⟩ hn.2 r1.2.1 (fun j j0 j1 => e j (by omega))⟩
  · by_cases z : q = s
    · subst z
      rw [e2]
      exact isPx_bd hx (by omega) ⟨hp.1.1, by omega⟩ hn.2 hp.2.1 (fun j j0 j1 => h.2 j j0 (by omega))
    · rw [← e q z]; exact h.2 q h1 (by omega)
theorem low_clr {s p n : Int} (h : isLow s p) (hs : 1 ≤ s ∧ s < pw n) (hn : 0 ≤ n ∧ n ≤ 6) : andI s (xorI (shlI 1 p) (-1)) = s - pw p ∧ 0 ≤ s - pw p ∧ s - pw p < s := by
  have w := pw_le64 hn.1 hn.2
  have hpn := bit_lt (s := s) (by omega) hn.1 hs.2 h.1.2 h.2.1
  have q := clr_eq (s := s) (by omega) (by omega) h.1.1 (by omega) h.2.1
  have := pw_pos p
  exact ⟨q.1, by omega, by omega⟩
section Ref13
variable {tb : Tab} {d : Nat} {m : AM} {K : Out → AM → Prop} {S : Nat → Int → Int}
theorem q_322L {s : Int} (hs : ∃ j, 0 ≤ j ∧ j < 8 ∧ bitB s j) (hK : ∀ r, isLow s r → K (.inl (some (vi r))) m) : Runs tb pg (d + 2) 322 [vi s] m K := q_322 hs (fun r h0 h1 h2 h3 => hK r ⟨⟨h0, h1⟩, h2, h3⟩)
theorem k325_0 : pg.1 325 0 = [.aload 0, .getfield 1023, .bipush 0, .bipush 0, .iastore, .bipush 1, .istore 1, .jsr 9] := rfl
theorem a325_0 {tb : Tab} {d : Nat} {K : Out → AM → Prop} {ls st : List AV} {m : AM} : At tb d 325 K 0 ls st m = wpB tb (pg.2.1 325) (Runs tb pg d) K (At tb d 325 K) [.aload 0, .getfield 1023, .bipush 0, .bipush 0, .iastore, .bipush 1, .istore 1, .jsr 9] ls st m := At.eq k325_0
theorem k325_9 : pg.1 325 9 = [.iload 1, .bipush 1, .aload 0, .getfield 1001, .bipush 4, .iaload, .ishl, .if_icmp .ge 119, .iload 1, .invokeinterface 322 1, .istore 2, .iload 1, .bipush 1, .iload 2, .ishl, .bipush (-1), .ixor, .iand, .istore 3, .aload 0, .getfield 1023, .iload 1, .aload 0, .getfield 1023, .iload 3, .iaload, .iastore, .iload 2, .bipush 1, .iadd, .istore 4, .jsr 51] := rfl
theorem a325_9 {tb : Tab} {d : Nat} {K : Out → AM → Prop} {ls st : List AV} {m : AM} : At tb d 325 K 9 ls st m = wpB tb (pg.2.1 325) (Runs tb pg d) K (At tb d 325 K) [.iload 1, .bipush 1, .aload 0, .getfield 1001, .bipush 4, .iaload, .ishl, .if_icmp .ge 119, .iload 1, .invokeinterface 322 1, .istore 2, .iload 1, .bipush 1, .iload 2, .ishl, .bipush (-1), .ixor, .iand, .istore 3, .aload 0, .getfield 1023, .iload 1, .aload 0, .getfield 1023, .iload 3, .iaload, .iastore, .iload 2, .bipush 1, .iadd, .istore 4, .jsr 51] ls st m := At.eq k325_9
theorem k325_51 : pg.1 325 51 = [.iload 4, .aload 0, .getfield 1001, .bipush 4, .iaload, .if_icmp .ge 113, .iload 3, .iload 4, .invokeinterface 203 2, .ifCond .eq 107, .aload 0, .getfield 1023, .iload 1, .aload 0, .getfield 1023, .iload 1, .iaload, .aload 0, .iload 2, .iload 4, .invokeinterface 324 3, .aload 0, .getfield 1023, .iload 3, .bipush 1, .iload 4, .ishl, .bipush (-1), .ixor, .iand, .iaload, .iadd, .invokeinterface 202 2, .iastore, .jsr 107] := rfl
theorem a325_51 {tb : Tab} {d : Nat} {K : Out → AM → Prop} {ls st : List AV} {m : AM} : At tb d 325 K 51 ls st m = wpB tb (pg.2.1 325) (Runs tb pg d) K (At tb d 325 K) [.iload 4, .aload 0, .getfield 1001, .bipush 4, .iaload, .if_icmp .ge 113, .iload 3, .iload 4, .invokeinterface 203 2, .ifCond .eq 107, .aload 0, .getfield 1023, .iload 1, .aload 0, .getfield 1023, .iload 1, .iaload, .aload 0, .iload 2, .iload 4, .invokeinterface 324 3, .aload 0, .getfield 1023, .iload 3, .bipush 1, .iload 4, .ishl, .bipush (-1), .ixor, .iand, .iaload, .iadd, .invokeinterface 202 2, .iastore, .jsr 107] ls st m := At.eq k325_51
theorem k325_107 : pg.1 325 107 = [.iinc 4 1, .goto 51] := rfl
theorem a325_107 {tb : Tab} {d : Nat} {K : Out → AM → Prop} {ls st : List AV} {m : AM} : At tb d 325 K 107 ls st m = wpB tb (pg.2.1 325) (Runs tb pg d) K (At tb d 325 K) [.iinc 4 1, .goto 51] ls st m := At.eq k325_107
theorem k325_113 : pg.1 325 113 = [.iinc 1 1, .goto 9] := rfl
theorem a325_113 {tb : Tab} {d : Nat} {K : Out → AM → Prop} {ls st : List AV} {m : AM} : At tb d 325 K 113 ls st m = wpB tb (pg.2.1 325) (Runs tb pg d) K (At tb d 325 K) [.iinc 1 1, .goto 9] ls st m := At.eq k325_113
theorem k325_119 : pg.1 325 119 = [.return_] := rfl
theorem a325_119 {tb : Tab} {d : Nat} {K : Out → AM → Prop} {ls st : List AV} {m : AM} : At tb d 325 K 119 ls st m = wpB tb (pg.2.1 325) (Runs tb pg d) K (At tb d 325 K) [.return_] ls st m := At.eq k325_119
theorem q_325 (hB : BR S) (hK : ∀ T, pbV (oR S) (S 301 4) T (pw (S 301 4)) → SR S T → K (.inl none) (X T m)) : Runs tb pg (d + 4) 325 [vr 300] (X S m) K := by
  have b4 := hB.2.2.1
  have e4 := shl_eq b4.1 (show S 301 4 < 8 by omega)
  have e5 := pw_le64 b4.1 b4.2
  have hL9 : (fun i : Int => ∀ (T : Nat → Int → Int) (z2 : AV) (z3 : AV) (z4 : AV) (s : Int), (SR S T) → s = i + 1 → (pbV (oR S) (S 301 4) T (i + 1)) → At tb (d + 3) 325 K 9 [vr 300, vi s, z2, z3, z4] [] (X T m)) 0 := by
    refine loopZ (fun i : Int => ∀ (T : Nat → Int → Int) (z2 : AV) (z3 : AV) (z4 : AV) (s : Int), (SR S T) → s = i + 1 → (pbV (oR S) (S 301 4) T (i + 1)) → At tb (d + 3) 325 K 9 [vr 300, vi s, z2, z3, z4] [] (X T m)) (pw (S 301 4) - 1) (by omega) ?_ ?_
    · intro i h0 h1 h9 T z2 z3 z4 s hT hs hv
      subst hs
      have gE := bit_ex (s := i + 1) (by omega) (by omega)
      have hI : ∀ p r U, isLow (i + 1) p → r = i + 1 - pw p → U = upS T 310 (i + 1) (T 310 r) → At tb (d + 3) 325 K 51 [vr 300, vi (i + 1), vi p, vi r, vi (p + 1)] [] (X U m) := by
        intro p r U hp hr hU
        subst hr hU
        have hpn := bit_lt (s := i + 1) (by omega) b4.1 (by omega) hp.1.2 hp.2.1
        have g1 := (clr_eq (s := i + 1) (by omega) (by omega) hp.1.1 (by omega) hp.2.1).2.2
        have g3 := pw_pos p
        have hL51 : (fun j : Int => ∀ (U : Nat → Int → Int) (o : Int), (pxU (oR S) T (i + 1) p (j + (p + 1)) U) → o = j + (p + 1) → At tb (d + 3) 325 K 51 [vr 300, vi (i + 1), vi p, vi (i + 1 - pw p), vi o] [] (X U m)) 0 := by
          refine loopZ (fun j : Int => ∀ (U : Nat → Int → Int) (o : Int), (pxU (oR S) T (i + 1) p (j + (p + 1)) U) → o = j + (p + 1) → At tb (d + 3) 325 K 51 [vr 300, vi (i + 1), vi p, vi (i + 1 - pw p), vi o] [] (X U m)) (S 301 4 - (p + 1)) (by omega) ?_ ?_
          · intro j j0 j1 h8 U o hU ho
            obtain ⟨x, hx, hU⟩ := hU
            have hT0 := hT
            have hT : SR S U := by rw [hU]; exact SR_up hT (by decide)
            have hp0 := hp.1.1
            have g4 := isPx_bd hx (by omega) ⟨hp.1.1, by omega⟩ (by omega) hp.2.1 (fun j j0 j1 => hv.2 j j0 (by omega))
            have u1 : U 310 (i + 1) = x := by rw [hU, upS_at, if_pos ⟨rfl, rfl⟩]
            have g5 := fun z => clr_eq (s := i + 1 - pw p) (p := o) (by omega) (by omega) (by omega) (by omega) z
            have g6 := pw_pos o
            have u2 : bitB (i + 1 - pw p) o → U 310 (i + 1 - pw p - pw o) = T 310 (i + 1 - pw p - pw o) := fun z => by rw [hU, upS_at, if_neg (by omega)]
            have u3 : bitB (i + 1 - pw p) o → 0 ≤ T 310 (i + 1 - pw p - pw o) ∧ T 310 (i + 1 - pw p - pw o) ≤ 31 * (i + 1 - pw p - pw o) := fun z => hv.2 _ (by have := g5 z; omega) (by omega)
            rw [a325_51]
            repeat' (first | refine h8 _ _ ?_ ?_ | simp only [w_aload, x_g1023_300, w_iconst, x_iast, w_istore, w_fall, Int.reduceToNat, w_iload, x_g1001_300, x_iald, w_ialoads, w_ialoadw, w_ishl, w_ifc, cI, w_call, w_ixor, w_iand, w_iadd, w_if, w_iinc, lgB, Nat.reduceSub, w_goto, w_return, isA_301, isA_302, isA_303, isA_304, isA_305, isA_306, isA_307, isA_308, isA_309, isA_310, isA_311, isA_312, isA_313, isA_314, isA_315, len_301, len_302, len_303, len_304, len_305, len_306, len_307, len_308, len_309, len_310, len_311, len_312, len_313, len_314, len_315, Int.cast_ofNat_Int, a325_0, a325_107, a325_113, a325_119, R32, List.getElem?_cons_zero, List.getElem?_cons_succ, List.set_cons_zero, List.set_cons_succ, List.cons_append, List.nil_append, List.replicate_succ, List.replicate_zero, List.take_succ_cons, List.take_zero, List.drop_succ_cons, List.drop_zero, List.reverse_cons, List.reverse_nil, List.length_cons, List.length_nil, Option.toList, true_and, and_true, eq_self, ↓reduceIte, not_true_eq_false, not_false_eq_true, true_or, or_true, upS_upS, upS_at, up300, up300b, oR3, fR3, dR3, lgR3, valM3, Int.reduceEq, Nat.reduceEqDiff, and_self, and_true, and_false, false_and, if_true, if_false] | refine q_202 ?_ ?_ ?_ | refine q_203 (fun q9 => ?_) (fun q9 => ?_) | refine q_322L gE (fun _ qL => ?_) | refine q_324 hB ?_ ?_ (fun _ _ _ _ => ?_) | refine q_324 (BR3 hB) ?_ ?_ (fun _ _ _ _ => ?_) | refine q_324 (BRs hT hB) ?_ ?_ (fun _ _ _ _ => ?_) | with_reducible refine And.intro ?_ ?_ | with_reducible intro _)
            all_goals (try (first | omega | contradiction | ((try clear hK); (try clear hK0); (try clear hB); (try clear h9); (try clear h8); (try clear h7); (try simp only [oR3, fR3, dR3, lgR3, valM3, up300, up300b] at *); (try simp only [SR_o hT, SR_f hT, SR_d hT, SR_l hT, SR_v hT, SR_m hT, SR_g hT, oR3, fR3, dR3, lgR3, valM3, up300, up300b] at *); first | omega | (rw [show j + 1 + (p + 1) = j + (p + 1) + 1 by omega, ← ho]; rw [← ho] at hx; first | exact ⟨_, isPx_n hx (by assumption), hU⟩ | (refine ⟨_, isPx_y (by omega) hx (by assumption) ?_, by rw [hU, upS_upS]⟩; grind)) | grind)))
          · intro U o hU ho
            obtain ⟨x, hx, hU⟩ := hU
            have hT0 := hT
            have hT : SR S U := by rw [hU]; exact SR_up hT0 (by decide)
            rw [show S 301 4 - (p + 1) + (p + 1) = S 301 4 by omega] at hx
            rw [a325_51]
            repeat' (first | refine h9 _ _ _ _ _ ?_ ?_ ?_ | simp only [w_aload, x_g1023_300, w_iconst, x_iast, w_istore, w_fall, Int.reduceToNat, w_iload, x_g1001_300, x_iald, w_ialoads, w_ialoadw, w_ishl, w_ifc, cI, w_call, w_ixor, w_iand, w_iadd, w_if, w_iinc, lgB, Nat.reduceSub, w_goto, w_return, isA_301, isA_302, isA_303, isA_304, isA_305, isA_306, isA_307, isA_308, isA_309, isA_310, isA_311, isA_312, isA_313, isA_314, isA_315, len_301, len_302, len_303, len_304, len_305, len_306, len_307, len_308, len_309, len_310, len_311, len_312, len_313, len_314, len_315, Int.cast_ofNat_Int, a325_0, a325_107, a325_113, a325_119, R32, List.getElem?_cons_zero, List.getElem?_cons_succ, List.set_cons_zero, List.set_cons_succ, List.cons_append, List.nil_append, List.replicate_succ, List.replicate_zero, List.take_succ_cons, List.take_zero, List.drop_succ_cons, List.drop_zero, List.reverse_cons, List.reverse_nil, List.length_cons, List.length_nil, Option.toList, true_and, and_true, eq_self, ↓reduceIte, not_true_eq_false, not_false_eq_true, true_or, or_true, upS_upS, upS_at, up300, up300b, oR3, fR3, dR3, lgR3, valM3, Int.reduceEq, Nat.reduceEqDiff, and_self, and_true, and_false, false_and, if_true, if_false] | refine q_202 ?_ ?_ ?_ | refine q_203 (fun q9 => ?_) (fun q9 => ?_) | refine q_322L gE (fun _ qL => ?_) | refine q_324 hB ?_ ?_ (fun _ _ _ _ => ?_) | refine q_324 (BR3 hB) ?_ ?_ (fun _ _ _ _ => ?_) | refine q_324 (BRs hT hB) ?_ ?_ (fun _ _ _ _ => ?_) | with_reducible refine And.intro ?_ ?_ | with_reducible intro _)
            all_goals (try (first | omega | contradiction | ((try clear hK); (try clear hK0); (try clear hB); (try clear h9); (try clear h8); (try clear h7); (try simp only [oR3, fR3, dR3, lgR3, valM3, up300, up300b] at *); (try simp only [SR_o hT, SR_f hT, SR_d hT, SR_l hT, SR_v hT, SR_m hT, SR_g hT, oR3, fR3, dR3, lgR3, valM3, up300, up300b] at *); first | omega | exact hT | (rw [hU]; exact pbV_s b4 hv (by omega) hp hx) | grind)))
        exact hL51 _ _ ⟨_, by rw [show (0 : Int) + (p + 1) = p + 1 by omega]; exact isPx_0, rfl⟩ (by omega)
      rw [a325_9]
      repeat' (first | refine h9 _ _ _ _ _ ?_ ?_ ?_ | refine hI _ _ _ ?_ ?_ ?_ | simp only [w_aload, x_g1023_300, w_iconst, x_iast, w_istore, w_fall, Int.reduceToNat, w_iload, x_g1001_300, x_iald, w_ialoads, w_ialoadw, w_ishl, w_ifc, cI, w_call, w_ixor, w_iand, w_iadd, w_if, w_iinc, lgB, Nat.reduceSub, w_goto, w_return, isA_301, isA_302, isA_303, isA_304, isA_305, isA_306, isA_307, isA_308, isA_309, isA_310, isA_311, isA_312, isA_313, isA_314, isA_315, len_301, len_302, len_303, len_304, len_305, len_306, len_307, len_308, len_309, len_310, len_311, len_312, len_313, len_314, len_315, Int.cast_ofNat_Int, a325_0, a325_107, a325_113, a325_119, R32, List.getElem?_cons_zero, List.getElem?_cons_succ, List.set_cons_zero, List.set_cons_succ, List.cons_append, List.nil_append, List.replicate_succ, List.replicate_zero, List.take_succ_cons, List.take_zero, List.drop_succ_cons, List.drop_zero, List.reverse_cons, List.reverse_nil, List.length_cons, List.length_nil, Option.toList, true_and, and_true, eq_self, ↓reduceIte, not_true_eq_false, not_false_eq_true, true_or, or_true, upS_upS, upS_at, up300, up300b, oR3, fR3, dR3, lgR3, valM3, Int.reduceEq, Nat.reduceEqDiff, and_self, and_true, and_false, false_and, if_true, if_false] | refine q_202 ?_ ?_ ?_ | refine q_203 (fun q9 => ?_) (fun q9 => ?_) | refine q_322L gE (fun _ qL => ?_) | refine q_324 hB ?_ ?_ (fun _ _ _ _ => ?_) | refine q_324 (BR3 hB) ?_ ?_ (fun _ _ _ _ => ?_) | refine q_324 (BRs hT hB) ?_ ?_ (fun _ _ _ _ => ?_) | with_reducible refine And.intro ?_ ?_ | with_reducible intro _)
      all_goals (try (first | omega | contradiction | ((try clear hK); (try clear hK0); (try clear hB); (try clear h9); (try clear h8); (try clear h7); (try simp only [oR3, fR3, dR3, lgR3, valM3, up300, up300b] at *); (try simp only [SR_o hT, SR_f hT, SR_d hT, SR_l hT, SR_v hT, SR_m hT, SR_g hT, oR3, fR3, dR3, lgR3, valM3, up300, up300b] at *); first | omega | exact qL | exact (low_clr qL (by omega) b4).1 | rfl | (have e := low_clr qL (by omega) b4; omega) | grind)))
    · intro T z2 z3 z4 s hT hs hv
      subst hs
      rw [a325_9]
      repeat' (first | refine hK _ ?_ ?_ | simp only [w_aload, x_g1023_300, w_iconst, x_iast, w_istore, w_fall, Int.reduceToNat, w_iload, x_g1001_300, x_iald, w_ialoads, w_ialoadw, w_ishl, w_ifc, cI, w_call, w_ixor, w_iand, w_iadd, w_if, w_iinc, lgB, Nat.reduceSub, w_goto, w_return, isA_301, isA_302, isA_303, isA_304, isA_305, isA_306, isA_307, isA_308, isA_309, isA_310, isA_311, isA_312, isA_313, isA_314, isA_315, len_301, len_302, len_303, len_304, len_305, len_306, len_307, len_308, len_309, len_310, len_311, len_312, len_313, len_314, len_315, Int.cast_ofNat_Int, a325_0, a325_107, a325_113, a325_119, R32, List.getElem?_cons_zero, List.getElem?_cons_succ, List.set_cons_zero, List.set_cons_succ, List.cons_append, List.nil_append, List.replicate_succ, List.replicate_zero, List.take_succ_cons, List.take_zero, List.drop_succ_cons, List.drop_zero, List.reverse_cons, List.reverse_nil, List.length_cons, List.length_nil, Option.toList, true_and, and_true, eq_self, ↓reduceIte, not_true_eq_false, not_false_eq_true, true_or, or_true, upS_upS, upS_at, up300, up300b, oR3, fR3, dR3, lgR3, valM3, Int.reduceEq, Nat.reduceEqDiff, and_self, and_true, and_false, false_and, if_true, if_false] | refine q_202 ?_ ?_ ?_ | refine q_203 (fun q9 => ?_) (fun q9 => ?_) | refine q_322L gE (fun _ qL => ?_) | refine q_324 hB ?_ ?_ (fun _ _ _ _ => ?_) | refine q_324 (BR3 hB) ?_ ?_ (fun _ _ _ _ => ?_) | refine q_324 (BRs hT hB) ?_ ?_ (fun _ _ _ _ => ?_) | with_reducible refine And.intro ?_ ?_ | with_reducible intro _)
      all_goals (try (first | omega | contradiction | ((try clear hK); (try clear hK0); (try clear hB); (try clear h9); (try clear h8); (try clear h7); (try simp only [oR3, fR3, dR3, lgR3, valM3, up300, up300b] at *); (try simp only [SR_o hT, SR_f hT, SR_d hT, SR_l hT, SR_v hT, SR_m hT, SR_g hT, oR3, fR3, dR3, lgR3, valM3, up300, up300b] at *); first | omega | exact hT | (rw [show pw (S 301 4) = pw (S 301 4) - 1 + 1 by omega]; exact hv) | grind)))
  refine Runs.of (al := [vr 300]) (n := 4) ⟨300, _, _, rfl, xo_300⟩ rfl rfl trivial ?_
  repeat' (first | refine hL9 _ _ _ _ _ ?_ ?_ ?_ | simp only [w_aload, x_g1023_300, w_iconst, x_iast, w_istore, w_fall, Int.reduceToNat, w_iload, x_g1001_300, x_iald, w_ialoads, w_ialoadw, w_ishl, w_ifc, cI, w_call, w_ixor, w_iand, w_iadd, w_if, w_iinc, lgB, Nat.reduceSub, w_goto, w_return, isA_301, isA_302, isA_303, isA_304, isA_305, isA_306, isA_307, isA_308, isA_309, isA_310, isA_311, isA_312, isA_313, isA_314, isA_315, len_301, len_302, len_303, len_304, len_305, len_306, len_307, len_308, len_309, len_310, len_311, len_312, len_313, len_314, len_315, Int.cast_ofNat_Int, a325_0, a325_107, a325_113, a325_119, R32, List.getElem?_cons_zero, List.getElem?_cons_succ, List.set_cons_zero, List.set_cons_succ, List.cons_append, List.nil_append, List.replicate_succ, List.replicate_zero, List.take_succ_cons, List.take_zero, List.drop_succ_cons, List.drop_zero, List.reverse_cons, List.reverse_nil, List.length_cons, List.length_nil, Option.toList, true_and, and_true, eq_self, ↓reduceIte, not_true_eq_false, not_false_eq_true, true_or, or_true, upS_upS, upS_at, up300, up300b, oR3, fR3, dR3, lgR3, valM3, Int.reduceEq, Nat.reduceEqDiff, and_self, and_true, and_false, false_and, if_true, if_false] | refine q_202 ?_ ?_ ?_ | refine q_203 (fun q9 => ?_) (fun q9 => ?_) | refine q_322L gE (fun _ qL => ?_) | refine q_324 hB ?_ ?_ (fun _ _ _ _ => ?_) | refine q_324 (BR3 hB) ?_ ?_ (fun _ _ _ _ => ?_) | refine q_324 (BRs hT hB) ?_ ?_ (fun _ _ _ _ => ?_) | with_reducible refine And.intro ?_ ?_ | with_reducible intro _)
  all_goals (try (first | omega | contradiction | ((try clear hK); (try clear hK0); (try clear hB); (try clear h9); (try clear h8); (try clear h7); (try simp only [oR3, fR3, dR3, lgR3, valM3, up300, up300b] at *); (try simp only [SR_o hT, SR_f hT, SR_d hT, SR_l hT, SR_v hT, SR_m hT, SR_g hT, oR3, fR3, dR3, lgR3, valM3, up300, up300b] at *); first | omega | exact SR_up SR_refl (by decide) | exact pbV_1 | grind)))
end Ref13
