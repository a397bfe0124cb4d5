/-! ===== THE CLASS: till a day ===== -/
def zsT (S T : Nat → Int → Int) (i : Int) : Prop := FxE 88 S T ∧ ∀ j, 0 ≤ j → j < i → T 88 j = 0
theorem zsT_0 {S : Nat → Int → Int} : zsT S S 0 := ⟨FxE_r, fun j j0 j1 => by omega⟩
theorem zsT_s {S T : Nat → Int → Int} {i : Int} (h : zsT S T i) : zsT S (upS T 88 i 0) (i + 1) := ⟨FxE_u h.1, fun j j0 j1 => by
  rw [upS_at]
  by_cases y : j = i
  · rw [if_pos ⟨rfl, y⟩]
  · rw [if_neg (fun z => y z.2)]; exact h.2 j j0 (by omega)⟩
def styT (r : Int → Int) (n : Int) (T : Nat → Int → Int) (i : Int) : Prop := (∀ p f, 0 ≤ p → p < r 4 → 0 ≤ f → f < i → yn (T 88 (6 * p + f)) (lasM evL r n p f)) ∧ (∀ j, 0 ≤ j → j < 36 → (∀ p f, 0 ≤ p → p < r 4 → 0 ≤ f → f < i → j ≠ 6 * p + f) → T 88 j = 0) ∧ ∀ f, 0 ≤ f → f < i → T 90 f = fr r f 2
def EIr (S T : Nat → Int → Int) (v : Nat) : Prop := ∀ a, a < 70 ∨ 93 ≤ a → a ≠ v + 16 → T a = S a
theorem EIr_r {S : Nat → Int → Int} {v : Nat} : EIr S S v := fun _ _ _ => rfl
theorem EIr_t {S T U : Nat → Int → Int} {v : Nat} (h : EIr S T v) (g : EIr T U v) : EIr S U v := fun a ha hb => (g a ha hb).trans (h a ha hb)
theorem EIr_G {S T : Nat → Int → Int} {v : Nat} (h : EGr S T v) : EIr S T v := fun a ha hb => h a (by omega) hb
theorem EIr_x {S T : Nat → Int → Int} {v : Nat} (h : FxE 88 S T) : EIr S T v := fun a ha _ => h a (by omega)
theorem EIr_f {S T : Nat → Int → Int} {v : Nat} {p : Int} (h : frT S T p) : EIr S T v := fun a ha _ => h.1 a (by omega) (by omega) (by omega)
theorem EIr_u {S T : Nat → Int → Int} {v c : Nat} {i x : Int} (h : EIr S T v) (hc : 70 ≤ c ∧ c < 93) : EIr S (upS T c i x) v := fun a ha hb => (if_neg (by omega)).trans (h a ha hb)
theorem EIr_R {S T : Nat → Int → Int} {v : Nat} {r : Int → Int} (hv : isW v) (hd : v ≠ 71) (hR : RW S v r) (h : EIr S T v) : RW T v r := by
  have o : ∀ k : Nat, k < 16 → T (v + k) = S (v + k) := fun k hk => h _ (by unfold isW at hv; omega) (by omega)
  obtain ⟨c0, cf, cp, cd, cl, cs⟩ := hR
  have o0 : T v = S v := o 0 (by decide)
  refine ⟨by rw [o0]; exact c0, fun f f0 f1 => ?_, fun p p0 p1 => ?_, ?_, ?_, fun j j0 j1 => ?_⟩
  · rw [o 1 (by decide), o 2 (by decide), o 3 (by decide)]; exact cf f f0 f1
  · rw [o 4 (by decide), o 5 (by decide), o 6 (by decide), o 7 (by decide), o 8 (by decide)]; exact cp p p0 p1
  · unfold RWd; rw [o 9 (by decide), o 10 (by decide), o 11 (by decide), o 12 (by decide)]; exact cd
  · unfold RWl; rw [o 13 (by decide), o 14 (by decide)]; exact cl
  · rw [o 15 (by decide)]; exact cs j j0 j1
theorem EIr_0 {S T : Nat → Int → Int} {v : Nat} (hv : isW v) (hd : v ≠ 71) (h : EIr S T v) : T v = S v := h _ (by unfold isW at hv; omega) (by omega)
theorem styT_0 {r : Int → Int} {n : Int} {S T : Nat → Int → Int} (h : zsT S T 36) : styT r n T 0 := ⟨fun p f _ _ f0 f1 => by omega, fun j j0 j1 _ => h.2 j j0 j1, fun f f0 f1 => by omega⟩
/-- a field without snow -/
theorem styT_n {r : Int → Int} {n i : Int} {T : Nat → Int → Int} (hA : AB r) (h0 : 0 ≤ i) (h1 : i < r 3) (h : styT r n T i) (hs : fr r i 1 ≤ 0) : styT r n (upS T 90 i (fr r i 2)) (i + 1) := by
  obtain ⟨s1, s2, s3⟩ := h
  have z := AB_ff hA h0 h1
  have b4 := hA.2.1.2.1
  refine ⟨fun p f p0 p1 f0 f1 => ?_, fun j j0 j1 hj => ?_, fun f f0 f1 => ?_⟩
  · rw [up_lit (by decide)]
    by_cases y : f = i
    · subst y
      refine Or.inr ⟨s2 _ (by omega) (by omega) (fun q g q0 q1 g0 g1 => by omega), fun w => w.1 (by omega)⟩
    · exact s1 p f p0 p1 f0 (by omega)
  · rw [up_lit (by decide)]
    exact s2 j j0 j1 (fun p f p0 p1 f0 f1 => hj p f p0 p1 f0 (by omega))
  · rw [upS_at]
    by_cases y : f = i
    · rw [if_pos ⟨rfl, y⟩, y]
    · rw [if_neg (fun w => y w.2)]; exact s3 f f0 (by omega)
theorem styT_y {r : Int → Int} {n i : Int} {T U : Nat → Int → Int} {v : Nat} (hv : isW v) (hA : AB r) (h0 : 0 ≤ i) (h1 : i < r 3) (h : styT r n T i) (hs : 0 < fr r i 1) (hU : stR r n i (upS T 90 i (fr r i 2)) U (r 4)) (hE : EGr (upS T 90 i (fr r i 2)) U v) : styT r n U (i + 1) := by
  obtain ⟨s1, s2, s3⟩ := h
  have z := AB_ff hA h0 h1
  have b4 := hA.2.1.2.1
  have e90 : U 90 = upS T 90 i (fr r i 2) 90 := hE 90 (by omega) (by unfold isW at hv; omega)
  refine ⟨fun p f p0 p1 f0 f1 => ?_, fun j j0 j1 hj => ?_, fun f f0 f1 => ?_⟩
  · by_cases y : f = i
    · subst y
      rcases hU.1 p p0 p1 with ⟨w1, w2⟩ | ⟨w1, w2⟩
      · exact Or.inl ⟨w1, by omega, w2⟩
      · exact Or.inr ⟨w1, fun w => w2 w.2⟩
    · rw [hU.2 _ (fun q q0 q1 => by omega), up_lit (by decide)]
      exact s1 p f p0 p1 f0 (by omega)
  · rw [hU.2 j (fun p p0 p1 => hj p i p0 p1 h0 (by omega)), up_lit (by decide)]
    exact s2 j j0 j1 (fun p f p0 p1 f0 f1 => hj p f p0 p1 f0 (by omega))
  · rw [e90, upS_at]
    by_cases y : f = i
    · rw [if_pos ⟨rfl, y⟩, y]
    · rw [if_neg (fun w => y w.2)]; exact s3 f f0 (by omega)
theorem styT_z {r : Int → Int} {n : Int} {T : Nat → Int → Int} (hA : AB r) (h : styT r n T (r 3)) : zoB (T 88) := fun j j0 j1 => by
  have b3 := hA.2.1.1
  by_cases y : j / 6 < r 4 ∧ j % 6 < r 3
  · have := h.1 (j / 6) (j % 6) (by omega) y.1 (by omega) y.2
    rw [show 6 * (j / 6) + j % 6 = j by omega] at this
    rcases this with ⟨w, _⟩ | ⟨w, _⟩ <;> omega
  · exact Or.inl (h.2.1 j j0 j1 (fun p f p0 p1 f0 f1 => by omega))
noncomputable def stA (T : Nat → Int → Int) (q : Int) : Int := @ite _ (noB (fun f => T 88 (6 * q + f) ≠ 0) 6) (Classical.propDecidable _) 0 1
theorem stA_rg {T : Nat → Int → Int} (q : Int) : 0 ≤ stA T q ∧ stA T q ≤ 1 := by
  unfold stA
  split <;> omega
theorem stA_1 {r : Int → Int} {n : Int} {T : Nat → Int → Int} (hA : AB r) (h : styT r n T (r 3)) : ∀ p, 0 ≤ p → p < r 4 → (∃ f, 0 ≤ f ∧ f < r 3 ∧ lasM evL r n p f) → stA T p = 1 := fun p p0 p1 ⟨f, f0, f1, hf⟩ => by
  have b3 := hA.2.1.1
  refine if_neg (fun y => ?_)
  rcases h.1 p f p0 p1 f0 f1 with ⟨w1, _⟩ | ⟨_, w2⟩
  · exact y f f0 (by omega) (by omega)
  · exact w2 hf
def saT (a : Int → Int) (np : Int) (T : Int → Int) (i : Int) : Prop := ∀ k : Nat, (k : Int) ≤ i → T (np - k) = saN a np k
theorem saT_0 {a : Int → Int} {np : Int} {T : Nat → Int → Int} : saT a np (upS T 89 np 0 89) 0 := fun k hk => by
  have : k = 0 := by omega
  subst this
  rw [upS_at, if_pos ⟨rfl, by omega⟩]
  rfl
theorem saT_s {a : Int → Int} {np i x y : Int} {T : Nat → Int → Int} (h : saT a np (T 89) i) (i0 : 0 ≤ i) (hx : x = np - 1 - i) (hy : y = T 89 (np - i) + a (np - 1 - i)) : saT a np (upS T 89 x y 89) (i + 1) := fun k hk => by
  rw [upS_at]
  by_cases z : (k : Int) = i + 1
  · rw [if_pos ⟨rfl, by omega⟩, hy]
    have e := h i.toNat (by omega)
    rw [Int.toNat_of_nonneg i0] at e
    rw [e, show k = i.toNat + 1 by omega]
    show _ = saN a np i.toNat + a (np - ((i.toNat : Int) + 1))
    rw [Int.toNat_of_nonneg i0, show np - (i + 1) = np - 1 - i by omega]
  · rw [if_neg (fun w => z (by omega))]
    exact h k (by omega)
/-- what a search over all leaves -/
def tlO (r : Int → Int) (n : Int) (T : Nat → Int → Int) : Prop := (-1 ≤ T 70 6 ∧ T 70 6 ≤ 36) ∧ ∃ b, isTl evL r n (T 70 6) b ∧ preW (r 3) (T 92) b (r 4)
theorem tlO_of {r : Int → Int} {n : Int} {T : Nat → Int → Int} (hA : AB r) (h : bsT r n T (pwZ (r 3) (r 4))) : tlO r n T := by
  obtain ⟨b1, b, b2, b3⟩ := h
  have q3 := hA.2.1.1
  have q4 := hA.2.1.2.1
  have h0 : 0 ≤ byV r n (fun _ => r 3) := byW_all q3.1 q4 (fun f f0 f1 => by
    have := AB_ff hA f0 f1
    unfold roomM
    split <;> omega)
  have e : isBst (r 3) (r 4) (byV r n) (T 70 6) b := bstW_e q3.1 q4 b2 h0
  refine ⟨b1, b, e, b3 (fun y => ?_)⟩
  have o : okW (r 3) (fun _ => r 3) := fun k k0 k1 => ⟨q3.1, Int.le_refl _⟩
  have := (e.2.2 _ o).1
  omega
section Last3
variable {tb : Tab} {d : Nat} {m : AM} {K : Out → AM → Prop} {S : Nat → Int → Int} {w : Nat} {r : Int → Int}
theorem w_31z {v : Nat} {n : Int} {a : Int → Int} (hv : isW v) (hd : v ≠ 71) (hA : AB r) (hR : RW S v r) (hk : knT r n a S) (hz : zoB (S 88)) (h90 : ∀ f, 0 ≤ f → f < r 3 → S 90 f = fr r f 2) (h6 : S 70 6 = -1) (hK : ∀ T, frT S T 0 → tlO r n T → K (.inl none) (X T m)) : Runs tb pg (d + 7) 31 [vr 70, vr v, vi 0, vi 0] (X S m) K := by
  have q3 := hA.2.1.1
  have q4 := hA.2.1.2.1
  refine Runs.le (d := d + ((r 4).toNat + 1)) ?_ (by omega)
  refine w_31 (n := n) (a := a) hv hd hA (r 4).toNat 0 0 (fun _ => 0) S K (by omega) hR hk hz ?_ ?_ (fun T hT hb => hK T hT (tlO_of hA ?_))
  · refine ⟨fun k k0 k1 => ⟨Int.le_refl _, q3.1⟩, fun k k0 k1 => by omega, fun f f0 f1 => ?_, ?_⟩
    · have e0 : inW (pr r) (fun _ => 0) f ((0 : Nat) : Int) = 0 := rfl
      have z := AB_ff hA f0 f1
      rw [e0, h90 f f0 f1]
      refine ⟨by omega, ?_⟩
      unfold roomM
      split <;> omega
    · have := tlW_rg (L := lasM evL r n) (c := fun _ => 0) (np := ((0 : Nat) : Int)) (n := r 3) q3.1 (by omega)
      have g := tl_congr (L := lasM evL r n) (nf := r 3) (n := ((0 : Nat) : Int)) (w := fun _ => 0) (c := fun _ => 0) (fun k _ _ => rfl)
      have z := sumZ_le (n := r 3) (a := 0) (b := 0) (f := fun f => ctW (lasM evL r n) (fun _ => 0) f ((0 : Nat) : Int)) q3.1 (fun f _ _ => by
        have : ctW (lasM evL r n) (fun _ => 0) f ((0 : Nat) : Int) = 0 := rfl
        omega)
      unfold tlW
      omega
  · refine ⟨by omega, fun _ => 0, ?_, fun y => absurd h6 y⟩
    rw [h6]
    show bstW (r 3) (r 4) (byV r n) (0 * pwN (r 3) (r 4).toNat) (-1) _
    rw [Int.zero_mul]
    exact bstW_0 q3.1 q4
  · have e : (nrN (r 3) (fun _ => 0) 0 + 1) * pwN (r 3) (r 4).toNat = pwZ (r 3) (r 4) := by
      show (0 + 1) * pwN (r 3) (r 4).toNat = pwN (r 3) (r 4).toNat
      rw [Int.zero_add, Int.one_mul]
    rw [← e]
    exact hb
theorem k28_0 : pg.1 28 0 = [.bipush 0, .istore 3, .jsr 2] := rfl
theorem a28_0 {tb : Tab} {d : Nat} {K : Out → AM → Prop} {ls st : List AV} {m : AM} : At tb d 28 K 0 ls st m = wpB tb (pg.2.1 28) (Runs tb pg d) K (At tb d 28 K) [.bipush 0, .istore 3, .jsr 2] ls st m := At.eq k28_0
theorem k28_2 : pg.1 28 2 = [.iload 3, .aload 0, .getfield 101, .arraylength, .if_icmp .ge 24, .aload 0, .getfield 101, .iload 3, .bipush 0, .bastore, .iinc 3 1, .goto 2] := rfl
theorem a28_2 {tb : Tab} {d : Nat} {K : Out → AM → Prop} {ls st : List AV} {m : AM} : At tb d 28 K 2 ls st m = wpB tb (pg.2.1 28) (Runs tb pg d) K (At tb d 28 K) [.iload 3, .aload 0, .getfield 101, .arraylength, .if_icmp .ge 24, .aload 0, .getfield 101, .iload 3, .bipush 0, .bastore, .iinc 3 1, .goto 2] ls st m := At.eq k28_2
theorem k28_24 : pg.1 28 24 = [.bipush 0, .istore 3, .jsr 26] := rfl
theorem a28_24 {tb : Tab} {d : Nat} {K : Out → AM → Prop} {ls st : List AV} {m : AM} : At tb d 28 K 24 ls st m = wpB tb (pg.2.1 28) (Runs tb pg d) K (At tb d 28 K) [.bipush 0, .istore 3, .jsr 26] ls st m := At.eq k28_24
theorem k28_26 : pg.1 28 26 = [.iload 3, .aload 1, .getfield 800, .if_icmp .ge 68, .aload 0, .getfield 103, .iload 3, .aload 1, .getfield 803, .iload 3, .iaload, .iastore, .aload 1, .getfield 802, .iload 3, .iaload, .ifCond .le 62, .aload 0, .aload 1, .iload 3, .iload 2, .invokeinterface 29 4, .jsr 62] := rfl
theorem a28_26 {tb : Tab} {d : Nat} {K : Out → AM → Prop} {ls st : List AV} {m : AM} : At tb d 28 K 26 ls st m = wpB tb (pg.2.1 28) (Runs tb pg d) K (At tb d 28 K) [.iload 3, .aload 1, .getfield 800, .if_icmp .ge 68, .aload 0, .getfield 103, .iload 3, .aload 1, .getfield 803, .iload 3, .iaload, .iastore, .aload 1, .getfield 802, .iload 3, .iaload, .ifCond .le 62, .aload 0, .aload 1, .iload 3, .iload 2, .invokeinterface 29 4, .jsr 62] ls st m := At.eq k28_26
theorem k28_62 : pg.1 28 62 = [.iinc 3 1, .goto 26] := rfl
theorem a28_62 {tb : Tab} {d : Nat} {K : Out → AM → Prop} {ls st : List AV} {m : AM} : At tb d 28 K 62 ls st m = wpB tb (pg.2.1 28) (Runs tb pg d) K (At tb d 28 K) [.iinc 3 1, .goto 26] ls st m := At.eq k28_62
theorem k28_68 : pg.1 28 68 = [.aload 0, .getfield 102, .aload 1, .getfield 804, .bipush 0, .iastore, .aload 1, .getfield 804, .bipush 1, .isub, .istore 3, .jsr 85] := rfl
theorem a28_68 {tb : Tab} {d : Nat} {K : Out → AM → Prop} {ls st : List AV} {m : AM} : At tb d 28 K 68 ls st m = wpB tb (pg.2.1 28) (Runs tb pg d) K (At tb d 28 K) [.aload 0, .getfield 102, .aload 1, .getfield 804, .bipush 0, .iastore, .aload 1, .getfield 804, .bipush 1, .isub, .istore 3, .jsr 85] ls st m := At.eq k28_68
theorem k28_85 : pg.1 28 85 = [.iload 3, .ifCond .lt 123, .aload 0, .getfield 102, .iload 3, .aload 0, .getfield 102, .iload 3, .bipush 1, .iadd, .iaload, .aload 0, .iload 3, .invokeinterface 30 2, .ifCond .eq 114, .bipush 1, .goto 115] := rfl
theorem a28_85 {tb : Tab} {d : Nat} {K : Out → AM → Prop} {ls st : List AV} {m : AM} : At tb d 28 K 85 ls st m = wpB tb (pg.2.1 28) (Runs tb pg d) K (At tb d 28 K) [.iload 3, .ifCond .lt 123, .aload 0, .getfield 102, .iload 3, .aload 0, .getfield 102, .iload 3, .bipush 1, .iadd, .iaload, .aload 0, .iload 3, .invokeinterface 30 2, .ifCond .eq 114, .bipush 1, .goto 115] ls st m := At.eq k28_85
theorem k28_114 : pg.1 28 114 = [.bipush 0, .jsr 115] := rfl
theorem a28_114 {tb : Tab} {d : Nat} {K : Out → AM → Prop} {ls st : List AV} {m : AM} : At tb d 28 K 114 ls st m = wpB tb (pg.2.1 28) (Runs tb pg d) K (At tb d 28 K) [.bipush 0, .jsr 115] ls st m := At.eq k28_114
theorem k28_115 : pg.1 28 115 = [.iadd, .iastore, .iinc 3 (-1), .goto 85] := rfl
theorem a28_115 {tb : Tab} {d : Nat} {K : Out → AM → Prop} {ls st : List AV} {m : AM} : At tb d 28 K 115 ls st m = wpB tb (pg.2.1 28) (Runs tb pg d) K (At tb d 28 K) [.iadd, .iastore, .iinc 3 (-1), .goto 85] ls st m := At.eq k28_115
theorem k28_123 : pg.1 28 123 = [.aload 0, .bipush (-1), .putfield 106, .aload 0, .aload 1, .bipush 0, .bipush 0, .invokeinterface 31 4, .return_] := rfl
theorem a28_123 {tb : Tab} {d : Nat} {K : Out → AM → Prop} {ls st : List AV} {m : AM} : At tb d 28 K 123 ls st m = wpB tb (pg.2.1 28) (Runs tb pg d) K (At tb d 28 K) [.aload 0, .bipush (-1), .putfield 106, .aload 0, .aload 1, .bipush 0, .bipush 0, .invokeinterface 31 4, .return_] ls st m := At.eq k28_123
theorem w_28 {n : Int} {v : Nat} (hv : isW v) (hd : v ≠ 71) (hR : RW S v r) (hA : AB r) (hlo : LWo m (S v 15) (lawD r)) (hn : 0 ≤ n ∧ n ≤ 1000) (hK : ∀ T m1, tlO r n T → EIr S T v → MS m m1 → K (.inl none) (X T m1)) : Runs tb pg (d + 8) 28 [vr 70, vr v, vi n] (X S m) K := by
  have hw := isW_71
  have b3 := hA.2.1.1
  have b4 := hA.2.1.2.1
  have b5 := hA.2.1.2.2.1
  have h85 : ∀ (T0 : Nat → Int → Int) (m1 : AM), EIr S T0 v → MS m m1 → styT r n T0 (r 3) → At tb (d + 7) 28 K 85 [vr 70, vr v, vi n, vi (r 4 - 1)] [] (X (upS T0 89 (r 4) 0) m1) := by
    intro T0 m1 hE0 hM hs
    have hz := styT_z hA hs
    have hL85 : (fun i : Int => ∀ (z : Int) (T : Nat → Int → Int), z = r 4 - 1 - i → (saT (stA T0) (r 4) (T 89) i) → (FxE 89 T0 T) → (EIr S T v) → At tb (d + 7) 28 K 85 [vr 70, vr v, vi n, vi z] [] (X T m1)) 0 := by
      refine loopZ (fun i : Int => ∀ (z : Int) (T : Nat → Int → Int), z = r 4 - 1 - i → (saT (stA T0) (r 4) (T 89) i) → (FxE 89 T0 T) → (EIr S T v) → At tb (d + 7) 28 K 85 [vr 70, vr v, vi n, vi z] [] (X T m1)) (r 4) (by omega) ?_ ?_
      · intro i h0 h1 h9 z T hzz hT hf hE
        subst hzz
        have ez : ∀ q, 0 ≤ q → q < 6 → zoB (T 88) := fun _ _ _ => by rw [hf 88 (by decide)]; exact hz
        have e1 := hT i.toNat (by omega)
        rw [Int.toNat_of_nonneg h0] at e1
        have e2 : T 89 (r 4 - 1 - i + 1) = T 89 (r 4 - i) := congrArg _ (by omega)
        have sr := saN_rg (np := r 4) (stA_rg (T := T0)) i.toNat
        have e88 : T 88 = T0 88 := hf 88 (by decide)
        rw [a28_85]
        repeat' (first | omega | with_reducible refine h9 _ _ ?_ ?_ ?_ ?_ | simp only [w_iconst, w_istore, w_fall, Int.reduceToNat, w_iload, w_aload, x_g101_70, x_alen, w_alens, w_alenw, w_alenx, w_ifc, cI, x_bast, w_iinc, lgB, Nat.reduceSub, w_goto, x_g800_w0, x_g103_70, x_g803_w0, x_iald, w_ialoads, w_ialoadw, x_iast, x_g802_w0, w_if, w_call, x_g102_70, x_g804_w0, w_isub, w_iadd, x_p106_70, w_return, isA_w1, isA_w2, isA_w3, isA_w4, isA_w5, isA_w6, isA_w7, isA_w8, isA_w10, isA_w11, isA_w12, isA_w14, isA_w15, isA_w16, len_w1, len_w2, len_w3, len_w4, len_w5, len_w6, len_w7, len_w8, len_w10, len_w11, len_w12, len_w14, len_w15, len_w16, isA_88, len_88, isA_89, len_89, isA_90, len_90, isA_91, len_91, isA_92, len_92, Int.cast_ofNat_Int, a28_0, a28_24, a28_62, a28_68, a28_114, a28_115, a28_123, R32, List.getElem?_cons_zero, List.getElem?_cons_succ, List.set_cons_zero, List.set_cons_succ, List.cons_append, List.nil_append, List.replicate_succ, List.replicate_zero, List.take_succ_cons, List.take_zero, List.drop_succ_cons, List.drop_zero, List.reverse_cons, List.reverse_nil, List.length_cons, List.length_nil, Option.toList, true_and, and_true, eq_self, ↓reduceIte, not_true_eq_false, not_false_eq_true, true_or, or_true, hw, hv, up_lit, ne_eq, Nat.reduceEqDiff, not_false_eq_true] | ((with_reducible refine w_30 ⟨?_, ?_⟩ ?_ (fun v1 x1 => ?_)); rotate_right; have gy := yn_b x1; have ga : stA T0 (r 4 - 1 - i) = v1 := (by rw [e88] at x1; unfold stA; rcases x1 with ⟨xa, xb⟩ | ⟨xa, xb⟩; (rw [if_neg xb]; exact xa.symm); (rw [if_pos (Classical.byContradiction xb)]; exact xa.symm))) | with_reducible refine And.intro ?_ ?_ | with_reducible intro _)
        all_goals (try (first | omega | contradiction | (exact ez 0 (by omega) (by omega)) | (refine saT_s hT h0 rfl ?_; rw [← e2]; omega) | exact EIr_u hE (by omega) | exact FxE_u hf))
      · intro z T hzz hT hf hE
        subst hzz
        have hTR : RW T v r := EIr_R hv hd hR hE
        have e88 : T 88 = T0 88 := hf 88 (by decide)
        have e90 : T 90 = T0 90 := hf 90 (by decide)
        have hTR6 : RW (upS T 70 6 (-1)) v r := EIr_R hv hd hR (EIr_u hE (by omega))
        have kn : knT r n (stA T0) (upS T 70 6 (-1)) := ⟨fun p f p0 p1 f0 f1 => by rw [up_lit (by decide), e88]; exact hs.1 p f p0 p1 f0 f1, fun k hk => by rw [up_lit (by decide)]; exact hT k hk, stA_1 hA hs, stA_rg⟩
        have z6 : zoB (upS T 70 6 (-1) 88) := by rw [up_lit (by decide), e88]; exact hz
        have f6 : ∀ f, 0 ≤ f → f < r 3 → upS T 70 6 (-1) 90 f = fr r f 2 := fun f f0 f1 => by rw [up_lit (by decide), e90]; exact hs.2.2 f f0 f1
        have s6 : upS T 70 6 (-1) 70 6 = -1 := by rw [upS_at, if_pos ⟨rfl, rfl⟩]
        rw [a28_85]
        repeat' (first | omega | simp only [w_iconst, w_istore, w_fall, Int.reduceToNat, w_iload, w_aload, x_g101_70, x_alen, w_alens, w_alenw, w_alenx, w_ifc, cI, x_bast, w_iinc, lgB, Nat.reduceSub, w_goto, x_g800_w0, x_g103_70, x_g803_w0, x_iald, w_ialoads, w_ialoadw, x_iast, x_g802_w0, w_if, w_call, x_g102_70, x_g804_w0, w_isub, w_iadd, x_p106_70, w_return, isA_w1, isA_w2, isA_w3, isA_w4, isA_w5, isA_w6, isA_w7, isA_w8, isA_w10, isA_w11, isA_w12, isA_w14, isA_w15, isA_w16, len_w1, len_w2, len_w3, len_w4, len_w5, len_w6, len_w7, len_w8, len_w10, len_w11, len_w12, len_w14, len_w15, len_w16, isA_88, len_88, isA_89, len_89, isA_90, len_90, isA_91, len_91, isA_92, len_92, Int.cast_ofNat_Int, a28_0, a28_24, a28_62, a28_68, a28_114, a28_115, a28_123, R32, List.getElem?_cons_zero, List.getElem?_cons_succ, List.set_cons_zero, List.set_cons_succ, List.cons_append, List.nil_append, List.replicate_succ, List.replicate_zero, List.take_succ_cons, List.take_zero, List.drop_succ_cons, List.drop_zero, List.reverse_cons, List.reverse_nil, List.length_cons, List.length_nil, Option.toList, true_and, and_true, eq_self, ↓reduceIte, not_true_eq_false, not_false_eq_true, true_or, or_true, hw, hv, up_lit, ne_eq, Nat.reduceEqDiff, not_false_eq_true] | with_reducible refine w_31z hv hd hA hTR6 kn z6 f6 s6 (fun U hU hbU => ?_) | (exact hK _ _ hbU (EIr_t (EIr_u hE (by omega)) (EIr_f hU)) hM) | with_reducible refine And.intro ?_ ?_ | with_reducible intro _)
        all_goals (try (first | omega | contradiction | skip))
    exact hL85 _ _ (by omega) saT_0 (fun a ha => up_lit ha) (EIr_u hE0 (by omega))
  have h26 : ∀ (T0 : Nat → Int → Int), zsT S T0 36 → At tb (d + 7) 28 K 26 [vr 70, vr v, vi n, vi 0] [] (X T0 m) := by
    intro T0 hz0
    have hL26 : (fun i : Int => ∀ (m1 : AM) (T : Nat → Int → Int), (styT r n T i) → (EIr S T v) → (MS m m1) → At tb (d + 7) 28 K 26 [vr 70, vr v, vi n, vi i] [] (X T m1)) 0 := by
      refine loopZ (fun i : Int => ∀ (m1 : AM) (T : Nat → Int → Int), (styT r n T i) → (EIr S T v) → (MS m m1) → At tb (d + 7) 28 K 26 [vr 70, vr v, vi n, vi i] [] (X T m1)) (r 3) (by omega) ?_ ?_
      · intro i h0 h1 h9 m1 T hT hE hM
        have hTR : RW T v r := EIr_R hv hd hR hE
        have tv := EIr_0 hv hd hE
        have t0 : T v 0 = r 3 := hTR.1.1
        have t4 : T v 4 = r 4 := hTR.1.2.1
        have tf := hTR.2.1 i h0 h1
        have t2 := tf.2.1
        have t3 := tf.2.2
        have zf := AB_ff hA h0 h1
        have hU : RW (upS T 90 i (fr r i 2)) v r := EIr_R hv hd hR (EIr_u hE (by omega))
        have hl1 : LWo m1 (upS T 90 i (fr r i 2) v 15) (lawD r) := by rw [EIr_0 hv hd (EIr_u hE (c := 90) (by omega))]; exact LWo_s hM hlo
        have u2 : upS T 90 i (fr r i 2) (v + 2) = T (v + 2) := up_lit (scr_w hv (by unfold scr; omega) (by omega))
        rw [a28_26]
        repeat' (first | omega | with_reducible refine h9 _ _ ?_ ?_ ?_ | simp only [w_iconst, w_istore, w_fall, Int.reduceToNat, w_iload, w_aload, x_g101_70, x_alen, w_alens, w_alenw, w_alenx, w_ifc, cI, x_bast, w_iinc, lgB, Nat.reduceSub, w_goto, x_g800_w0, x_g103_70, x_g803_w0, x_iald, w_ialoads, w_ialoadw, x_iast, x_g802_w0, w_if, w_call, x_g102_70, x_g804_w0, w_isub, w_iadd, x_p106_70, w_return, isA_w1, isA_w2, isA_w3, isA_w4, isA_w5, isA_w6, isA_w7, isA_w8, isA_w10, isA_w11, isA_w12, isA_w14, isA_w15, isA_w16, len_w1, len_w2, len_w3, len_w4, len_w5, len_w6, len_w7, len_w8, len_w10, len_w11, len_w12, len_w14, len_w15, len_w16, isA_88, len_88, isA_89, len_89, isA_90, len_90, isA_91, len_91, isA_92, len_92, Int.cast_ofNat_Int, a28_0, a28_24, a28_62, a28_68, a28_114, a28_115, a28_123, R32, List.getElem?_cons_zero, List.getElem?_cons_succ, List.set_cons_zero, List.set_cons_succ, List.cons_append, List.nil_append, List.replicate_succ, List.replicate_zero, List.take_succ_cons, List.take_zero, List.drop_succ_cons, List.drop_zero, List.reverse_cons, List.reverse_nil, List.length_cons, List.length_nil, Option.toList, true_and, and_true, eq_self, ↓reduceIte, not_true_eq_false, not_false_eq_true, true_or, or_true, hw, hv] | (rw [t3]) | (rw [u2]) | with_reducible refine w_29 hv hd hU hA hl1 ⟨h0, h1⟩ hn (fun T2 m2 x2 E2 M2 => ?_) | with_reducible refine And.intro ?_ ?_ | with_reducible intro _)
        all_goals (try (first | omega | contradiction | (exact styT_n hA h0 h1 hT (by omega)) | exact EIr_u hE (by omega) | exact hM | (exact styT_y hv hA h0 h1 hT (by omega) x2 E2) | exact EIr_t (EIr_u hE (by omega)) (EIr_G E2) | exact MS_t hM M2))
      · intro m1 T hT hE hM
        have hTR : RW T v r := EIr_R hv hd hR hE
        have tv := EIr_0 hv hd hE
        have t0 : T v 0 = r 3 := hTR.1.1
        have t4 : T v 4 = r 4 := hTR.1.2.1
        have u4 : upS T 89 (r 4) 0 v = T v := up_lit (scr_w (k := 0) hv (by unfold scr; omega) (by omega))
        rw [a28_26]
        repeat' (first | omega | (exact h85 _ _ hE hM hT) | simp only [w_iconst, w_istore, w_fall, Int.reduceToNat, w_iload, w_aload, x_g101_70, x_alen, w_alens, w_alenw, w_alenx, w_ifc, cI, x_bast, w_iinc, lgB, Nat.reduceSub, w_goto, x_g800_w0, x_g103_70, x_g803_w0, x_iald, w_ialoads, w_ialoadw, x_iast, x_g802_w0, w_if, w_call, x_g102_70, x_g804_w0, w_isub, w_iadd, x_p106_70, w_return, isA_w1, isA_w2, isA_w3, isA_w4, isA_w5, isA_w6, isA_w7, isA_w8, isA_w10, isA_w11, isA_w12, isA_w14, isA_w15, isA_w16, len_w1, len_w2, len_w3, len_w4, len_w5, len_w6, len_w7, len_w8, len_w10, len_w11, len_w12, len_w14, len_w15, len_w16, isA_88, len_88, isA_89, len_89, isA_90, len_90, isA_91, len_91, isA_92, len_92, Int.cast_ofNat_Int, a28_0, a28_24, a28_62, a28_68, a28_114, a28_115, a28_123, R32, List.getElem?_cons_zero, List.getElem?_cons_succ, List.set_cons_zero, List.set_cons_succ, List.cons_append, List.nil_append, List.replicate_succ, List.replicate_zero, List.take_succ_cons, List.take_zero, List.drop_succ_cons, List.drop_zero, List.reverse_cons, List.reverse_nil, List.length_cons, List.length_nil, Option.toList, true_and, and_true, eq_self, ↓reduceIte, not_true_eq_false, not_false_eq_true, true_or, or_true, hw, hv] | (rw [t4]) | (rw [u4, t4]) | with_reducible refine And.intro ?_ ?_ | with_reducible intro _)
        all_goals (try (first | omega | contradiction | omega))
    exact hL26 _ _ (styT_0 hz0) (EIr_x hz0.1) MS_r
  have hL2 : (fun i : Int => ∀ (T : Nat → Int → Int), (zsT S T i) → At tb (d + 7) 28 K 2 [vr 70, vr v, vi n, vi i] [] (X T m)) 0 := by
    refine loopZ (fun i : Int => ∀ (T : Nat → Int → Int), (zsT S T i) → At tb (d + 7) 28 K 2 [vr 70, vr v, vi n, vi i] [] (X T m)) (36) (by omega) ?_ ?_
    · intro i h0 h1 h9 T hT
      rw [a28_2]
      repeat' (first | omega | with_reducible refine h9 _ ?_ | simp only [w_iconst, w_istore, w_fall, Int.reduceToNat, w_iload, w_aload, x_g101_70, x_alen, w_alens, w_alenw, w_alenx, w_ifc, cI, x_bast, w_iinc, lgB, Nat.reduceSub, w_goto, x_g800_w0, x_g103_70, x_g803_w0, x_iald, w_ialoads, w_ialoadw, x_iast, x_g802_w0, w_if, w_call, x_g102_70, x_g804_w0, w_isub, w_iadd, x_p106_70, w_return, isA_w1, isA_w2, isA_w3, isA_w4, isA_w5, isA_w6, isA_w7, isA_w8, isA_w10, isA_w11, isA_w12, isA_w14, isA_w15, isA_w16, len_w1, len_w2, len_w3, len_w4, len_w5, len_w6, len_w7, len_w8, len_w10, len_w11, len_w12, len_w14, len_w15, len_w16, isA_88, len_88, isA_89, len_89, isA_90, len_90, isA_91, len_91, isA_92, len_92, Int.cast_ofNat_Int, a28_0, a28_24, a28_62, a28_68, a28_114, a28_115, a28_123, R32, List.getElem?_cons_zero, List.getElem?_cons_succ, List.set_cons_zero, List.set_cons_succ, List.cons_append, List.nil_append, List.replicate_succ, List.replicate_zero, List.take_succ_cons, List.take_zero, List.drop_succ_cons, List.drop_zero, List.reverse_cons, List.reverse_nil, List.length_cons, List.length_nil, Option.toList, true_and, and_true, eq_self, ↓reduceIte, not_true_eq_false, not_false_eq_true, true_or, or_true, x_alen_88] | with_reducible refine And.intro ?_ ?_ | with_reducible intro _)
      all_goals (try (first | omega | contradiction | exact zsT_s hT))
    · intro T hT
      rw [a28_2]
      repeat' (first | omega | (exact h26 _ hT) | simp only [w_iconst, w_istore, w_fall, Int.reduceToNat, w_iload, w_aload, x_g101_70, x_alen, w_alens, w_alenw, w_alenx, w_ifc, cI, x_bast, w_iinc, lgB, Nat.reduceSub, w_goto, x_g800_w0, x_g103_70, x_g803_w0, x_iald, w_ialoads, w_ialoadw, x_iast, x_g802_w0, w_if, w_call, x_g102_70, x_g804_w0, w_isub, w_iadd, x_p106_70, w_return, isA_w1, isA_w2, isA_w3, isA_w4, isA_w5, isA_w6, isA_w7, isA_w8, isA_w10, isA_w11, isA_w12, isA_w14, isA_w15, isA_w16, len_w1, len_w2, len_w3, len_w4, len_w5, len_w6, len_w7, len_w8, len_w10, len_w11, len_w12, len_w14, len_w15, len_w16, isA_88, len_88, isA_89, len_89, isA_90, len_90, isA_91, len_91, isA_92, len_92, Int.cast_ofNat_Int, a28_0, a28_24, a28_62, a28_68, a28_114, a28_115, a28_123, R32, List.getElem?_cons_zero, List.getElem?_cons_succ, List.set_cons_zero, List.set_cons_succ, List.cons_append, List.nil_append, List.replicate_succ, List.replicate_zero, List.take_succ_cons, List.take_zero, List.drop_succ_cons, List.drop_zero, List.reverse_cons, List.reverse_nil, List.length_cons, List.length_nil, Option.toList, true_and, and_true, eq_self, ↓reduceIte, not_true_eq_false, not_false_eq_true, true_or, or_true, x_alen_88] | with_reducible refine And.intro ?_ ?_ | with_reducible intro _)
      all_goals (try (first | omega | contradiction | omega))
  refine Runs.of (al := [vr 70, vr v, vi n]) (n := 1) ⟨70, _, _, rfl, xo_70⟩ rfl rfl trivial ?_
  repeat' (first | omega | with_reducible refine hL2 _ ?_ | simp only [w_iconst, w_istore, w_fall, Int.reduceToNat, w_iload, w_aload, x_g101_70, x_alen, w_alens, w_alenw, w_alenx, w_ifc, cI, x_bast, w_iinc, lgB, Nat.reduceSub, w_goto, x_g800_w0, x_g103_70, x_g803_w0, x_iald, w_ialoads, w_ialoadw, x_iast, x_g802_w0, w_if, w_call, x_g102_70, x_g804_w0, w_isub, w_iadd, x_p106_70, w_return, isA_w1, isA_w2, isA_w3, isA_w4, isA_w5, isA_w6, isA_w7, isA_w8, isA_w10, isA_w11, isA_w12, isA_w14, isA_w15, isA_w16, len_w1, len_w2, len_w3, len_w4, len_w5, len_w6, len_w7, len_w8, len_w10, len_w11, len_w12, len_w14, len_w15, len_w16, isA_88, len_88, isA_89, len_89, isA_90, len_90, isA_91, len_91, isA_92, len_92, Int.cast_ofNat_Int, a28_0, a28_24, a28_62, a28_68, a28_114, a28_115, a28_123, R32, List.getElem?_cons_zero, List.getElem?_cons_succ, List.set_cons_zero, List.set_cons_succ, List.cons_append, List.nil_append, List.replicate_succ, List.replicate_zero, List.take_succ_cons, List.take_zero, List.drop_succ_cons, List.drop_zero, List.reverse_cons, List.reverse_nil, List.length_cons, List.length_nil, Option.toList, true_and, and_true, eq_self, ↓reduceIte, not_true_eq_false, not_false_eq_true, true_or, or_true] | with_reducible refine And.intro ?_ ?_ | with_reducible intro _)
  all_goals (try (first | omega | (exfalso; assumption) | exact zsT_0))
end Last3
