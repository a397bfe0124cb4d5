/-! ===== SNOWNAMES: the texts ===== -/
def GD (r q : Int → Int) : Prop := GV q ∧ DN q ∧ q 0 = r 0
theorem GD_k {r q : Int → Int} (h : GV r ∧ DN r) (h5 : 0 ≤ r 5 ∧ r 5 ≤ 8) (h4 : r 4 ≤ 6) (e0 : q 0 = r 0) (e4 : q 4 = r 4) (e5 : q 5 = r 5) (ed : ∀ j, 151 ≤ j → j < 175 → q j = r j) (ep : ∀ p w, 0 ≤ p → p < 6 → 0 ≤ w → w < 8 → w ≠ 1 → pr q p w = pr r p w) : GD r q := by
  refine ⟨fun p k p0 p1 k0 k1 => ?_, fun k k0 k1 => ?_, e0⟩
  · rw [e4] at p1
    rw [ep p 0 p0 (by omega) (by decide) (by decide) (by decide), ep p (2 + k) p0 (by omega) (by omega) (by omega) (by omega)]
    exact h.1 p k p0 p1 k0 k1
  · rw [e5] at k1
    rw [show dr q k 0 = dr r k 0 from ed _ (by omega) (by omega), show dr q k 1 = dr r k 1 from ed _ (by omega) (by omega), e4]
    exact h.2 k k0 k1
theorem GD_fl {t : Int → Int} {n a bg e : Int} {r q : Int → Int} (hA : AB r) (h : GV r ∧ DN r) (g : fldP t n r bg a = .inr (q, e)) : GD r q := by
  have b3 := hA.2.1.1
  have b4 := hA.2.1.2.1
  have b5 := hA.2.1.2.2.1
  by_cases z : r 3 = 6
  · rw [fldP_0 z] at g; cases g
  · unfold fldP at g
    rw [if_neg z] at g
    obtain ⟨s, a1, y1, g⟩ := bnd_y g
    obtain ⟨rm, a2, y2, g⟩ := bnd_y g
    obtain ⟨sn, a3, y3, g⟩ := bnd_y g
    have e1 : fldR r s sn rm = q := congrArg Prod.fst (Sum.inr.inj g)
    rw [← e1]
    have o : ∀ j, (j < 13 ∨ 31 ≤ j) → j ≠ 3 → fldR r s sn rm j = r j := fun j hj hj3 => by
      unfold fldR putR
      rw [if_neg hj3, if_neg (by omega), if_neg (by omega), if_neg (by omega)]
    exact GD_k h b5 b4.2 (o 0 (by decide) (by decide)) (o 4 (by decide) (by decide)) (o 5 (by decide) (by decide)) (fun j j0 j1 => o j (by omega) (by omega)) (fun p w p0 p1 w0 w1 w2 => o _ (by omega) (by omega))
theorem GD_st {t : Int → Int} {n a e w lo hi : Int} {r q : Int → Int} (hA : AB r) (h : GV r ∧ DN r) (hw : 6 ≤ w ∧ w ≤ 10) (g : setP t n r w lo hi a = .inr (q, e)) : GD r q := by
  have b4 := hA.2.1.2.1
  have b5 := hA.2.1.2.2.1
  obtain ⟨v, a1, y1, g⟩ := bnd_y g
  have e1 : putR r w v = q := congrArg Prod.fst (Sum.inr.inj g)
  rw [← e1]
  have o : ∀ j, (j < 6 ∨ 10 < j) → putR r w v j = r j := fun j hj => if_neg (by omega)
  exact GD_k h b5 b4.2 (o 0 (by decide)) (o 4 (by decide)) (o 5 (by decide)) (fun j j0 j1 => o j (by omega)) (fun p w p0 p1 w0 w1 w2 => o _ (by omega))
theorem GD_db {t : Int → Int} {n a bg e : Int} {r q : Int → Int} (hA : AB r) (h : GV r ∧ DN r) (g : dbtP t n r bg a = .inr (q, e)) : GD r q := by
  have b4 := hA.2.1.2.1
  have b5 := hA.2.1.2.2.1
  by_cases z : r 5 = 8
  · rw [dbtP_0 z] at g; cases g
  · unfold dbtP at g
    rw [if_neg z] at g
    obtain ⟨p, a1, y1, g⟩ := bnd_y g
    obtain ⟨o, a2, y2, g⟩ := bnd_y g
    by_cases z2 : p = o
    · rw [if_pos z2] at g; cases g
    · rw [if_neg z2] at g
      obtain ⟨k, a3, y3, g⟩ := bnd_y g
      have e1 : lendR r p o k = q := congrArg Prod.fst (Sum.inr.inj g)
      rw [← e1]
      have gp := (numP_rg y1).1
      have go := (numP_rg y2).1
      have o4 : ∀ j, j < 151 ∨ 175 ≤ j → j ≠ 5 → lendR r p o k j = r j := fun j hj hj5 => lendR_o b5.1 hj hj5 (by omega)
      refine ⟨fun q k q0 q1 k0 k1 => ?_, fun i i0 i1 => ?_, o4 0 (by decide) (by decide)⟩
      · rw [o4 4 (by decide) (by decide)] at q1
        rw [show pr (lendR r p o _) q 0 = pr r q 0 from o4 _ (by omega) (by omega), show pr (lendR r p o _) q (2 + k) = pr r q (2 + k) from o4 _ (by omega) (by omega)]
        exact h.1 q k q0 q1 k0 k1
      · rw [show lendR r p o k 5 = r 5 + 1 by unfold lendR; rw [if_pos rfl]] at i1
        rw [o4 4 (by decide) (by decide)]
        show lendR r p o k (151 + 3 * i + 0) < r 4 ∧ lendR r p o k (151 + 3 * i + 1) < r 4
        unfold lendR
        by_cases y : i = r 5
        · rw [if_neg (by omega), if_pos (by omega), if_neg (by omega), if_neg (by omega), if_pos (by omega)]
          omega
        · rw [if_neg (by omega), if_neg (by omega), if_neg (by omega), if_neg (by omega), if_neg (by omega), if_neg (by omega), if_neg (by omega), if_neg (by omega)]
          exact h.2 i i0 (by omega)
theorem GD_on {t : Int → Int} {n a e p : Int} {r q : Int → Int} (hA : AB r) (h : GV r ∧ DN r) (hp : 0 ≤ p ∧ p < 6) (g : onP evL t n r p a = .inr (q, e)) : GD r q := by
  have b4 := hA.2.1.2.1
  have b5 := hA.2.1.2.2.1
  have pz := (hA.2.2.1 p hp.1 hp.2).1
  by_cases z : wdP t n (skp t n a) (strB 5)
  · unfold onP at g
    rw [if_pos z] at g
    obtain ⟨f, a2, y, g⟩ := bnd_y g
    by_cases z2 : rooM r p f
    · rw [if_pos z2] at g
      have e1 : wrtR evL r p f = q := congrArg Prod.fst (Sum.inr.inj g)
      rw [← e1]
      have kp : KP r (wrtR evL r p f) := KP_wrt hp.1 hp.2 pz.1 pz.2
      exact GD_k h b5 b4.2 (kp.1 0 (by decide)) (kp.1 4 (by decide)) (kp.1 5 (by decide)) (fun j j0 j1 => kp.1 j (by omega)) (fun p w p0 p1 w0 w1 w2 => kp.2 p w p0 p1 w0 w1 w2)
    · rw [if_neg z2] at g; cases g
  · rw [onP_0 z] at g
    have e1 : r = q := congrArg Prod.fst (Sum.inr.inj g)
    rw [← e1]
    exact ⟨h.1, h.2, rfl⟩
theorem GD_nm {t : Int → Int} {n a bg e : Int} {r q : Int → Int} (hA : AB r) (h : GV r ∧ DN r) (g : nmP evL t n r bg a = .inr (q, e)) : GD r q := by
  have b4 := hA.2.1.2.1
  have b5 := hA.2.1.2.2.1
  by_cases z : r 4 = 6
  · rw [nmP_0 z] at g; cases g
  · by_cases z2 : gdW t (skp t n a) (ltE t n (skp t n a) - skp t n a) ∧ 1 ≤ ltE t n (skp t n a) - skp t n a ∧ ltE t n (skp t n a) - skp t n a ≤ 6
    · rw [nmP_2 z z2] at g
      have l2 := (scn_rg (c := fun j => 97 ≤ t j ∧ t j ≤ 122) (n := n) (i := skp t n a)).2.2.1
      have ht := namL z2.1
      obtain ⟨k, hk⟩ : ∃ k, k = ltE t n (skp t n a) - skp t n a := ⟨_, rfl⟩
      rw [← hk] at g z2 ht
      have aN : AB (namR r t (skp t n a) k) := namR_AB hA ⟨b4.1, by omega⟩ ⟨z2.2.1, z2.2.2⟩ ht
      have oN : ∀ j, j < 31 ∨ 151 ≤ j → j ≠ 4 → namR r t (skp t n a) k j = r j := fun j hj hj4 => namR_o ⟨b4.1, by omega⟩ hj hj4
      have n4 : namR r t (skp t n a) k 4 = r 4 + 1 := namR_4
      have gN : GV (namR r t (skp t n a) k) ∧ DN (namR r t (skp t n a) k) := by
        refine ⟨fun p i p0 p1 i0 i1 => ?_, fun i i0 i1 => ?_⟩
        · rw [n4] at p1
          rw [namR_p p0 (by decide) (by decide) b4.1, namR_p p0 (by omega) (by omega) b4.1]
          by_cases y : p = r 4
          · rw [if_pos y, if_pos rfl, if_pos y, if_neg (by omega), if_neg (by omega), if_pos (by omega)]
            refine ⟨fun c => ?_, fun c => ?_⟩
            · rw [if_pos (by omega)]
              have := ht (2 + i - 2) (by omega) (by omega)
              omega
            · rw [if_neg (by omega)]
          · rw [if_neg y, if_neg y]
            exact h.1 p i p0 (by omega) i0 i1
        · rw [oN 5 (by decide) (by decide)] at i1
          rw [show dr (namR r t (skp t n a) k) i 0 = dr r i 0 from oN _ (by omega) (by omega), show dr (namR r t (skp t n a) k) i 1 = dr r i 1 from oN _ (by omega) (by omega), n4]
          have := h.2 i i0 i1
          omega
      obtain ⟨x1, x2, x3⟩ := GD_on aN gN ⟨b4.1, by omega⟩ g
      exact ⟨x1, x2, x3.trans (oN 0 (by decide) (by decide))⟩
    · rw [nmP_1 z z2] at g; cases g
theorem GD_pr {t : Int → Int} {n a e : Int} {r q : Int → Int} (hA : AB r) (h : GV r ∧ DN r) (g : prvP evL t n r a = .inr (q, e)) : GD r q := by
  unfold prvP at g
  have st : ∀ (k : Nat) (x y : PR (Int → Int)), wdI t n a k x y = .inr (q, e) → (x = .inr (q, e) → GD r q) → (y = .inr (q, e) → GD r q) → GD r q := fun k x y g1 g2 g3 => by
    by_cases z : wdP t n a (strB k)
    · rw [wdI_y z] at g1; exact g2 g1
    · rw [wdI_n z] at g1; exact g3 g1
  refine st _ _ _ g (fun g => GD_fl hA h g) fun g => ?_
  refine st _ _ _ g (fun g => GD_nm hA h g) fun g => ?_
  refine st _ _ _ g (fun g => GD_db hA h g) fun g => ?_
  refine st _ _ _ g (fun g => GD_st hA h (by decide) g) fun g => ?_
  refine st _ _ _ g (fun g => GD_st hA h (by decide) g) fun g => ?_
  refine st _ _ _ g (fun g => GD_st hA h (by decide) g) fun g => ?_
  refine st _ _ _ g (fun g => GD_st hA h (by decide) g) fun g => ?_
  refine st _ _ _ g (fun g => GD_st hA h (by decide) g) fun g => ?_
  cases g
theorem GD_rd {t : Int → Int} {n : Int} : ∀ (k : Nat) (r q : Int → Int) (a e : Int), AB r → DS r → goodL (lawD r) → 0 ≤ n → a ≤ n → GV r ∧ DN r → rdN (prvP evL t n) t n k r a = .inr (q, e) → GD r q
  | 0, r, q, a, e, _, _, _, _, _, _, g => by cases g
  | k + 1, r, q, a, e, hA, hS, hG, hn, ha, h, g => by
    obtain ⟨q1, e1, y1, g⟩ := bnd_y (p := prvP evL t n r (skp t n a)) g
    have g1 := GD_pr hA h y1
    have ok := prvP_ok EvD_L hG hA hS (skp_le ha) y1
    have s1 := skp_le (t := t) ok.2.2
    by_cases z : skp t n e1 = n
    · rw [if_pos z] at g
      have w : q1 = q := congrArg Prod.fst (Sum.inr.inj g)
      rw [← w]; exact g1
    · rw [if_neg z] at g
      by_cases z2 : t (skp t n e1) = 59
      · rw [if_pos z2] at g
        have g2 := GD_rd k q1 q _ e ok.1.1 ok.1.2.1 (by rw [lawD_LQ ok.1.2.2]; exact hG) hn (by omega) ⟨g1.1, g1.2.1⟩ g
        exact ⟨g2.1, g2.2.1, g2.2.2.trans g1.2.2⟩
      · rw [if_neg z2] at g; cases g
theorem RI_rd {t : Int → Int} {n e : Int} {r q : Int → Int} (h : RI r) (hn : 0 ≤ n) (ok : okL r q) (g : rdP (prvP evL t n) t n 14 r 0 = .inr (q, e)) : RI q ∧ q 0 = r 0 := by
  obtain ⟨a, s, v, dn, gl⟩ := h
  unfold rdP at g
  by_cases z : skp t n 0 < n
  · rw [if_pos z] at g
    have g2 := GD_rd 14 r q _ e a s gl hn (by omega) ⟨v, dn⟩ g
    exact ⟨⟨ok.1, ok.2.1, g2.1, g2.2.1, by rw [lawD_LQ ok.2.2]; exact gl⟩, g2.2.2⟩
  · rw [if_neg z] at g
    have w : r = q := congrArg Prod.fst (Sum.inr.inj g)
    rw [← w]
    exact ⟨⟨a, s, v, dn, gl⟩, rfl⟩
theorem RW_txt {S : Nat → Int → Int} {w : Nat} {r : Int → Int} {v : Int} (hR : RW S w r) : RW (upS S w 14 v) w (putR r 0 v) := by
  obtain ⟨⟨c0, c1, c2, c3⟩, cf, cp, cd, cl, cs⟩ := hR
  have o : ∀ k : Nat, k ≠ 0 → upS S w 14 v (w + k) = S (w + k) := fun k hk => if_neg (by omega)
  have e : ∀ j, j ≠ 0 → putR r 0 v j = r j := fun j hj => if_neg hj
  have z : ∀ j, j ≠ 14 → upS S w 14 v w j = S w j := fun j hj => by rw [upS_at, if_neg (fun y => hj y.2)]
  refine ⟨⟨by rw [z 0 (by decide), e 3 (by decide)]; exact c0, by rw [z 4 (by decide), e 4 (by decide)]; exact c1, by rw [z 13 (by decide), e 12 (by decide)]; exact c2, by rw [upS_at, if_pos ⟨rfl, rfl⟩]; exact (if_pos rfl).symm⟩, ?_, ?_, ?_, ?_, ?_⟩
  · intro f f0 f1
    rw [e 3 (by decide)] at f1
    have w3 : ∀ k, 0 ≤ k → k < 3 → fr (putR r 0 v) f k = fr r f k := fun k k0 k1 => e _ (by omega)
    rw [o 1 (by decide), o 2 (by decide), o 3 (by decide), w3 0 (by decide) (by decide), w3 1 (by decide) (by decide), w3 2 (by decide) (by decide)]
    exact cf f f0 f1
  · intro p p0 p1
    rw [e 4 (by decide)] at p1
    have w3 : ∀ k, 0 ≤ k → k < 20 → pr (putR r 0 v) p k = pr r p k := fun k k0 k1 => e _ (by omega)
    have g := cp p p0 p1
    rw [o 4 (by decide), o 5 (by decide), o 6 (by decide), o 7 (by decide), o 8 (by decide), w3 0 (by decide) (by decide), w3 1 (by decide) (by decide)]
    refine ⟨g.1, g.2.1, fun k k0 k1 => ?_, fun h k k0 k1 => ?_⟩
    · rw [show pr (putR r 0 v) p (2 + k) = pr r p (2 + k) from e _ (by omega)]; exact g.2.2.1 k k0 k1
    · rw [show pr (putR r 0 v) p (8 + k) = pr r p (8 + k) from e _ (by omega), show pr (putR r 0 v) p (14 + k) = pr r p (14 + k) from e _ (by omega)]; exact g.2.2.2 h k k0 k1
  · unfold RWd at *
    rw [o 9 (by decide), o 10 (by decide), o 11 (by decide), o 12 (by decide), e 5 (by decide)]
    refine ⟨cd.1, fun k k0 k1 => ?_⟩
    have w3 : ∀ q, 0 ≤ q → q < 3 → dr (putR r 0 v) k q = dr r k q := fun q q0 q1 => e _ (by omega)
    rw [w3 0 (by decide) (by decide), w3 1 (by decide) (by decide), w3 2 (by decide) (by decide)]
    exact cd.2 k k0 k1
  · unfold RWl at *
    rw [o 13 (by decide), o 14 (by decide), e 11 (by decide)]
    refine ⟨cl.1, fun k c k0 k1 c0 c1 => ?_⟩
    rw [show gr (putR r 0 v) k c = gr r k c from e _ (by omega)]
    exact cl.2 k c k0 k1 c0 c1
  · intro j j0 j1
    rw [o 15 (by decide), e _ (by omega)]
    exact cs j j0 j1
/-- but for the object, its texts and the spare World all is the same -/
def OFr (S T : Nat → Int → Int) : Prop := ∀ a, a ≠ 0 → a ≠ 54 → a ≠ 55 → (a < 19 ∨ 36 ≤ a) → T a = S a
theorem NW_c {m m2 : AM} {q : List LL} {t : Int → Int} {n e : Int} (h : NW m m2 q) (hp : parL t n = .inr (q, e)) : m2.1 m.2.1 = co 2 [vi (q.length : Int), vr (m.2.1 + 1), vr (m.2.1 + 2), vr (m.2.1 + 3), vr (m.2.1 + 4), vr (m.2.1 + 5)] := by
  obtain ⟨-, n2, nc, k, u, b, c, s, ⟨-, c0, -⟩, -, e1, -⟩ := h.2.2 ((q.length : Int), n, t) rfl (lawL_q rfl hp)
  have e2 : (n2 : Int) = (q.length : Int) := e1
  rw [e2] at c0
  exact c0
section Snow6
variable {tb : Tab} {d : Nat} {m : AM} {K : Out → AM → Prop} {S : Nat → Int → Int} {r : Int → Int}
theorem hs_131 {E : Nat} : pg.2.1 131 E = none := rfl
theorem k131_0 : pg.1 131 0 = [.aload 0, .invokeinterface 134 1, .istore 1, .aload 0, .getfield 904, .aload 0, .getfield 903, .invokeinterface 106 2, .aload 0, .getfield 910, .aload 0, .getfield 904, .aload 0, .getfield 900, .iload 1, .invokeinterface 83 4, .istore 2, .aload 0, .aload 0, .getfield 910, .getfield 600, .getfield 706, .putfield 902, .iload 2, .ifCond .ne 61, .invokedynamic 1] := rfl
theorem a131_0 {tb : Tab} {d : Nat} {K : Out → AM → Prop} {ls st : List AV} {m : AM} : At tb d 131 K 0 ls st m = wpB tb (pg.2.1 131) (Runs tb pg d) K (At tb d 131 K) [.aload 0, .invokeinterface 134 1, .istore 1, .aload 0, .getfield 904, .aload 0, .getfield 903, .invokeinterface 106 2, .aload 0, .getfield 910, .aload 0, .getfield 904, .aload 0, .getfield 900, .iload 1, .invokeinterface 83 4, .istore 2, .aload 0, .aload 0, .getfield 910, .getfield 600, .getfield 706, .putfield 902, .iload 2, .ifCond .ne 61, .invokedynamic 1] ls st m := At.eq k131_0
theorem k131_61 : pg.1 131 61 = [.aload 0, .getfield 903, .getfield 814, .bipush 12, .if_icmp .lt 83, .invokedynamic 3] := rfl
theorem a131_61 {tb : Tab} {d : Nat} {K : Out → AM → Prop} {ls st : List AV} {m : AM} : At tb d 131 K 61 ls st m = wpB tb (pg.2.1 131) (Runs tb pg d) K (At tb d 131 K) [.aload 0, .getfield 903, .getfield 814, .bipush 12, .if_icmp .lt 83, .invokedynamic 3] ls st m := At.eq k131_61
theorem k131_83 : pg.1 131 83 = [.aload 0, .getfield 903, .aload 0, .getfield 904, .invokeinterface 106 2, .aload 0, .getfield 903, .dup, .getfield 814, .bipush 1, .iadd, .putfield 814, .aload 0, .bipush 0, .putfield 909, .aload 0, .getfield 903, .getfield 814, .ireturn] := rfl
theorem a131_83 {tb : Tab} {d : Nat} {K : Out → AM → Prop} {ls st : List AV} {m : AM} : At tb d 131 K 83 ls st m = wpB tb (pg.2.1 131) (Runs tb pg d) K (At tb d 131 K) [.aload 0, .getfield 903, .aload 0, .getfield 904, .invokeinterface 106 2, .aload 0, .getfield 903, .dup, .getfield 814, .bipush 1, .iadd, .putfield 814, .aload 0, .bipush 0, .putfield 909, .aload 0, .getfield 903, .getfield 814, .ireturn] ls st m := At.eq k131_83
theorem w_131 (hR : RW S 2 r) (hA : AB r) (hX : tb.2.1 = strB) (hS : DS r) (hG : goodL (lawD r)) (hl : LWo m (S 2 15) (lawD r)) (h1 : 0 ≤ S 0 1 ∧ S 0 1 ≤ 400) (hB : ∀ j, 0 ≤ j → j < 400 → 0 ≤ S 1 j ∧ S 1 j < 256) (hX1 : ∀ e T m1, rdP (prvP evL (nrm (S 1) (S 0 1)) (S 0 1)) (nrm (S 1) (S 0 1)) (S 0 1) 14 r 0 = .inl e → OFr S T → (T 0 1 = 0 ∧ T 0 2 = e ∧ ∀ j, j ≠ 1 → j ≠ 2 → T 0 j = S 0 j) → MS m m1 → K (.inr 1) (X T (mthrow m1))) (hX2 : ∀ q e T m1, rdP (prvP evL (nrm (S 1) (S 0 1)) (S 0 1)) (nrm (S 1) (S 0 1)) (S 0 1) 14 r 0 = .inr (q, e) → okL r q → 12 ≤ r 0 → OFr S T → (T 0 1 = 0 ∧ T 0 2 = -1 ∧ ∀ j, j ≠ 1 → j ≠ 2 → T 0 j = S 0 j) → MS m m1 → K (.inr 3) (X T (mthrow m1))) (hK : ∀ q e T m1, rdP (prvP evL (nrm (S 1) (S 0 1)) (S 0 1)) (nrm (S 1) (S 0 1)) (S 0 1) 14 r 0 = .inr (q, e) → okL r q → r 0 < 12 → RW T 2 (putR q 0 (q 0 + 1)) → T 2 15 = S 2 15 → T 1 = S 1 → (∀ a, a ≠ 54 → a ≠ 55 → 36 ≤ a → T a = S a) → (T 0 1 = 0 ∧ T 0 2 = -1 ∧ T 0 9 = 0 ∧ ∀ j, j ≠ 1 → j ≠ 2 → j ≠ 9 → T 0 j = S 0 j) → MS m m1 → K (.inl (some (vi (q 0 + 1)))) (X T m1)) : Runs tb pg (d + 10) 131 [vr 0] (X S m) K := by
  have hw := isW_2
  have b3 := hA.2.1.1
  have b4 := hA.2.1.2.1
  have b5 := hA.2.1.2.2.1
  have hP := TPE_n h1 hB
  have hw9 := isW_19
  have b0t := hA.2.1.2.2.2.1
  have hR1 : RW (upS S 0 1 0) 2 r := RW_k hR (fun k hk => up_lit (by omega))
  have hl1 : LWo m (upS S 0 1 0 2 15) (lawD r) := hl
  have u1 : upS S 0 1 0 0 1 = 0 := by rw [upS_at, if_pos ⟨rfl, rfl⟩]
  have uj : ∀ j, j ≠ 1 → upS S 0 1 0 0 j = S 0 j := fun j hj => by rw [upS_at, if_neg (fun y => hj y.2)]
  refine Runs.of (al := [vr 0]) (n := 2) ⟨0, _, _, rfl, xo_0⟩ rfl rfl trivial ?_
  repeat' (first | omega | (exact hX1 e2 _ m2 r2 FO ⟨n1, n2, nj⟩ M2) | (exact hX2 q e3 _ m3 r3 k3 (by omega) FO ⟨n1, n2, nj⟩ M3) | (exact hK q e3 _ m3 r3 k3 (by omega) R9 L9 G9 O9 W9 M3) | simp only [w_aload, w_call, w_istore, x_g904_0, x_g903_0, x_g910_0, x_g900_0, w_iload, x_g600_54, x_g706_55, x_g706_58, x_p902_0, w_if, cI, Int.reduceToNat, w_throw, x_g814_w0, w_iconst, w_ifc, w_dupi, w_dupr, w_iadd, x_p814_w0, x_p909_0, w_ireturn, a131_0, a131_61, a131_83, R32, List.getElem?_cons_zero, List.getElem?_cons_succ, List.set_cons_zero, List.set_cons_succ, List.cons_append, List.nil_append, List.replicate_succ, List.replicate_zero, List.take_succ_cons, List.take_zero, List.drop_succ_cons, List.drop_zero, List.reverse_cons, List.reverse_nil, List.length_cons, List.length_nil, Option.toList, true_and, and_true, eq_self, ↓reduceIte, not_true_eq_false, not_false_eq_true, true_or, or_true, hw, x_throw, hs_131, hw9] | (with_reducible refine w_134 ?_) | (refine w_106 hw9 isW_2 dis_19 hl1 (fun T1 C1 => ?_)) | (have A1 : RW T1 19 r := RW_cp hA hR1 C1; have l1 : LWo m (T1 19 15) (lawD r) := (by rw [C1.2.1.2.2.2.2]; exact hl1); have P1 : TPE T1 (nrm (S 1) (S 0 1)) (S 0 1) := TPE_f hP ((C1.1 1 (by decide)).trans (up_lit (by decide))); (refine w_83 hw9 A1 hA hS hG P1 hX l1 (fun e2 T2 m2 r2 x2 f2 M2 => ?_) (fun q e3 T3 m3 r3 R3 k3 x2 f3 L3 M3 => ?_))) | (have gF : True := trivial; (have tt := r2); have F3 : ∀ a, a ≠ 54 → a ≠ 55 → (a < 19 ∨ 36 ≤ a) → T2 a = upS S 0 1 0 a := (fun a a1 a2 a3 => (f2 a a1 a2 (by omega)).trans (C1.1 a (by omega))); have z1 : T2 0 1 = 0 := (congrFun (F3 0 (by decide) (by decide) (by decide)) 1).trans u1; have zj : ∀ j, j ≠ 1 → T2 0 j = S 0 j := (fun j hj => (congrFun (F3 0 (by decide) (by decide) (by decide)) j).trans (uj j hj)); have FO : OFr S (upS T2 0 2 (T2 55 6)) := (fun a a0 a1 a2 a3 => (up_lit a0).trans ((F3 a a1 a2 a3).trans (up_lit a0))); have n1 : upS T2 0 2 (T2 55 6) 0 1 = 0 := (by rw [upS_at, if_neg (by decide)]; exact z1); have nj : ∀ j, j ≠ 1 → j ≠ 2 → upS T2 0 2 (T2 55 6) 0 j = S 0 j := (fun j j1 j2 => by rw [upS_at, if_neg (fun y => j2 y.2)]; exact zj j j1); have n2 : upS T2 0 2 (T2 55 6) 0 2 = e2 := (by rw [upS_at, if_pos ⟨rfl, rfl⟩]; exact x2.2.2.2.2.2.1); have c14 : upS T2 0 2 (T2 55 6) 2 14 = r 0 := (by rw [FO 2 (by decide) (by decide) (by decide) (by decide)]; exact hR.1.2.2.2); clear A1) | (have gF : True := trivial; (have tt := r3); have F3 : ∀ a, a ≠ 54 → a ≠ 55 → (a < 19 ∨ 36 ≤ a) → T3 a = upS S 0 1 0 a := (fun a a1 a2 a3 => (f3 a a1 a2 (by omega)).trans (C1.1 a (by omega))); have z1 : T3 0 1 = 0 := (congrFun (F3 0 (by decide) (by decide) (by decide)) 1).trans u1; have zj : ∀ j, j ≠ 1 → T3 0 j = S 0 j := (fun j hj => (congrFun (F3 0 (by decide) (by decide) (by decide)) j).trans (uj j hj)); have FO : OFr S (upS T3 0 2 (T3 55 6)) := (fun a a0 a1 a2 a3 => (up_lit a0).trans ((F3 a a1 a2 a3).trans (up_lit a0))); have n1 : upS T3 0 2 (T3 55 6) 0 1 = 0 := (by rw [upS_at, if_neg (by decide)]; exact z1); have nj : ∀ j, j ≠ 1 → j ≠ 2 → upS T3 0 2 (T3 55 6) 0 j = S 0 j := (fun j j1 j2 => by rw [upS_at, if_neg (fun y => j2 y.2)]; exact zj j j1); have n2 : upS T3 0 2 (T3 55 6) 0 2 = -1 := (by rw [upS_at, if_pos ⟨rfl, rfl⟩]; exact x2.2.2.2.2.2.1); have c14 : upS T3 0 2 (T3 55 6) 2 14 = r 0 := (by rw [FO 2 (by decide) (by decide) (by decide) (by decide)]; exact hR.1.2.2.2); have lz : LWo m3 (upS T3 0 2 (T3 55 6) 19 15) (lawD q) := (by rw [up_lit (by decide), L3, C1.2.1.2.2.2.2, lawD_LQ k3.2.2]; exact LWo_s M3 hl1); have Rz : RW (upS T3 0 2 (T3 55 6)) 19 q := RW_k R3 (fun k hk => up_lit (by omega)); clear A1) | (rw [c14]) | ((refine w_106 isW_2 hw9 dis_219 lz (fun T4 C4 => ?_)); have E4 := C4.1; have R4 : RW T4 2 q := RW_cp k3.1 Rz C4; have q14 : T4 2 14 = q 0 := R4.1.2.2.2; have w91 : upS (upS T4 2 14 (q 0 + 1)) 0 9 0 2 14 = q 0 + 1 := ((congrFun (up_lit (by decide)) 14).trans (by rw [upS_at, if_pos ⟨rfl, rfl⟩])); have R9 : RW (upS (upS T4 2 14 (q 0 + 1)) 0 9 0) 2 (putR q 0 (q 0 + 1)) := RW_k (RW_txt R4) (fun k hk => up_lit (by omega)); have L9 : upS (upS T4 2 14 (q 0 + 1)) 0 9 0 2 15 = S 2 15 := (((congrFun (up_lit (by decide)) 15).trans (by rw [upS_at, if_neg (by decide)])).trans (C4.2.1.2.2.2.2.trans (((congrFun (up_lit (by decide)) 15).trans L3).trans (C1.2.1.2.2.2.2.trans (congrFun (up_lit (by decide)) 15))))); have G9 : upS (upS T4 2 14 (q 0 + 1)) 0 9 0 1 = S 1 := (((up_lit (by decide)).trans (up_lit (by decide))).trans ((E4 1 (by decide)).trans (FO 1 (by decide) (by decide) (by decide) (by decide)))); have O9 : ∀ a, a ≠ 54 → a ≠ 55 → 36 ≤ a → upS (upS T4 2 14 (q 0 + 1)) 0 9 0 a = S a := (fun a a1 a2 a3 => ((up_lit (by omega)).trans (up_lit (by omega))).trans ((E4 a (by omega)).trans (FO a (by omega) a1 a2 (by omega)))); have p0 : ∀ j, j ≠ 9 → upS (upS T4 2 14 (q 0 + 1)) 0 9 0 0 j = upS T3 0 2 (T3 55 6) 0 j := (fun j hj => by rw [upS_at, if_neg (fun y => hj y.2), upS_at, if_neg (fun y => absurd y.1 (by decide)), E4 0 (by decide)]); have W9 : upS (upS T4 2 14 (q 0 + 1)) 0 9 0 0 1 = 0 ∧ upS (upS T4 2 14 (q 0 + 1)) 0 9 0 0 2 = -1 ∧ upS (upS T4 2 14 (q 0 + 1)) 0 9 0 0 9 = 0 ∧ ∀ j, j ≠ 1 → j ≠ 2 → j ≠ 9 → upS (upS T4 2 14 (q 0 + 1)) 0 9 0 0 j = S 0 j := ⟨(p0 1 (by decide)).trans n1, (p0 2 (by decide)).trans n2, by rw [upS_at, if_pos ⟨rfl, rfl⟩], fun j j1 j2 j9 => (p0 j j9).trans (nj j j1 j2)⟩) | (rw [q14]) | (rw [w91]) | with_reducible refine And.intro ?_ ?_ | with_reducible intro _)
  all_goals (try (first | omega | (exfalso; assumption) | skip))
theorem hs_132 {E : Nat} : pg.2.1 132 E = none := rfl
theorem k132_0 : pg.1 132 0 = [.aload 0, .getfield 911, .aload 0, .getfield 900, .aload 0, .invokeinterface 134 1, .invokeinterface 38 3, .astore 1, .aload 0, .aload 0, .getfield 911, .getfield 300, .getfield 706, .putfield 902, .aload 1, .ifnonnull 44, .invokedynamic 1] := rfl
theorem a132_0 {tb : Tab} {d : Nat} {K : Out → AM → Prop} {ls st : List AV} {m : AM} : At tb d 132 K 0 ls st m = wpB tb (pg.2.1 132) (Runs tb pg d) K (At tb d 132 K) [.aload 0, .getfield 911, .aload 0, .getfield 900, .aload 0, .invokeinterface 134 1, .invokeinterface 38 3, .astore 1, .aload 0, .aload 0, .getfield 911, .getfield 300, .getfield 706, .putfield 902, .aload 1, .ifnonnull 44, .invokedynamic 1] ls st m := At.eq k132_0
theorem k132_44 : pg.1 132 44 = [.aload 0, .getfield 903, .aload 1, .putstatic 815, .aload 0, .bipush 0, .putfield 909, .aload 1, .getfield 200, .ireturn] := rfl
theorem a132_44 {tb : Tab} {d : Nat} {K : Out → AM → Prop} {ls st : List AV} {m : AM} : At tb d 132 K 44 ls st m = wpB tb (pg.2.1 132) (Runs tb pg d) K (At tb d 132 K) [.aload 0, .getfield 903, .aload 1, .putstatic 815, .aload 0, .bipush 0, .putfield 909, .aload 1, .getfield 200, .ireturn] ls st m := At.eq k132_44
theorem w_132  (hX : tb.2.1 = strB) (hD : tb.1 2 = [vi 0, vn, vn, vn, vn, vn]) (hm : 317 ≤ m.2.1) (h1 : 0 ≤ S 0 1 ∧ S 0 1 ≤ 400) (hB : ∀ j, 0 ≤ j → j < 400 → 0 ≤ S 1 j ∧ S 1 j < 256) (hX1 : ∀ e T, parL (S 1) (S 0 1) = .inl e → (∀ a, a ≠ 0 → (a < 57 ∨ 63 < a) → T a = S a) → (T 0 1 = 0 ∧ T 0 2 = e ∧ ∀ j, j ≠ 1 → j ≠ 2 → T 0 j = S 0 j) → K (.inr 1) (X T (mthrow m))) (hK : ∀ q e T m1, parL (S 1) (S 0 1) = .inr (q, e) → (∀ a, a ≠ 0 → a ≠ 2 → (a < 57 ∨ 63 < a) → T a = S a) → (T 2 15 = (m.2.1 : Int) ∧ ∀ j, j ≠ 15 → T 2 j = S 2 j) → (T 0 1 = 0 ∧ T 0 2 = -1 ∧ T 0 9 = 0 ∧ ∀ j, j ≠ 1 → j ≠ 2 → j ≠ 9 → T 0 j = S 0 j) → NW m m1 q → K (.inl (some (vi (q.length : Int)))) (X T m1)) : Runs tb pg (d + 41) 132 [vr 0] (X S m) K := by
  have hP := TPE_n h1 hB
  have hw := isW_2
  have u1 : upS S 0 1 0 0 1 = 0 := by rw [upS_at, if_pos ⟨rfl, rfl⟩]
  have uj : ∀ j, j ≠ 1 → upS S 0 1 0 0 j = S 0 j := fun j hj => by rw [upS_at, if_neg (fun y => hj y.2)]
  have P1 : TPE (upS S 0 1 0) (nrm (S 1) (S 0 1)) (S 0 1) := TPE_f hP (up_lit (by decide))
  refine Runs.of (al := [vr 0]) (n := 1) ⟨0, _, _, rfl, xo_0⟩ rfl rfl trivial ?_
  repeat' (first | omega | (exact hX1 e2 _ r2 FO ⟨n1, n2, nj⟩) | (exact hK q e3 _ m3 r3 F9 F2 F0 w3) | simp only [w_aload, x_g911_0, x_g900_0, w_call, w_astore, w_astorex, w_astoren, x_g300_57, x_g706_55, x_g706_58, x_p902_0, w_ifnonnull, w_ifnonnulln, Int.reduceToNat, w_throw, x_g903_0, x_p815n_w0, x_p815r_w0, w_iconst, x_p909_0, w_ireturn, a132_0, a132_44, R32, List.getElem?_cons_zero, List.getElem?_cons_succ, List.set_cons_zero, List.set_cons_succ, List.cons_append, List.nil_append, List.replicate_succ, List.replicate_zero, List.take_succ_cons, List.take_zero, List.drop_succ_cons, List.drop_zero, List.reverse_cons, List.reverse_nil, List.length_cons, List.length_nil, Option.toList, true_and, and_true, eq_self, ↓reduceIte, not_true_eq_false, not_false_eq_true, true_or, or_true, hw, x_throw, hs_132, Nat.reduceDiv] | (with_reducible refine w_134 ?_) | (refine w_38 P1 hX hm hD (fun e2 T2 r2 x2 f2 => ?_) (fun q e3 T3 m3 r3 x3 f3 w3 => ?_)) | (have gF : True := trivial; (have tt := r2); have G0 : T2 0 = upS S 0 1 0 0 := (f2 0 (by decide) (by decide) (by decide) (by decide) (by decide) (by decide)); have z1 : T2 0 1 = 0 := (congrFun G0 1).trans u1; have zj : ∀ j, j ≠ 1 → T2 0 j = S 0 j := (fun j hj => (congrFun G0 j).trans (uj j hj)); have FO : ∀ a, a ≠ 0 → (a < 57 ∨ 63 < a) → upS T2 0 2 (T2 58 6) a = S a := (fun a a0 a1 => (up_lit a0).trans ((f2 a (by omega) (by omega) (by omega) (by omega) (by omega) (by omega)).trans (up_lit a0))); have n1 : upS T2 0 2 (T2 58 6) 0 1 = 0 := (by rw [upS_at, if_neg (by decide)]; exact z1); have nj : ∀ j, j ≠ 1 → j ≠ 2 → upS T2 0 2 (T2 58 6) 0 j = S 0 j := (fun j j1 j2 => by rw [upS_at, if_neg (fun y => j2 y.2)]; exact zj j j1); have n2 : upS T2 0 2 (T2 58 6) 0 2 = e2 := (by rw [upS_at, if_pos ⟨rfl, rfl⟩]; exact x2.2.2.2.2.2.1); clear x2) | (have gF : True := trivial; (have tt := r3); have G0 : T3 0 = upS S 0 1 0 0 := (f3 0 (by decide) (by decide) (by decide) (by decide) (by decide) (by decide)); have z1 : T3 0 1 = 0 := (congrFun G0 1).trans u1; have zj : ∀ j, j ≠ 1 → T3 0 j = S 0 j := (fun j hj => (congrFun G0 j).trans (uj j hj)); have FO : ∀ a, a ≠ 0 → (a < 57 ∨ 63 < a) → upS T3 0 2 (T3 58 6) a = S a := (fun a a0 a1 => (up_lit a0).trans ((f3 a (by omega) (by omega) (by omega) (by omega) (by omega) (by omega)).trans (up_lit a0))); have n1 : upS T3 0 2 (T3 58 6) 0 1 = 0 := (by rw [upS_at, if_neg (by decide)]; exact z1); have nj : ∀ j, j ≠ 1 → j ≠ 2 → upS T3 0 2 (T3 58 6) 0 j = S 0 j := (fun j j1 j2 => by rw [upS_at, if_neg (fun y => j2 y.2)]; exact zj j j1); have n2 : upS T3 0 2 (T3 58 6) 0 2 = -1 := (by rw [upS_at, if_pos ⟨rfl, rfl⟩]; exact x3.2.2.2.2.2.1); have c0 : m3.1 m.2.1 = co 2 [vi (q.length : Int), vr (m.2.1 + 1), vr (m.2.1 + 2), vr (m.2.1 + 3), vr (m.2.1 + 4), vr (m.2.1 + 5)] := NW_c w3 r3; clear x3) | (rw [w_getf (g := 200) (v := vi (q.length : Int)) ((X_o hm).trans c0) rfl]) | (have F9 : ∀ a, a ≠ 0 → a ≠ 2 → (a < 57 ∨ 63 < a) → upS (upS (upS T3 0 2 (T3 58 6)) 2 15 (m.2.1 : Int)) 0 9 0 a = S a := (fun a a0 a2 a1 => (up_lit a0).trans ((up_lit a2).trans (FO a a0 a1))); have F2 : upS (upS (upS T3 0 2 (T3 58 6)) 2 15 (m.2.1 : Int)) 0 9 0 2 15 = m.2.1 ∧ ∀ j, j ≠ 15 → upS (upS (upS T3 0 2 (T3 58 6)) 2 15 (m.2.1 : Int)) 0 9 0 2 j = S 2 j := ⟨(congrFun (up_lit (by decide)) 15).trans (by rw [upS_at, if_pos ⟨rfl, rfl⟩]), fun j hj => (congrFun (up_lit (by decide)) j).trans (by rw [upS_at, if_neg (fun y => hj y.2)]; exact congrFun (FO 2 (by decide) (by decide)) j)⟩; have F0 : upS (upS (upS T3 0 2 (T3 58 6)) 2 15 (m.2.1 : Int)) 0 9 0 0 1 = 0 ∧ upS (upS (upS T3 0 2 (T3 58 6)) 2 15 (m.2.1 : Int)) 0 9 0 0 2 = -1 ∧ upS (upS (upS T3 0 2 (T3 58 6)) 2 15 (m.2.1 : Int)) 0 9 0 0 9 = 0 ∧ ∀ j, j ≠ 1 → j ≠ 2 → j ≠ 9 → upS (upS (upS T3 0 2 (T3 58 6)) 2 15 (m.2.1 : Int)) 0 9 0 0 j = S 0 j := ⟨by rw [upS_at, if_neg (by decide)]; exact (congrFun (up_lit (by decide)) 1).trans n1, by rw [upS_at, if_neg (by decide)]; exact (congrFun (up_lit (by decide)) 2).trans n2, by rw [upS_at, if_pos ⟨rfl, rfl⟩], fun j j1 j2 j9 => by rw [upS_at, if_neg (fun y => j9 y.2)]; exact (congrFun (up_lit (by decide)) j).trans (nj j j1 j2)⟩; clear FO) | with_reducible refine And.intro ?_ ?_ | with_reducible intro _)
  all_goals (try (first | omega | (exfalso; assumption) | skip))
end Snow6
