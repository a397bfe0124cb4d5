/-! ===== THE REFERENCE: asking the law ===== -/
/-- the lines of a law's text, as it lies in the row -/
noncomputable def parL (t : Int → Int) (n : Int) : PR (List LL) := rdP (lawP (nrm t n) n) (nrm t n) n 12 [] 0
noncomputable def lawL (L : LawD) : List LL := if L.1 < 1 then [] else match parL L.2.2 L.2.1 with
  | .inl _ => []
  | .inr (l, _) => l
def goodL (L : LawD) : Prop := L.1 < 1 ∨ ((0 ≤ L.2.1 ∧ L.2.1 ≤ 400) ∧ ∃ l e, parL L.2.2 L.2.1 = .inr (l, e))
noncomputable def evL (L : LawD) (w : Int) (fc : Int → Int) : Int := if w = 0 then totM fc (lawL L) else totD fc (lawL L)
def okLn (q : List LL) : Prop := ∀ l ∈ q, 0 ≤ l.2.1 ∧ l.2.1 ≤ 40
theorem okLn_0 : okLn [] := fun l h => by cases h
theorem linT_ok {t : Int → Int} {n k a e : Int} {l : LL} (h : linT t n k a = .inr (l, e)) : 0 ≤ l.2.1 ∧ l.2.1 ≤ 40 := by
  obtain ⟨v, e1, y1, h⟩ := bnd_y h
  have g := numP_rg y1
  by_cases z : wdP t n (skp t n e1) (strB 17)
  · rw [wdI_y z] at h
    obtain ⟨c, e2, y2, h⟩ := bnd_y h
    have q : (k, v, c) = l := congrArg Prod.fst (Sum.inr.inj h)
    rw [← q]
    exact g.1
  · rw [wdI_n z] at h
    have q : (k, v, []) = l := congrArg Prod.fst (Sum.inr.inj h)
    rw [← q]
    exact g.1
theorem linP_ok {t : Int → Int} {n b e : Int} {l : LL} (h : linP t n b = .inr (l, e)) : 0 ≤ l.2.1 ∧ l.2.1 ≤ 40 := by
  unfold linP at h
  have st : ∀ (k : Nat) (x y : PR LL), wdI t n b k x y = .inr (l, e) → (x = .inr (l, e) → 0 ≤ l.2.1 ∧ l.2.1 ≤ 40) → (y = .inr (l, e) → 0 ≤ l.2.1 ∧ l.2.1 ≤ 40) → 0 ≤ l.2.1 ∧ l.2.1 ≤ 40 := fun k x y g1 g2 g3 => by
    by_cases z : wdP t n b (strB k)
    · rw [wdI_y z] at g1; exact g2 g1
    · rw [wdI_n z] at g1; exact g3 g1
  refine st _ _ _ h linT_ok fun h => ?_
  refine st _ _ _ h linT_ok fun h => ?_
  refine st _ _ _ h linT_ok fun h => ?_
  cases h
theorem lawP_ok {t : Int → Int} {n b e : Int} {L q : List LL} (hL : okLn L) (h : lawP t n L b = .inr (q, e)) : okLn q ∧ q.length = L.length + 1 := by
  obtain ⟨l, e1, y1, h⟩ := bnd_y h
  have g := linP_ok y1
  have z : L ++ [l] = q := congrArg Prod.fst (Sum.inr.inj h)
  rw [← z]
  refine ⟨fun x hx => ?_, by rw [List.length_append]; rfl⟩
  rcases List.mem_append.mp hx with y | y
  · exact hL x y
  · rw [List.mem_singleton.mp y]; exact g
theorem rdN_ok {t : Int → Int} {n : Int} : ∀ (k : Nat) (L q : List LL) (a e : Int), okLn L → rdN (lawP t n) t n k L a = .inr (q, e) → okLn q ∧ q.length ≤ L.length + k
  | 0, L, q, a, e, _, h => by cases h
  | k + 1, L, q, a, e, hL, h => by
    obtain ⟨q1, e1, y1, h⟩ := bnd_y (p := lawP t n L (skp t n a)) h
    have g := lawP_ok hL y1
    by_cases z : skp t n e1 = n
    · rw [if_pos z] at h
      have w : q1 = q := congrArg Prod.fst (Sum.inr.inj h)
      subst w
      exact ⟨g.1, by omega⟩
    · rw [if_neg z] at h
      by_cases z2 : t (skp t n e1) = 59
      · rw [if_pos z2] at h
        have w := rdN_ok k q1 q _ e g.1 h
        exact ⟨w.1, by omega⟩
      · rw [if_neg z2] at h; cases h
theorem parL_ok {t : Int → Int} {n e : Int} {q : List LL} (h : parL t n = .inr (q, e)) : okLn q ∧ q.length ≤ 12 := by
  unfold parL rdP at h
  by_cases z : skp (nrm t n) n 0 < n
  · rw [if_pos z] at h
    have := rdN_ok 12 [] q _ e okLn_0 h
    exact ⟨this.1, by have := this.2; simpa using this⟩
  · rw [if_neg z] at h
    have w : [] = q := congrArg Prod.fst (Sum.inr.inj h)
    subst w
    exact ⟨okLn_0, by decide⟩
theorem lawL_ok {L : LawD} : okLn (lawL L) ∧ (lawL L).length ≤ 12 := by
  unfold lawL
  by_cases z : L.1 < 1
  · rw [if_pos z]; exact ⟨okLn_0, by decide⟩
  · rw [if_neg z]
    cases h : parL L.2.2 L.2.1 with
    | inl b => exact ⟨okLn_0, Nat.zero_le _⟩
    | inr p => exact parL_ok (e := p.2) h
theorem totL_rg {k : Int} {fc : Int → Int} : ∀ q : List LL, okLn q → 0 ≤ totL k fc q ∧ totL k fc q ≤ 40 * q.length
  | [], _ => by show 0 ≤ (0 : Int) ∧ (0 : Int) ≤ 40 * ((0 : Nat) : Int); omega
  | l :: r, h => by
    have i := totL_rg (k := k) (fc := fc) r (fun x hx => h x (List.mem_cons_of_mem _ hx))
    have g := h l (List.mem_cons_self ..)
    show 0 ≤ (if l.1 = k ∧ valL fc l.2.2 ≠ 0 then l.2.1 else 0) + totL k fc r ∧ (if l.1 = k ∧ valL fc l.2.2 ≠ 0 then l.2.1 else 0) + totL k fc r ≤ 40 * ((r.length + 1 : Nat) : Int)
    split <;> omega
theorem EvD_L : EvD evL goodL := fun L fc _ => by
  unfold evL
  rw [if_neg (by decide)]
  exact (totL_rg _ lawL_ok.1).1
theorem evL_rg {L : LawD} {w : Int} {fc : Int → Int} : -480 ≤ evL L w fc ∧ evL L w fc ≤ 480 := by
  have o := lawL_ok (L := L)
  have a := totL_rg (k := 0) (fc := fc) _ o.1
  have b := totL_rg (k := 1) (fc := fc) _ o.1
  have c := totL_rg (k := 2) (fc := fc) _ o.1
  unfold evL totM totD
  split <;> omega
section asks
variable {tb : Tab} {d : Nat} {m : AM} {K : Out → AM → Prop} {S T : Nat → Int → Int}
theorem q_205m {f w : Int} (hm : T 301 = S 301) (hA : AB (S 301)) (hf : 0 ≤ f ∧ f < 6) (hw : 0 ≤ w ∧ w < 3) (hK : K (.inl (some (vi (fR S f w)))) (X T m)) : Runs tb pg (d + 1) 205 [vr 300, vi f, vi w] (X T m) K := q_205 (AB_B (by rw [hm]; exact hA)) hf hw (fun _ _ => by rw [show fR T = fR S by unfold fR; rw [hm]]; exact hK)
theorem q_206m {p w : Int} (hm : T 301 = S 301) (hA : AB (S 301)) (hp : 0 ≤ p ∧ p < 6) (hw : 0 ≤ w ∧ w < 20) (hK : K (.inl (some (vi (oR S p w)))) (X T m)) : Runs tb pg (d + 1) 206 [vr 300, vi p, vi w] (X T m) K := q_206 (AB_B (by rw [hm]; exact hA)) hp hw (fun _ _ => by rw [show oR T = oR S by unfold oR; rw [hm]]; exact hK)
theorem q_215m {p : Int} (hm : T 301 = S 301) (hA : AB (S 301)) (hp : R32 p) (hK : K (.inl (some (vi (owedByM (dR S) (S 301 5) p)))) (X T m)) : Runs tb pg (d + 2) 215 [vr 300, vi p] (X T m) K := q_215 (AB_B (by rw [hm]; exact hA)) hp (fun r e => by rw [e, show dR T = dR S by unfold dR; rw [hm], hm]; exact hK)
theorem q_211m {p : Int} (hm : T 301 = S 301) (hA : AB (S 301)) (hp : 0 ≤ p ∧ p < 6) (hK : ∀ r, r = (if oR S p 1 = -1 then 0 else 1) → K (.inl (some (vi r))) (X T m)) : Runs tb pg (d + 2) 211 [vr 300, vi p] (X T m) K := q_211 (AB_B (by rw [hm]; exact hA)) hp (fun r e => by rw [show oR T = oR S by unfold oR; rw [hm]] at e; exact hK r e)
theorem q_214m {p : Int} (hm : T 301 = S 301) (hA : AB (S 301)) (hp : 0 ≤ p ∧ p < 6) (hK : ∀ r, yn r (wholeM (oR S) p (oR S p 0)) → K (.inl (some (vi r))) (X T m)) : Runs tb pg (d + 3) 214 [vr 300, vi p] (X T m) K := q_214 (AB_B (by rw [hm]; exact hA)) hp (fun r e => by rw [show oR T = oR S by unfold oR; rw [hm]] at e; exact hK r e)
theorem q_236t {t : Int → Int} {n : Int} (hX : tb.2.1 = strB) (hT : TX t n T) (h11 : T 300 11 = 0) (h12 : T 300 12 = -1) (h13 : T 300 13 = 0) {L : List LL} {e : Int} (hP : rdP (lawP t n) t n 12 [] 0 = .inr (L, e)) (hK : ∀ r, K (.inl (some (vi r))) (X (tS (mdS T (totM (fcS T) L) (totD (fcS T) L)) e (-1)) m)) : Runs tb pg (d + 31) 236 [vr 300, vi 1] (X T m) K := by
  have e1 := tS_id (S := T)
  rw [h11, h12] at e1
  rw [← e1]
  have hn := hT.2.1
  refine q_236l (S := T) hX hT ⟨by omega, by omega⟩ h13 (fun x y e b k z => ?_) (fun L2 e2 z => ?_)
  · rw [hP] at z; cases z
  · rw [hP] at z
    have w := Sum.inr.inj z
    have w1 : L = L2 := congrArg Prod.fst w
    have w2 : e = e2 := congrArg Prod.snd w
    subst w1 w2
    exact hK _
end asks
section fc
variable {S Z : Nat → Int → Int} {r : Int → Int} {p f i v j : Int}
theorem up3x : upS S 300 i v 301 = S 301 := rfl
theorem up36 : upS S 306 i v 301 = S 301 := rfl
theorem up06 : upS S 300 i v 306 = S 306 := rfl
theorem up60 : upS S 306 i v 300 = S 300 := rfl
theorem up66 : upS S 306 i v 306 j = if j = i then v else S 306 j := rfl
theorem up0j : upS S 300 i v 300 j = if j = i then v else S 300 j := rfl
theorem fc_of (h0 : Z 306 0 = p) (h1 : Z 306 1 = f) (h2 : Z 306 2 = fr r f 0) (h3 : Z 306 3 = fr r f 1) (h4 : Z 306 4 = pr r p 0) (h5 : Z 306 5 = owedByM (dr r) (r 5) p) (h6 : Z 306 6 = r 10 % 100) (h7 : Z 300 15 = if pr r p 1 = -1 then 0 else 1) (h8 : yn (Z 300 16) (wholeM (pr r) p (pr r p 0))) (h9 : Z 300 17 = if 0 < owedByM (dr r) (r 5) p then 1 else 0)
    (g0 : -100000 ≤ p ∧ p ≤ 100000) (g1 : -100000 ≤ f ∧ f ≤ 100000) (g2 : -100000 ≤ fr r f 0 ∧ fr r f 0 ≤ 100000) (g3 : -100000 ≤ fr r f 1 ∧ fr r f 1 ≤ 100000) (g4 : -100000 ≤ pr r p 0 ∧ pr r p 0 ≤ 100000) (g5 : -100000 ≤ owedByM (dr r) (r 5) p ∧ owedByM (dr r) (r 5) p ≤ 100000) : fcS Z = fcR r p f := by
  funext j
  unfold fcS fcR
  by_cases z : j < 0 ∨ 9 < j
  · rw [if_pos z, if_neg (by omega), if_neg (by omega), if_neg (by omega), if_neg (by omega), if_neg (by omega), if_neg (by omega), if_neg (by omega), if_neg (by omega), if_neg (by omega), if_neg (by omega)]
  · rw [if_neg z]
    have hj : j = 0 ∨ j = 1 ∨ j = 2 ∨ j = 3 ∨ j = 4 ∨ j = 5 ∨ j = 6 ∨ j = 7 ∨ j = 8 ∨ j = 9 := by omega
    rcases hj with z | z | z | z | z | z | z | z | z | z <;> subst z
    · show c1F (Z 306 0) = p; rw [h0, c1F_id g0]
    · show c1F (Z 306 1) = f; rw [h1, c1F_id g1]
    · show c1F (Z 306 2) = fr r f 0; rw [h2, c1F_id g2]
    · show c1F (Z 306 3) = fr r f 1; rw [h3, c1F_id g3]
    · show c1F (Z 306 4) = pr r p 0; rw [h4, c1F_id g4]
    · show c1F (Z 306 5) = owedByM (dr r) (r 5) p; rw [h5, c1F_id g5]
    · show c1F (Z 306 6) = r 10 % 100; rw [h6, c1F_id (by omega)]
    · show b1F (Z 300 15) = if pr r p 1 = -1 then 0 else 1
      rw [h7]; split <;> rfl
    · show b1F (Z 300 16) = @ite _ (wholeM (pr r) p (pr r p 0)) (Classical.propDecidable _) 1 0
      rcases h8 with ⟨y1, y2⟩ | ⟨y1, y2⟩
      · rw [y1, if_pos y2]; rfl
      · rw [y1, if_neg y2]; rfl
    · show b1F (Z 300 17) = if 0 < owedByM (dr r) (r 5) p then 1 else 0
      rw [h9]; split <;> rfl
theorem law_rd {r : Int → Int} (hA : AB r) (hG : goodL (lawD r)) : ∃ (t : Int → Int) (n e : Int), ((r 1 < 1 → n = 0) ∧ (¬ r 1 < 1 → n = r 2)) ∧ (0 ≤ n ∧ n ≤ 400) ∧ (∀ k, 0 ≤ k → k < n → -1 ≤ t k ∧ t k ≤ 10000) ∧ (∀ k, 0 ≤ k → k < n → t k = r (415 + k)) ∧ rdP (lawP t n) t n 12 [] 0 = .inr (lawL (lawD r), e) := by
  by_cases z : r 1 < 1
  · refine ⟨fun _ => 0, 0, 0, ⟨fun _ => rfl, fun y => absurd z y⟩, by decide, fun k k0 k1 => by omega, fun k k0 k1 => by omega, ?_⟩
    have e1 : skp (fun _ => (0 : Int)) 0 0 = 0 := scn_n (fun y => by omega)
    unfold rdP
    rw [e1, if_neg (by decide)]
    unfold lawL
    rw [if_pos (show (lawD r).1 < 1 from z)]
  · rcases hG with y | ⟨y1, l, e, y2⟩
    · exact absurd y z
    · refine ⟨nrm (lawD r).2.2 (r 2), r 2, e, ⟨fun y => absurd y z, fun _ => rfl⟩, y1, fun k k0 k1 => ?_, fun k k0 k1 => ?_, ?_⟩
      · rw [nrm_y k0 k1]
        show -1 ≤ (if 0 ≤ k then r (415 + k) else 0) ∧ (if 0 ≤ k then r (415 + k) else 0) ≤ 10000
        rw [if_pos k0]
        exact hA.1 _ (by omega)
      · rw [nrm_y k0 k1]
        show (if 0 ≤ k then r (415 + k) else 0) = _
        rw [if_pos k0]
      · show parL (lawD r).2.2 (lawD r).2.1 = _
        rw [y2]
        unfold lawL
        rw [if_neg (show ¬ (lawD r).1 < 1 from z), y2]
end fc
theorem md18 {Z : Nat → Int → Int} {x y e f v : Int} (h : Z 300 18 = v) : tS (mdS Z x y) e f 300 18 = v + x := by rw [← h]; rfl
theorem md19 {Z : Nat → Int → Int} {x y e f v : Int} (h : Z 300 19 = v) : tS (mdS Z x y) e f 300 19 = v + y := by rw [← h]; rfl
def SB (S T : Nat → Int → Int) : Prop := (∀ a, a ≠ 300 → a ≠ 306 → T a = S a) ∧ (∀ j, j < 9 ∨ 19 < j → T 300 j = S 300 j)
theorem SB_refl {S : Nat → Int → Int} : SB S S := ⟨fun _ _ _ => rfl, fun _ _ => rfl⟩
theorem SB_3 {S T : Nat → Int → Int} {i v : Int} (h : SB S T) (hi : 9 ≤ i ∧ i ≤ 19) : SB S (upS T 300 i v) := by
  refine ⟨fun a h1 h2 => ?_, fun j hj => ?_⟩
  · rw [← h.1 a h1 h2]; exact if_neg h1
  · rw [← h.2 j hj, upS_at, if_neg (fun z => by omega)]
theorem SB_6 {S T : Nat → Int → Int} {i v : Int} (h : SB S T) : SB S (upS T 306 i v) := by
  refine ⟨fun a h1 h2 => ?_, fun j hj => ?_⟩
  · rw [← h.1 a h1 h2]; exact if_neg h2
  · rw [← h.2 j hj]; rfl
theorem SB_a {S T : Nat → Int → Int} {x y e : Int} (h : SB S T) : SA S (tS (mdS T x y) e (S 300 12)) := by
  refine ⟨fun a h1 h2 => ?_, fun j hj => ?_⟩
  · rw [← h.1 a h1 h2]
    funext j
    rw [tS_at, if_neg h1, mdS_at, if_neg (fun z => h1 z.1), if_neg (fun z => h1 z.1)]
  · rw [tS_at, if_pos rfl]
    by_cases z : j = 12
    · rw [if_neg (by omega), if_pos z, z]
    · rw [if_neg (by omega), if_neg z, mdS_at, if_neg (fun w => by omega), if_neg (fun w => by omega)]
      exact h.2 j (by omega)
/-- the law's text laid into the row, i bytes of it -/
def lwR (r : Int → Int) (k n : Int) (t : Int → Int) (i : Int) : Int → Int := fun j => if j = 1 then k else if j = 2 then n else if 415 ≤ j ∧ j < 415 + i then t (j - 415) else r j
theorem lwR_s {r t : Int → Int} {k n i v : Int} (h : 0 ≤ i) (hv : v = t i) : putR (lwR r k n t i) (415 + i) v = lwR r k n t (i + 1) := by
  funext j
  unfold putR lwR
  by_cases z : j = 415 + i
  · rw [if_pos z, if_neg (by omega), if_neg (by omega), if_pos (by omega), hv, z, show 415 + i - 415 = i by omega]
  · rw [if_neg z]
    by_cases a : j = 1
    · rw [if_pos a, if_pos a]
    · rw [if_neg a, if_neg a]
      by_cases b : j = 2
      · rw [if_pos b, if_pos b]
      · rw [if_neg b, if_neg b]
        by_cases c : 415 ≤ j ∧ j < 415 + i
        · rw [if_pos c, if_pos (by omega)]
        · rw [if_neg c, if_neg (by omega)]
theorem lwR_0 {r t : Int → Int} {k n : Int} : putR (putR r 1 k) 2 n = lwR r k n t 0 := by
  funext j
  unfold putR lwR
  by_cases a : j = 1
  · rw [if_neg (by omega), if_pos a, if_pos a]
  · rw [if_neg a]
    by_cases b : j = 2
    · rw [if_pos b, if_neg a, if_pos b]
    · rw [if_neg b, if_neg a, if_neg b, if_neg (by omega)]
theorem lwE {S : Nat → Int → Int} {x y e b v : Int} : SR (upS (upS (upS S 300 0 v) 300 8 0) 300 12 b) (tS (upS (mdS (bgS S) x y) 300 0 v) e b) := by
  refine ⟨fun a h1 h3 => ?_, fun j hj => ?_⟩
  · funext j
    simp only [tS_at, if_neg h1, upS_at, mdS_at, bgS]
    simp [h1]
  · rcases hj with z | z | z | z | z <;> subst z <;> rfl
theorem lwO {S : Nat → Int → Int} {x y e : Int} {q : Int → Int} : SR (sR (upS (upS (upS (upS S 300 0 0) 300 8 0) 300 12 (-1)) 300 6 0) q) (tS (upS (sR (upS (mdS (bgS S) x y) 300 0 0) q) 300 6 0) e (-1)) := by
  refine ⟨fun a h1 h3 => ?_, fun j hj => ?_⟩
  · funext j
    simp only [tS_at, if_neg h1, upS_at, sR]
    by_cases z : a = 301
    · simp [z]
    · simp [h1, z, upS_at, mdS_at, bgS]
  · rcases hj with z | z | z | z | z <;> subst z <;> rfl
section Ref44
variable {tb : Tab} {d : Nat} {m : AM} {K : Out → AM → Prop} {S : Nat → Int → Int}
theorem k249_0 : pg.1 249 0 = [.aload 0, .aload 0, .iload 2, .bipush 0, .invokeinterface 205 3, .bipush 2, .idiv, .putfield 1018, .aload 0, .bipush 4, .putfield 1019, .aload 0, .getfield 1014, .bipush 0, .iload 1, .iastore, .aload 0, .getfield 1014, .bipush 1, .iload 2, .iastore, .aload 0, .getfield 1014, .bipush 2, .aload 0, .iload 2, .bipush 0, .invokeinterface 205 3, .iastore, .aload 0, .getfield 1014, .bipush 3, .aload 0, .iload 2, .bipush 1, .invokeinterface 205 3, .iastore, .aload 0, .getfield 1014, .bipush 4, .aload 0, .iload 1, .bipush 0, .invokeinterface 206 3, .iastore, .aload 0, .getfield 1014, .bipush 5, .aload 0, .iload 1, .invokeinterface 215 2, .iastore, .aload 0, .getfield 1014, .bipush 6, .aload 0, .getfield 1001, .bipush 10, .iaload, .bipush 100, .irem, .iastore, .aload 0, .aload 0, .iload 1, .invokeinterface 211 2, .dstore 1015, .aload 0, .aload 0, .iload 1, .invokeinterface 214 2, .dstore 1016, .aload 0, .aload 0, .getfield 1014, .bipush 5, .iaload, .ifCond .le 127, .bipush 1, .goto 128] := rfl
theorem a249_0 {tb : Tab} {d : Nat} {K : Out → AM → Prop} {ls st : List AV} {m : AM} : At tb d 249 K 0 ls st m = wpB tb (pg.2.1 249) (Runs tb pg d) K (At tb d 249 K) [.aload 0, .aload 0, .iload 2, .bipush 0, .invokeinterface 205 3, .bipush 2, .idiv, .putfield 1018, .aload 0, .bipush 4, .putfield 1019, .aload 0, .getfield 1014, .bipush 0, .iload 1, .iastore, .aload 0, .getfield 1014, .bipush 1, .iload 2, .iastore, .aload 0, .getfield 1014, .bipush 2, .aload 0, .iload 2, .bipush 0, .invokeinterface 205 3, .iastore, .aload 0, .getfield 1014, .bipush 3, .aload 0, .iload 2, .bipush 1, .invokeinterface 205 3, .iastore, .aload 0, .getfield 1014, .bipush 4, .aload 0, .iload 1, .bipush 0, .invokeinterface 206 3, .iastore, .aload 0, .getfield 1014, .bipush 5, .aload 0, .iload 1, .invokeinterface 215 2, .iastore, .aload 0, .getfield 1014, .bipush 6, .aload 0, .getfield 1001, .bipush 10, .iaload, .bipush 100, .irem, .iastore, .aload 0, .aload 0, .iload 1, .invokeinterface 211 2, .dstore 1015, .aload 0, .aload 0, .iload 1, .invokeinterface 214 2, .dstore 1016, .aload 0, .aload 0, .getfield 1014, .bipush 5, .iaload, .ifCond .le 127, .bipush 1, .goto 128] ls st m := At.eq k249_0
theorem k249_127 : pg.1 249 127 = [.bipush 0, .jsr 128] := rfl
theorem a249_127 {tb : Tab} {d : Nat} {K : Out → AM → Prop} {ls st : List AV} {m : AM} : At tb d 249 K 127 ls st m = wpB tb (pg.2.1 249) (Runs tb pg d) K (At tb d 249 K) [.bipush 0, .jsr 128] ls st m := At.eq k249_127
theorem k249_128 : pg.1 249 128 = [.dstore 1017, .aload 0, .getfield 1012, .istore 3, .aload 0, .bipush (-1), .putfield 1012, .aload 0, .bipush 415, .putfield 1009, .aload 0, .aload 0, .getfield 1001, .bipush 1, .iaload, .bipush 1, .if_icmp .ge 163, .bipush 0, .goto 169] := rfl
theorem a249_128 {tb : Tab} {d : Nat} {K : Out → AM → Prop} {ls st : List AV} {m : AM} : At tb d 249 K 128 ls st m = wpB tb (pg.2.1 249) (Runs tb pg d) K (At tb d 249 K) [.dstore 1017, .aload 0, .getfield 1012, .istore 3, .aload 0, .bipush (-1), .putfield 1012, .aload 0, .bipush 415, .putfield 1009, .aload 0, .aload 0, .getfield 1001, .bipush 1, .iaload, .bipush 1, .if_icmp .ge 163, .bipush 0, .goto 169] ls st m := At.eq k249_128
theorem k249_163 : pg.1 249 163 = [.aload 0, .getfield 1001, .bipush 2, .iaload, .jsr 169] := rfl
theorem a249_163 {tb : Tab} {d : Nat} {K : Out → AM → Prop} {ls st : List AV} {m : AM} : At tb d 249 K 163 ls st m = wpB tb (pg.2.1 249) (Runs tb pg d) K (At tb d 249 K) [.aload 0, .getfield 1001, .bipush 2, .iaload, .jsr 169] ls st m := At.eq k249_163
theorem k249_169 : pg.1 249 169 = [.putfield 1010, .aload 0, .bipush 0, .putfield 1011, .aload 0, .bipush 0, .putfield 1013, .aload 0, .bipush 1, .invokeinterface 236 2, .istore 4, .aload 0, .iload 3, .putfield 1012, .return_] := rfl
theorem a249_169 {tb : Tab} {d : Nat} {K : Out → AM → Prop} {ls st : List AV} {m : AM} : At tb d 249 K 169 ls st m = wpB tb (pg.2.1 249) (Runs tb pg d) K (At tb d 249 K) [.putfield 1010, .aload 0, .bipush 0, .putfield 1011, .aload 0, .bipush 0, .putfield 1013, .aload 0, .bipush 1, .invokeinterface 236 2, .istore 4, .aload 0, .iload 3, .putfield 1012, .return_] ls st m := At.eq k249_169
theorem q_249 {p f : Int} (hX : tb.2.1 = strB) (hA : AB (S 301)) (hG : goodL (lawD (S 301))) (hp : 0 ≤ p ∧ p < 6) (hf : 0 ≤ f ∧ f < 6) (hK : ∀ T, SA S T → T 300 18 = fr (S 301) f 0 / 2 + evL (lawD (S 301)) 0 (fcR (S 301) p f) → T 300 19 = 4 + evL (lawD (S 301)) 1 (fcR (S 301) p f) → K (.inl none) (X T m)) : Runs tb pg (d + 32) 249 [vr 300, vi p, vi f] (X S m) K := by
  refine Runs.of (al := [vr 300, vi p, vi f]) (n := 2) ⟨300, _, _, rfl, xo_300⟩ rfl rfl trivial ?_
  have b1 := hA.2.1
  have hd := b1.2.2.2.2.2.2.2.2
  have h5 := b1.2.2.1
  have h1r := b1.2.2.2.2.1
  have hs0 : 0 ≤ fR S f 0 ∧ fR S f 0 ≤ 9 := (hA.2.2.2.1 f hf.1 hf.2).1
  have hs1 : 0 ≤ fR S f 1 ∧ fR S f 1 ≤ 99 := (hA.2.2.2.1 f hf.1 hf.2).2.1
  have hz : 0 ≤ oR S p 0 ∧ oR S p 0 ≤ 6 := (hA.2.2.1 p hp.1 hp.2).1
  have hR : R32 p := by unfold R32; omega
  have ho : -8 ≤ owedByM (dR S) (S 301 5) p ∧ owedByM (dR S) (S 301 5) p ≤ 80000 := by
    have := sumZ_le (n := S 301 5) (a := -1) (b := 10000) (f := fun k => if dR S k 0 = p then dR S k 2 else 0) h5.1 (fun k k0 k1 => by
      have := hA.1 (151 + 3 * k + 2) (by omega)
      show -1 ≤ (if dR S k 0 = p then S 301 (151 + 3 * k + 2) else 0) ∧ (if dR S k 0 = p then S 301 (151 + 3 * k + 2) else 0) ≤ 10000
      split <;> omega)
    unfold owedByM
    omega
  have hc5 : c1F (owedByM (dR S) (S 301 5) p) = owedByM (dR S) (S 301 5) p := c1F_id (by omega)
  obtain ⟨t, n, e, hn1, hn2, htr, ht, hP⟩ := law_rd hA hG
  repeat' (first | omega | (refine hK _ ?_ ?_ ?_) | simp only [w_aload, w_iload, w_iconst, w_call, w_idiv, x_p1018_300, x_p1019_300, x_g1014_300, x_iast, x_g1001_300, x_iald, w_ialoads, w_ialoadw, w_irem, x_p1015_300, x_p1016_300, w_if, cI, Int.reduceToNat, w_goto, w_fall, x_p1017_300, x_g1012_300, w_istore, x_p1012_300, x_p1009_300, w_ifc, x_p1010_300, x_p1011_300, x_p1013_300, w_return, isA_301, isA_302, isA_303, isA_304, isA_305, isA_307, isA_308, isA_309, isA_310, isA_311, isA_312, isA_313, isA_314, isA_315, len_301, len_302, len_303, len_304, len_305, len_307, len_308, len_309, len_310, len_311, len_312, len_313, len_314, len_315, Int.cast_ofNat_Int, a249_0, a249_127, a249_128, a249_163, a249_169, R32, List.getElem?_cons_zero, List.getElem?_cons_succ, List.set_cons_zero, List.set_cons_succ, List.cons_append, List.nil_append, List.replicate_succ, List.replicate_zero, List.take_succ_cons, List.take_zero, List.drop_succ_cons, List.drop_zero, List.reverse_cons, List.reverse_nil, List.length_cons, List.length_nil, Option.toList, true_and, and_true, eq_self, ↓reduceIte, not_true_eq_false, not_false_eq_true, true_or, or_true, tS_11, tS_12, tS_u12, tS_301, tS_305, up3x, up36, up06, up60, up66, up0j, x_ald6, Int.reduceEq, if_true, if_false, ↓reduceIte] | (rw [hc5]) | with_reducible refine (x_ast6 ?_).mpr ⟨?_, ?_⟩ | with_reducible refine q_205m (S := S) ?_ hA ?_ ?_ ?_ | with_reducible refine q_206m (S := S) ?_ hA ?_ ?_ ?_ | with_reducible refine q_215m (S := S) ?_ hA hR ?_ | with_reducible refine q_211m (S := S) ?_ hA hp (fun r1 x1 => ?_) | with_reducible refine q_214m (S := S) ?_ hA hp (fun r2 x2 => ?_) | with_reducible refine q_236t hX ?_ ?_ ?_ ?_ hP (fun r3 => ?_) | with_reducible refine And.intro ?_ ?_ | with_reducible intro _)
  all_goals (try (first | omega | (exfalso; assumption) | rfl | (exact ⟨(by omega : (0 : Int) = n), hn2, htr, Or.inr ⟨rfl, ht⟩⟩) | (exact ⟨(by omega : S 301 2 = n), hn2, htr, Or.inr ⟨rfl, ht⟩⟩) | (subst x1; split <;> omega) | (rcases x2 with y | y <;> omega) | (refine SB_a ?_; repeat' (first | exact SB_refl | refine SB_6 ?_ | refine SB_3 ?_ ?_ | decide)) | (refine (md18 (v := fR S f 0 / 2) rfl).trans (Eq.trans (congrArg (fun c => fR S f 0 / 2 + totM c (lawL (lawD (S 301)))) (fc_of (p := p) (f := f) (r := S 301) ?_ ?_ ?_ ?_ ?_ ?_ ?_ ?_ ?_ ?_ ?_ ?_ ?_ ?_ ?_ ?_)) rfl) <;> (first | rfl | exact x1 | exact x2 | omega | (show -100000 ≤ fR S f 0 ∧ fR S f 0 ≤ 100000; omega) | (show -100000 ≤ fR S f 1 ∧ fR S f 1 ≤ 100000; omega) | (show -100000 ≤ oR S p 0 ∧ oR S p 0 ≤ 100000; omega) | (show -100000 ≤ owedByM (dR S) (S 301 5) p ∧ owedByM (dR S) (S 301 5) p ≤ 100000; omega) | (show (1 : Int) = if 0 < owedByM (dR S) (S 301 5) p then 1 else 0; rw [if_pos (by omega)]) | (show (0 : Int) = if 0 < owedByM (dR S) (S 301 5) p then 1 else 0; rw [if_neg (by omega)]))) | (refine (md19 (v := 4) rfl).trans (Eq.trans (congrArg (fun c => 4 + totD c (lawL (lawD (S 301)))) (fc_of (p := p) (f := f) (r := S 301) ?_ ?_ ?_ ?_ ?_ ?_ ?_ ?_ ?_ ?_ ?_ ?_ ?_ ?_ ?_ ?_)) rfl) <;> (first | rfl | exact x1 | exact x2 | omega | (show -100000 ≤ fR S f 0 ∧ fR S f 0 ≤ 100000; omega) | (show -100000 ≤ fR S f 1 ∧ fR S f 1 ≤ 100000; omega) | (show -100000 ≤ oR S p 0 ∧ oR S p 0 ≤ 100000; omega) | (show -100000 ≤ owedByM (dR S) (S 301 5) p ∧ owedByM (dR S) (S 301 5) p ≤ 100000; omega) | (show (1 : Int) = if 0 < owedByM (dR S) (S 301 5) p then 1 else 0; rw [if_pos (by omega)]) | (show (0 : Int) = if 0 < owedByM (dR S) (S 301 5) p then 1 else 0; rw [if_neg (by omega)])))))
theorem k250_0 : pg.1 250 0 = [.aload 0, .iload 1, .iload 2, .invokeinterface 249 3, .bipush 0, .aload 0, .getfield 1018, .invokeinterface 202 2, .ireturn] := rfl
theorem a250_0 {tb : Tab} {d : Nat} {K : Out → AM → Prop} {ls st : List AV} {m : AM} : At tb d 250 K 0 ls st m = wpB tb (pg.2.1 250) (Runs tb pg d) K (At tb d 250 K) [.aload 0, .iload 1, .iload 2, .invokeinterface 249 3, .bipush 0, .aload 0, .getfield 1018, .invokeinterface 202 2, .ireturn] ls st m := At.eq k250_0
theorem q_250 {p f : Int} (hX : tb.2.1 = strB) (hA : AB (S 301)) (hG : goodL (lawD (S 301))) (hp : 0 ≤ p ∧ p < 6) (hf : 0 ≤ f ∧ f < 6) (hK : ∀ T r, r = mltR evL (S 301) p f → 0 ≤ r → r ≤ 1000 → SA S T → K (.inl (some (vi r))) (X T m)) : Runs tb pg (d + 60) 250 [vr 300, vi p, vi f] (X S m) K := by
  refine Runs.of (al := [vr 300, vi p, vi f]) (n := 0) ⟨300, _, _, rfl, xo_300⟩ rfl rfl trivial ?_
  have hs := (hA.2.2.2.1 f hf.1 hf.2).1
  have hv := evL_rg (L := lawD (S 301)) (w := 0) (fc := fcR (S 301) p f)
  repeat' (first | omega | (refine hK _ _ ?_ ?_ ?_ x1) | simp only [w_aload, w_iload, w_call, w_iconst, x_g1018_300, w_ireturn, a250_0, R32, List.getElem?_cons_zero, List.getElem?_cons_succ, List.set_cons_zero, List.set_cons_succ, List.cons_append, List.nil_append, List.replicate_succ, List.replicate_zero, List.take_succ_cons, List.take_zero, List.drop_succ_cons, List.drop_zero, List.reverse_cons, List.reverse_nil, List.length_cons, List.length_nil, Option.toList, true_and, and_true, eq_self, ↓reduceIte, not_true_eq_false, not_false_eq_true, true_or, or_true, tS_11, tS_12, tS_u12, tS_301, tS_305, up3x, up36, up06, up60, up66, up0j, x_ald6, Int.reduceEq, if_true, if_false, ↓reduceIte] | (refine q_249 (S := S) hX hA hG hp hf (fun T x1 x2 x3 => ?_)) | with_reducible refine q_202 ?_ ?_ (fun r7 x7 => ?_) | with_reducible refine And.intro ?_ ?_ | with_reducible intro _)
  all_goals (try (first | omega | (exfalso; assumption) | (rw [x2]; unfold R32; omega) | (unfold R32; omega) | (rw [x7, x2]; rfl) | (rw [x7, x2]; split <;> omega) | (rw [x2]; omega)))
theorem k251_0 : pg.1 251 0 = [.aload 0, .iload 1, .iload 2, .invokeinterface 249 3, .bipush 9, .aload 0, .getfield 1019, .invokeinterface 201 2, .ireturn] := rfl
theorem a251_0 {tb : Tab} {d : Nat} {K : Out → AM → Prop} {ls st : List AV} {m : AM} : At tb d 251 K 0 ls st m = wpB tb (pg.2.1 251) (Runs tb pg d) K (At tb d 251 K) [.aload 0, .iload 1, .iload 2, .invokeinterface 249 3, .bipush 9, .aload 0, .getfield 1019, .invokeinterface 201 2, .ireturn] ls st m := At.eq k251_0
theorem q_251 {p f : Int} (hX : tb.2.1 = strB) (hA : AB (S 301)) (hG : goodL (lawD (S 301))) (hp : 0 ≤ p ∧ p < 6) (hf : 0 ≤ f ∧ f < 6) (hK : ∀ T r, r = dptR evL (S 301) p f → 0 ≤ r → r ≤ 9 → SA S T → K (.inl (some (vi r))) (X T m)) : Runs tb pg (d + 60) 251 [vr 300, vi p, vi f] (X S m) K := by
  refine Runs.of (al := [vr 300, vi p, vi f]) (n := 0) ⟨300, _, _, rfl, xo_300⟩ rfl rfl trivial ?_
  have hv := evL_rg (L := lawD (S 301)) (w := 1) (fc := fcR (S 301) p f)
  have hv2 := EvD_L (lawD (S 301)) (fcR (S 301) p f) hG
  repeat' (first | omega | (refine hK _ _ ?_ ?_ ?_ x1) | simp only [w_aload, w_iload, w_call, w_iconst, x_g1019_300, w_ireturn, a251_0, R32, List.getElem?_cons_zero, List.getElem?_cons_succ, List.set_cons_zero, List.set_cons_succ, List.cons_append, List.nil_append, List.replicate_succ, List.replicate_zero, List.take_succ_cons, List.take_zero, List.drop_succ_cons, List.drop_zero, List.reverse_cons, List.reverse_nil, List.length_cons, List.length_nil, Option.toList, true_and, and_true, eq_self, ↓reduceIte, not_true_eq_false, not_false_eq_true, true_or, or_true, tS_11, tS_12, tS_u12, tS_301, tS_305, up3x, up36, up06, up60, up66, up0j, x_ald6, Int.reduceEq, if_true, if_false, ↓reduceIte] | (refine q_249 (S := S) hX hA hG hp hf (fun T x1 x2 x3 => ?_)) | with_reducible refine q_201 ?_ ?_ (fun r7 x7 => ?_) | with_reducible refine And.intro ?_ ?_ | with_reducible intro _)
  all_goals (try (first | omega | (exfalso; assumption) | (rw [x3]; unfold R32; omega) | (unfold R32; omega) | (rw [x7, x3]; rfl) | (rw [x7, x3]; split <;> omega) | (rw [x3]; omega)))
theorem askM_L (hX : tb.2.1 = strB) : AskM tb evL goodL := fun d m K S p f hA hG hp hf hK => q_250 hX hA hG hp hf hK
theorem askD_L (hX : tb.2.1 = strB) : AskD tb evL goodL := fun d m K S p f hA hG hp hf hK => q_251 hX hA hG hp hf hK
theorem k247_0 : pg.1 247 0 = [.aload 0, .invokeinterface 235 1, .aload 0, .bipush 1, .invokeinterface 236 2, .istore 1, .aload 0, .aload 0, .getfield 1012, .bipush (-1), .if_icmp .eq 23, .bipush 1, .goto 24] := rfl
theorem a247_0 {tb : Tab} {d : Nat} {K : Out → AM → Prop} {ls st : List AV} {m : AM} : At tb d 247 K 0 ls st m = wpB tb (pg.2.1 247) (Runs tb pg d) K (At tb d 247 K) [.aload 0, .invokeinterface 235 1, .aload 0, .bipush 1, .invokeinterface 236 2, .istore 1, .aload 0, .aload 0, .getfield 1012, .bipush (-1), .if_icmp .eq 23, .bipush 1, .goto 24] ls st m := At.eq k247_0
theorem k247_23 : pg.1 247 23 = [.bipush 0, .jsr 24] := rfl
theorem a247_23 {tb : Tab} {d : Nat} {K : Out → AM → Prop} {ls st : List AV} {m : AM} : At tb d 247 K 23 ls st m = wpB tb (pg.2.1 247) (Runs tb pg d) K (At tb d 247 K) [.bipush 0, .jsr 24] ls st m := At.eq k247_23
theorem k247_24 : pg.1 247 24 = [.putfield 1000, .aload 0, .getfield 1000, .ifCond .le 36, .bipush 0, .ireturn] := rfl
theorem a247_24 {tb : Tab} {d : Nat} {K : Out → AM → Prop} {ls st : List AV} {m : AM} : At tb d 247 K 24 ls st m = wpB tb (pg.2.1 247) (Runs tb pg d) K (At tb d 247 K) [.putfield 1000, .aload 0, .getfield 1000, .ifCond .le 36, .bipush 0, .ireturn] ls st m := At.eq k247_24
theorem k247_36 : pg.1 247 36 = [.aload 0, .getfield 1001, .bipush 1, .iload 1, .iastore, .aload 0, .getfield 1001, .bipush 2, .aload 0, .getfield 1010, .iastore, .bipush 0, .istore 2, .jsr 55] := rfl
theorem a247_36 {tb : Tab} {d : Nat} {K : Out → AM → Prop} {ls st : List AV} {m : AM} : At tb d 247 K 36 ls st m = wpB tb (pg.2.1 247) (Runs tb pg d) K (At tb d 247 K) [.aload 0, .getfield 1001, .bipush 1, .iload 1, .iastore, .aload 0, .getfield 1001, .bipush 2, .aload 0, .getfield 1010, .iastore, .bipush 0, .istore 2, .jsr 55] ls st m := At.eq k247_36
theorem k247_55 : pg.1 247 55 = [.iload 2, .aload 0, .getfield 1010, .if_icmp .ge 85, .aload 0, .getfield 1001, .bipush 415, .iload 2, .iadd, .aload 0, .getfield 1007, .iload 2, .iaload, .iastore, .iinc 2 1, .goto 55] := rfl
theorem a247_55 {tb : Tab} {d : Nat} {K : Out → AM → Prop} {ls st : List AV} {m : AM} : At tb d 247 K 55 ls st m = wpB tb (pg.2.1 247) (Runs tb pg d) K (At tb d 247 K) [.iload 2, .aload 0, .getfield 1010, .if_icmp .ge 85, .aload 0, .getfield 1001, .bipush 415, .iload 2, .iadd, .aload 0, .getfield 1007, .iload 2, .iaload, .iastore, .iinc 2 1, .goto 55] ls st m := At.eq k247_55
theorem k247_85 : pg.1 247 85 = [.aload 0, .bipush 0, .putfield 1006, .iload 1, .ireturn] := rfl
theorem a247_85 {tb : Tab} {d : Nat} {K : Out → AM → Prop} {ls st : List AV} {m : AM} : At tb d 247 K 85 ls st m = wpB tb (pg.2.1 247) (Runs tb pg d) K (At tb d 247 K) [.aload 0, .bipush 0, .putfield 1006, .iload 1, .ireturn] ls st m := At.eq k247_85
theorem q_247 (hX : tb.2.1 = strB) (h8 : 0 ≤ S 300 8 ∧ S 300 8 ≤ 400) (hB : TB S) (hK1 : ∀ b T, parL (S 305) (S 300 8) = .inl b → 0 ≤ b → b ≤ 1000 → SR (upS (upS (upS S 300 0 1) 300 8 0) 300 12 b) T → K (.inl (some (vi 0))) (X T m)) (hK : ∀ L e T, parL (S 305) (S 300 8) = .inr (L, e) → SR (sR (upS (upS (upS (upS S 300 0 0) 300 8 0) 300 12 (-1)) 300 6 0) (lwR (S 301) (L.length : Int) (S 300 8) (S 305) (S 300 8))) T → K (.inl (some (vi (L.length : Int)))) (X T m)) : Runs tb pg (d + 32) 247 [vr 300] (X S m) K := by
  have hP := TP_X (TP_bg h8 hB)
  have hP2 := hP
  obtain ⟨n, hn⟩ : ∃ n, n = S 300 8 := ⟨_, rfl⟩
  obtain ⟨t, ht⟩ : ∃ t, t = nrm (S 305) n := ⟨_, rfl⟩
  obtain ⟨P, hp⟩ : ∃ P, rdP (lawP t n) t n 12 [] 0 = P := ⟨_, rfl⟩
  have hp2 : parL (S 305) (S 300 8) = P := by rw [← hp, ht, hn]; rfl
  rw [hp2] at hK hK1
  rw [← hn] at hP h8
  rw [← ht] at hP
  have a0 : 0 ≤ (0 : Int) ∧ (0 : Int) ≤ n := by omega
  have h13 : bgS S 300 13 = 0 := rfl
  have hL : ∀ (L : List LL) (x y e : Int), P = .inr (L, e) → At tb (d + 31) 247 K 55 [vr 300, vi (L.length : Int), vi 0] [] (X (tS (sR (upS (mdS (bgS S) x y) 300 0 0) (putR (putR (S 301) 1 (L.length : Int)) 2 n)) e (-1)) m) := by
    intro L x y e hPL
    have hkL : SR (sR (upS (upS (upS (upS S 300 0 0) 300 8 0) 300 12 (-1)) 300 6 0) (lwR (S 301) (L.length : Int) n (S 305) n)) (tS (upS (sR (upS (mdS (bgS S) x y) 300 0 0) (lwR (S 301) (L.length : Int) n (S 305) n)) 300 6 0) e (-1)) := lwO
    have hk := hK L e _ hPL (by rw [← hn]; exact hkL)
    obtain ⟨k, hkk⟩ : ∃ k, k = (L.length : Int) := ⟨_, rfl⟩
    rw [← hkk] at hk ⊢
    obtain ⟨V, hV⟩ : ∃ V, V = upS (mdS (bgS S) x y) 300 0 0 := ⟨_, rfl⟩
    rw [← hV] at hk ⊢
    have v10 : V 300 10 = n := by rw [hV, hn]; rfl
    have v5 : V 305 = S 305 := by rw [hV]; rfl
    have hL55 : (fun i : Int => ∀ (T : Nat → Int → Int), (T = sR V (lwR (S 301) k n (S 305) i)) → At tb (d + 31) 247 K 55 [vr 300, vi k, vi i] [] (X (tS T e (-1)) m)) 0 := by
      refine loopZ (fun i : Int => ∀ (T : Nat → Int → Int), (T = sR V (lwR (S 301) k n (S 305) i)) → At tb (d + 31) 247 K 55 [vr 300, vi k, vi i] [] (X (tS T e (-1)) m)) (n) (by omega) ?_ ?_
      · intro i h0 h1 h9 T hT
        have t10 : T 300 10 = n := by rw [hT]; exact v10
        have t5 : T 305 = S 305 := by rw [hT]; exact v5
        have t1 : T 301 = lwR (S 301) k n (S 305) i := by rw [hT]; rfl
        rw [a247_55]
        repeat' (first | omega | with_reducible refine h9 _ ?_ | simp only [w_aload, w_call, w_iconst, w_istore, x_g1012_300, w_ifc, cI, Int.reduceToNat, w_goto, w_fall, x_p1000_300, x_g1000_300, w_if, w_ireturn, x_g1001_300, w_iload, x_iast, x_g1010_300, w_iadd, x_g1007_300, x_iald, w_ialoads, w_ialoadw, w_iinc, lgB, Nat.reduceSub, x_p1006_300, isA_301, isA_302, isA_303, isA_304, isA_305, isA_307, isA_308, isA_309, isA_310, isA_311, isA_312, isA_313, isA_314, isA_315, len_301, len_302, len_303, len_304, len_305, len_307, len_308, len_309, len_310, len_311, len_312, len_313, len_314, len_315, Int.cast_ofNat_Int, a247_0, a247_23, a247_24, a247_36, a247_85, R32, List.getElem?_cons_zero, List.getElem?_cons_succ, List.set_cons_zero, List.set_cons_succ, List.cons_append, List.nil_append, List.replicate_succ, List.replicate_zero, List.take_succ_cons, List.take_zero, List.drop_succ_cons, List.drop_zero, List.reverse_cons, List.reverse_nil, List.length_cons, List.length_nil, Option.toList, true_and, and_true, eq_self, ↓reduceIte, not_true_eq_false, not_false_eq_true, true_or, or_true, tS_11, tS_12, tS_8, tS_9, tS_10, tS_13, tS_301, tS_305, tS_u11, tS_u12, tS_u0, tS_u6, tS_u1, tS_0, sR_sR, sR_r, up00, up01] | (rw [t5]) | with_reducible refine And.intro ?_ ?_ | with_reducible intro _)
        all_goals (try (first | omega | contradiction | (rw [hT, sR_sR, sR_r]; exact congrArg (sR V) (lwR_s h0 rfl))))
      · intro T hT
        have t10 : T 300 10 = n := by rw [hT]; exact v10
        rw [a247_55]
        repeat' (first | omega | (rw [hT]; exact hk) | simp only [w_aload, w_call, w_iconst, w_istore, x_g1012_300, w_ifc, cI, Int.reduceToNat, w_goto, w_fall, x_p1000_300, x_g1000_300, w_if, w_ireturn, x_g1001_300, w_iload, x_iast, x_g1010_300, w_iadd, x_g1007_300, x_iald, w_ialoads, w_ialoadw, w_iinc, lgB, Nat.reduceSub, x_p1006_300, isA_301, isA_302, isA_303, isA_304, isA_305, isA_307, isA_308, isA_309, isA_310, isA_311, isA_312, isA_313, isA_314, isA_315, len_301, len_302, len_303, len_304, len_305, len_307, len_308, len_309, len_310, len_311, len_312, len_313, len_314, len_315, Int.cast_ofNat_Int, a247_0, a247_23, a247_24, a247_36, a247_85, R32, List.getElem?_cons_zero, List.getElem?_cons_succ, List.set_cons_zero, List.set_cons_succ, List.cons_append, List.nil_append, List.replicate_succ, List.replicate_zero, List.take_succ_cons, List.take_zero, List.drop_succ_cons, List.drop_zero, List.reverse_cons, List.reverse_nil, List.length_cons, List.length_nil, Option.toList, true_and, and_true, eq_self, ↓reduceIte, not_true_eq_false, not_false_eq_true, true_or, or_true, tS_11, tS_12, tS_8, tS_9, tS_10, tS_13, tS_301, tS_305, tS_u11, tS_u12, tS_u0, tS_u6, tS_u1, tS_0, sR_sR, sR_r, up00, up01] | (rw [t5]) | with_reducible refine And.intro ?_ ?_ | with_reducible intro _)
        all_goals (try (first | omega | contradiction | omega))
    exact hL55 _ (by rw [lwR_0])
  refine Runs.of (al := [vr 300]) (n := 2) ⟨300, _, _, rfl, xo_300⟩ rfl rfl trivial ?_
  repeat' (first | omega | (have w := hL L7 (totM (fcS (bgS S)) L7) (totD (fcS (bgS S)) L7) e7 z1; rw [hn] at w; exact w) | (refine hK1 _ _ z1 z2 z3 lwE) | simp only [w_aload, w_call, w_iconst, w_istore, x_g1012_300, w_ifc, cI, Int.reduceToNat, w_goto, w_fall, x_p1000_300, x_g1000_300, w_if, w_ireturn, x_g1001_300, w_iload, x_iast, x_g1010_300, w_iadd, x_g1007_300, x_iald, w_ialoads, w_ialoadw, w_iinc, lgB, Nat.reduceSub, x_p1006_300, isA_301, isA_302, isA_303, isA_304, isA_305, isA_307, isA_308, isA_309, isA_310, isA_311, isA_312, isA_313, isA_314, isA_315, len_301, len_302, len_303, len_304, len_305, len_307, len_308, len_309, len_310, len_311, len_312, len_313, len_314, len_315, Int.cast_ofNat_Int, a247_0, a247_23, a247_24, a247_36, a247_85, R32, List.getElem?_cons_zero, List.getElem?_cons_succ, List.set_cons_zero, List.set_cons_succ, List.cons_append, List.nil_append, List.replicate_succ, List.replicate_zero, List.take_succ_cons, List.take_zero, List.drop_succ_cons, List.drop_zero, List.reverse_cons, List.reverse_nil, List.length_cons, List.length_nil, Option.toList, true_and, and_true, eq_self, ↓reduceIte, not_true_eq_false, not_false_eq_true, true_or, or_true, tS_11, tS_12, tS_8, tS_9, tS_10, tS_13, tS_301, tS_305, tS_u11, tS_u12, tS_u0, tS_u6, tS_u1, tS_0, sR_sR, sR_r, up00, up01] | with_reducible refine q_235 ?_ | (with_reducible refine q_236l (S := bgS S) hX hP a0 h13 (fun x7 y7 e7 b7 k7 z1 z2 z3 => ?_) (fun L7 e7 z1 => ?_) <;> rw [hp] at z1) | (rw [hn10]) | with_reducible refine And.intro ?_ ?_ | with_reducible intro _)
  all_goals (try (first | omega | (exfalso; assumption) | skip))
end Ref44
