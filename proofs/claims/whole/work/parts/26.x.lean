/-! ===== THE MEMORY AS ONE STATE ===== -/
/-- scratch of the reference that is never out of its range: what is true, the facts -/
def b1F (x : Int) : Int := if x = 1 then 1 else 0
def c1F (x : Int) : Int := if x < -100000 then -100000 else if 100000 < x then 100000 else x
theorem b1F_rg (x : Int) : b1F x = 0 ∨ b1F x = 1 := by unfold b1F; split <;> omega
theorem c1F_rg (x : Int) : -100000 ≤ c1F x ∧ c1F x ≤ 100000 := by unfold c1F; split <;> (try split) <;> omega
theorem c1F_id {x : Int} (h : -100000 ≤ x ∧ x ≤ 100000) : c1F x = x := by unfold c1F; split <;> (try split) <;> omega
/-- a law, or none -/
def lv (x : Int) : AV := if x < 0 then vn else vr x.toNat
/-- where a World begins: 0 the SnowNames, 2 now, 19 spare, 36 kept, 71 that of Lasting, 96 .. the remembered ones; 300 the reference, 316 the answer -/
def isW (w : Nat) : Prop := w = 2 ∨ w = 19 ∨ w = 36 ∨ w = 71 ∨ (96 ≤ w ∧ w < 300 ∧ w % 17 = 11)
def wX (w k : Nat) (r : Int → Int) : AC := match k with
  | 0 => co 8 [vi (r 0), vr (w + 1), vr (w + 2), vr (w + 3), vi (r 4), vr (w + 4), vr (w + 5), vr (w + 6), vr (w + 7), vr (w + 8), vr (w + 9), vr (w + 13), vr (w + 15), vi (r 13), vi (r 14), lv (r 15), vr (w + 16)]
  | 1 => ca 0 6 (fun n => r n)
  | 2 => ca 0 6 (fun n => r n)
  | 3 => ca 0 6 (fun n => r n)
  | 4 => ca 0 6 (fun n => r n)
  | 5 => ca 0 36 (fun n => r n)
  | 6 => ca 0 6 (fun n => r n)
  | 7 => ca 0 36 (fun n => r n)
  | 8 => ca 0 36 (fun n => r n)
  | 9 => co 0 [vi (r 0), vr (w + 10), vr (w + 11), vr (w + 12)]
  | 10 => ca 0 8 (fun n => r n)
  | 11 => ca 0 8 (fun n => r n)
  | 12 => ca 0 8 (fun n => r n)
  | 13 => co 4 [vi (r 0), vr (w + 14)]
  | 14 => ca 0 240 (fun n => r n)
  | 15 => ca 0 5 (fun n => r n)
  | 16 => ca 0 10 (fun n => r n)
  | _ => co 99 []
def fX (a : Nat) (r : Int → Int) : AC := match a with
  | 0 => co 9 [vr 1, vi (r 1), vi (r 2), vr 2, vr 19, vr 36, vi (r 6), vr 53, vi (r 8), vi (r 9), vr 54, vr 57, vr 64, vr 70, vr 93, vr 94, vr 95]
  | 1 => ca 0 400 (fun n => r n)
  | 53 => cr 12 (fun i => if i < 12 then some (96 + 17 * i) else none)
  | 54 => co 6 [vr 55, vi (r 1)]
  | 55 => co 7 [vr (r 0).toNat, vi (r 1), vi (r 2), vi (r 3), vi (r 4), vi (r 5), vi (r 6)]
  | 56 => ca 0 0 (fun n => r n)
  | 57 => co 3 [vr 58, vr 60, vr 61, vr 62, vr 63, vi (r 5)]
  | 58 => co 7 [vr (r 0).toNat, vi (r 1), vi (r 2), vi (r 3), vi (r 4), vi (r 5), vi (r 6)]
  | 59 => ca 0 0 (fun n => r n)
  | 60 => ca 0 12 (fun n => r n)
  | 61 => ca 0 12 (fun n => r n)
  | 62 => ca 0 13 (fun n => r n)
  | 63 => ca 0 400 (fun n => r n)
  | 64 => co 5 [vr 65, vr 66, vi (r 2), vr 67, vr 68, vr 69, vi (r 6)]
  | 65 => ca 0 49 (fun n => r n)
  | 66 => ca 0 12 (fun n => r n)
  | 67 => ca 0 6 (fun n => r n)
  | 68 => ca 0 6 (fun n => r n)
  | 69 => ca 0 6 (fun n => r n)
  | 70 => co 1 [vr 71, vr 88, vr 89, vr 90, vr 91, vr 92, vi (r 6)]
  | 88 => ca 2 36 (fun n => r n)
  | 89 => ca 0 7 (fun n => r n)
  | 90 => ca 0 6 (fun n => r n)
  | 91 => ca 0 6 (fun n => r n)
  | 92 => ca 0 6 (fun n => r n)
  | 93 => ca 0 64 (fun n => r n)
  | 94 => ca 0 6 (fun n => r n)
  | 95 => ca 1 6 (fun n => r n)
  | 300 => co 10 [vi (r 0), vr 301, vr 302, vi (r 3), vr 303, vr 304, vi (r 6), vr 305, vi (r 8), vi (r 9), vi (r 10), vi (r 11), vi (r 12), vi (r 13), vr 306, vi (b1F (r 15)), vi (b1F (r 16)), vi (b1F (r 17)), vi (r 18), vi (r 19), vr 307, vr 308, vr 309, vr 310, vr 311, vr 312, vr 313, vr 314, vr 315]
  | 301 => ca 0 815 (fun n => r n)
  | 302 => ca 0 815 (fun n => r n)
  | 303 => ca 0 415 (fun n => r n)
  | 304 => ca 0 4980 (fun n => r n)
  | 305 => ca 0 400 (fun n => r n)
  | 306 => ca 0 7 (fun n => c1F (r n))
  | 307 => ca 0 6 (fun n => r n)
  | 308 => ca 0 49 (fun n => r n)
  | 309 => ca 0 6 (fun n => r n)
  | 310 => ca 0 64 (fun n => r n)
  | 311 => ca 0 6 (fun n => r n)
  | 312 => ca 0 7 (fun n => r n)
  | 313 => ca 2 36 (fun n => r n)
  | 314 => ca 0 6 (fun n => r n)
  | 315 => ca 0 6 (fun n => r n)
  | 316 => ca 1 1 (fun n => r n)
  | _ => co 99 []
def cX (a : Nat) (r : Int → Int) : AC := if 2 ≤ a ∧ a < 53 then wX (2 + 17 * ((a - 2) / 17)) ((a - 2) % 17) r else if 71 ≤ a ∧ a < 88 then wX 71 (a - 71) r else if 96 ≤ a ∧ a < 300 then wX (96 + 17 * ((a - 96) / 17)) ((a - 96) % 17) r else fX a r
/-- the memory of a state: the first 317 cells are of it, the others lie in m -/
def X (S : Nat → Int → Int) (m : AM) : AM := (fun a => if a < 317 then cX a (S a) else m.1 a, m.2)
def upS (S : Nat → Int → Int) (a : Nat) (i v : Int) : Nat → Int → Int := fun b => if b = a then (fun j => if j = i then v else S a j) else S b
theorem upS_at {S : Nat → Int → Int} {a b : Nat} {i v j : Int} : upS S a i v b j = if b = a ∧ j = i then v else S b j := by
  unfold upS
  by_cases h : b = a
  · subst h
    rw [if_pos rfl]
    by_cases h2 : j = i
    · rw [if_pos h2, if_pos ⟨rfl, h2⟩]
    · rw [if_neg h2, if_neg (fun z => h2 z.2)]
  · rw [if_neg h, if_neg (fun z => h z.1)]
theorem cX_w {w k : Nat} (hw : isW w) (hk : k < 17) (r : Int → Int) : cX (w + k) r = wX w k r := by
  unfold cX
  have hw9 := hw
  unfold isW at hw9
  by_cases h1 : 2 ≤ w + k ∧ w + k < 53
  · rw [if_pos h1, show 2 + 17 * ((w + k - 2) / 17) = w by omega, show (w + k - 2) % 17 = k by omega]
  · rw [if_neg h1]
    by_cases h2 : 71 ≤ w + k ∧ w + k < 88
    · rw [if_pos h2, show w = 71 by omega, show 71 + k - 71 = k by omega]
    · rw [if_neg h2, if_pos (by omega), show 96 + 17 * ((w + k - 96) / 17) = w by omega, show (w + k - 96) % 17 = k by omega]
theorem isW_lt {w : Nat} (hw : isW w) : w + 16 < 317 := by
  unfold isW at hw
  omega
theorem X_1 {S : Nat → Int → Int} {m : AM} {a : Nat} (h : a < 317) : (X S m).1 a = cX a (S a) := if_pos h
theorem X_o {S : Nat → Int → Int} {m : AM} {a : Nat} (h : 317 ≤ a) : (X S m).1 a = m.1 a := if_neg (by omega)
theorem X_2 {S : Nat → Int → Int} {m : AM} : (X S m).2 = m.2 := rfl
theorem X_set {S : Nat → Int → Int} {m : AM} {a : Nat} {r : Int → Int} {c : AC} (h : a < 317) (e : cX a r = c) : mset (X S m) a c = X (fun b => if b = a then r else S b) m := by
  refine Prod.ext (funext fun b => ?_) rfl
  show (if b = a then c else if b < 317 then cX b (S b) else m.1 b) = if b < 317 then cX b ((fun b => if b = a then r else S b) b) else m.1 b
  by_cases hb : b = a
  · subst hb
    dsimp only
    rw [if_pos rfl, if_pos h, if_pos rfl, e]
  · dsimp only
    rw [if_neg hb, if_neg hb]
theorem X_seto {S : Nat → Int → Int} {m : AM} {a : Nat} {c : AC} (h : 317 ≤ a) : mset (X S m) a c = X S (mset m a c) := by
  refine Prod.ext (funext fun b => ?_) rfl
  show (if b = a then c else if b < 317 then cX b (S b) else m.1 b) = if b < 317 then cX b (S b) else if b = a then c else m.1 b
  by_cases hb : b = a
  · subst hb
    rw [if_pos rfl, if_neg (by omega), if_pos rfl]
  · rw [if_neg hb, if_neg hb]
/-- an array of the state: which kind, how long -/
def lenX (a : Nat) : Nat := match cX a (fun _ => 0) with
  | .inr (.inl (_, len, _)) => len
  | _ => 0
def isA (a kd : Nat) : Prop := a < 317 ∧ ∀ r, cX a r = ca kd (lenX a) (fun n => r n)
theorem At.eq {tb : Tab} {d M : Nat} {K : Out → AM → Prop} {L : Nat} {ls st : List AV} {m : AM} {is : List Instr} (hc : pg.1 M L = is) : At tb d M K L ls st m = wpB tb (pg.2.1 M) (Runs tb pg d) K (At tb d M K) is ls st m := by
  subst hc
  exact propext ⟨fun h => Ex_open (CMono.refl_of d) h, fun h => Ex_fold (CMono.refl_of d) h⟩
section XRules
variable {tb : Tab} {hs : Nat → Option (Nat × Nat)} {C : Nat → List AV → AM → (Out → AM → Prop) → Prop} {Q : Out → AM → Prop} {J : Nat → List AV → List AV → AM → Prop} {is : List Instr} {ls st : List AV} {m : AM} {S : Nat → Int → Int} {w : Nat}
theorem x_iald {a : Nat} {j : Int} (h : isA a 0) : wpB tb hs C Q J (.iaload :: is) ls (vi j :: vr a :: st) (X S m) = ((0 ≤ j ∧ j < (lenX a : Int)) ∧ wpB tb hs C Q J is ls (vi (S a j) :: st) (X S m)) := by
  rw [w_iaload (f := fun n => S a n) (len := lenX a) (by rw [X_1 h.1, h.2])]
  refine propext (and_congr_right fun z => ?_)
  rw [Int.toNat_of_nonneg z.1]
theorem x_lald {a : Nat} {j : Int} (h : isA a 1) : wpB tb hs C Q J (.laload :: is) ls (vi j :: vr a :: st) (X S m) = ((0 ≤ j ∧ j < (lenX a : Int)) ∧ wpB tb hs C Q J is ls (vl (S a j) :: st) (X S m)) := by
  rw [w_laload (f := fun n => S a n) (len := lenX a) (by rw [X_1 h.1, h.2])]
  refine propext (and_congr_right fun z => ?_)
  rw [Int.toNat_of_nonneg z.1]
theorem x_bald {a : Nat} {j : Int} (h : isA a 2) : wpB tb hs C Q J (.baload :: is) ls (vi j :: vr a :: st) (X S m) = ((0 ≤ j ∧ j < (lenX a : Int)) ∧ wpB tb hs C Q J is ls (vi (S a j) :: st) (X S m)) := by
  rw [w_baload (f := fun n => S a n) (len := lenX a) (by rw [X_1 h.1, h.2])]
  refine propext (and_congr_right fun z => ?_)
  rw [Int.toNat_of_nonneg z.1]
theorem x_iast {a : Nat} {j v : Int} (h : isA a 0) : wpB tb hs C Q J (.iastore :: is) ls (vi v :: vi j :: vr a :: st) (X S m) = ((0 ≤ j ∧ j < (lenX a : Int)) ∧ wpB tb hs C Q J is ls st (X (upS S a j v) m)) := by
  rw [w_iastore (f := fun n => S a n) (len := lenX a) (by rw [X_1 h.1, h.2])]
  refine propext (and_congr_right fun z => ?_)
  rw [X_set (r := fun i => if i = j then v else S a i) h.1 (by
    rw [h.2]
    refine congrArg (fun f => ca 0 (lenX a) f) (funext fun n => ?_)
    show (if (n : Int) = j then v else S a n) = if n = j.toNat then v else S a n
    have := z.1
    by_cases e : n = j.toNat
    · rw [if_pos e, if_pos (by omega)]
    · rw [if_neg e, if_neg (by omega)])]
  rfl
theorem x_last {a : Nat} {j v : Int} (h : isA a 1) : wpB tb hs C Q J (.lastore :: is) ls (vl v :: vi j :: vr a :: st) (X S m) = ((0 ≤ j ∧ j < (lenX a : Int)) ∧ wpB tb hs C Q J is ls st (X (upS S a j v) m)) := by
  rw [w_lastore (f := fun n => S a n) (len := lenX a) (by rw [X_1 h.1, h.2])]
  refine propext (and_congr_right fun z => ?_)
  rw [X_set (r := fun i => if i = j then v else S a i) h.1 (by
    rw [h.2]
    refine congrArg (fun f => ca 1 (lenX a) f) (funext fun n => ?_)
    show (if (n : Int) = j then v else S a n) = if n = j.toNat then v else S a n
    have := z.1
    by_cases e : n = j.toNat
    · rw [if_pos e, if_pos (by omega)]
    · rw [if_neg e, if_neg (by omega)])]
  rfl
theorem x_bast {a : Nat} {j v : Int} (h : isA a 2) : wpB tb hs C Q J (.bastore :: is) ls (vi v :: vi j :: vr a :: st) (X S m) = (((v = 0 ∨ v = 1) ∧ 0 ≤ j ∧ j < (lenX a : Int)) ∧ wpB tb hs C Q J is ls st (X (upS S a j v) m)) := by
  rw [w_bastore (f := fun n => S a n) (len := lenX a) (by rw [X_1 h.1, h.2])]
  refine propext (and_congr_right fun z => ?_)
  rw [X_set (r := fun i => if i = j then v else S a i) h.1 (by
    rw [h.2]
    refine congrArg (fun f => ca 2 (lenX a) f) (funext fun n => ?_)
    show (if (n : Int) = j then v else S a n) = if n = j.toNat then v else S a n
    have := z.2.1
    by_cases e : n = j.toNat
    · rw [if_pos e, if_pos (by omega)]
    · rw [if_neg e, if_neg (by omega)])]
  rfl
theorem x_alen {a kd : Nat} (h : isA a kd) (hl : lenX a < 2147483648) : wpB tb hs C Q J (.arraylength :: is) ls (vr a :: st) (X S m) = wpB tb hs C Q J is ls (vi (lenX a) :: st) (X S m) := by
  rw [w_alen (kd := kd) (f := fun n => S a n) (len := lenX a) (by rw [X_1 h.1, h.2])]
  exact propext ⟨fun z => z.2, fun z => ⟨hl, z⟩⟩
theorem x_aald {j : Int} : wpB tb hs C Q J (.aaload :: is) ls (vi j :: vr 53 :: st) (X S m) = ((0 ≤ j ∧ j < 12) ∧ wpB tb hs C Q J is ls (vr (96 + 17 * j.toNat) :: st) (X S m)) := by
  rw [w_aaload (f := fun i => if i < 12 then some (96 + 17 * i) else none) (X_1 (by decide))]
  refine propext (and_congr_right fun z => ?_)
  have e : (if j.toNat < 12 then some (96 + 17 * j.toNat) else none) = some (96 + 17 * j.toNat) := if_pos (by omega)
  rw [e]
  rfl
/-- a run of one array laid into another -/
def cpyS (S : Nat → Int → Int) (a b : Nat) (sp dp n : Int) : Nat → Int → Int := fun c => if c = b then (fun j => if dp ≤ j ∧ j < dp + n then S a (sp + (j - dp)) else S b j) else S c
theorem x_copy {a b : Nat} {n dp sp : Int} (ha : isA a 0) (hb : isA b 0) : wpB tb hs C Q J ((.invokestatic 2) :: is) ls (vi n :: vi dp :: vr b :: vi sp :: vr a :: st) (X S m) = ((st.length ≤ 8 ∧ (0 ≤ n ∧ 0 ≤ sp ∧ 0 ≤ dp) ∧ (sp + n ≤ (lenX a : Int) ∧ dp + n ≤ (lenX b : Int)) ∧ lenX a < 1000000 ∧ lenX b < 1000000) ∧ wpB tb hs C Q J is ls st (X (cpyS S a b sp dp n) m)) := by
  rw [w_copy (f := fun n => S a n) (g := fun n => S b n) (la := lenX a) (lb := lenX b) (by rw [X_1 ha.1, ha.2]) (by rw [X_1 hb.1, hb.2])]
  refine propext (and_congr_right fun z => ?_)
  rw [X_set (r := fun j => if dp ≤ j ∧ j < dp + n then S a (sp + (j - dp)) else S b j) hb.1 (by
    rw [hb.2]
    refine congrArg (fun f => ca 0 (lenX b) f) (funext fun k => ?_)
    have := z.2.1
    unfold cpyI
    dsimp only
    by_cases e : dp.toNat ≤ k ∧ k < dp.toNat + n.toNat
    · rw [if_pos e, if_pos (by omega)]
      exact congrArg (S a) (by omega)
    · rw [if_neg e, if_neg (by omega)])]
  rfl
theorem isA_1 : isA 1 0 := ⟨by decide, fun _ => rfl⟩
theorem len_1 : lenX 1 = 400 := rfl
theorem isA_56 : isA 56 0 := ⟨by decide, fun _ => rfl⟩
theorem len_56 : lenX 56 = 0 := rfl
theorem isA_59 : isA 59 0 := ⟨by decide, fun _ => rfl⟩
theorem len_59 : lenX 59 = 0 := rfl
theorem isA_60 : isA 60 0 := ⟨by decide, fun _ => rfl⟩
theorem len_60 : lenX 60 = 12 := rfl
theorem isA_61 : isA 61 0 := ⟨by decide, fun _ => rfl⟩
theorem len_61 : lenX 61 = 12 := rfl
theorem isA_62 : isA 62 0 := ⟨by decide, fun _ => rfl⟩
theorem len_62 : lenX 62 = 13 := rfl
theorem isA_63 : isA 63 0 := ⟨by decide, fun _ => rfl⟩
theorem len_63 : lenX 63 = 400 := rfl
theorem isA_65 : isA 65 0 := ⟨by decide, fun _ => rfl⟩
theorem len_65 : lenX 65 = 49 := rfl
theorem isA_66 : isA 66 0 := ⟨by decide, fun _ => rfl⟩
theorem len_66 : lenX 66 = 12 := rfl
theorem isA_67 : isA 67 0 := ⟨by decide, fun _ => rfl⟩
theorem len_67 : lenX 67 = 6 := rfl
theorem isA_68 : isA 68 0 := ⟨by decide, fun _ => rfl⟩
theorem len_68 : lenX 68 = 6 := rfl
theorem isA_69 : isA 69 0 := ⟨by decide, fun _ => rfl⟩
theorem len_69 : lenX 69 = 6 := rfl
theorem isA_88 : isA 88 2 := ⟨by decide, fun _ => rfl⟩
theorem len_88 : lenX 88 = 36 := rfl
theorem isA_89 : isA 89 0 := ⟨by decide, fun _ => rfl⟩
theorem len_89 : lenX 89 = 7 := rfl
theorem isA_90 : isA 90 0 := ⟨by decide, fun _ => rfl⟩
theorem len_90 : lenX 90 = 6 := rfl
theorem isA_91 : isA 91 0 := ⟨by decide, fun _ => rfl⟩
theorem len_91 : lenX 91 = 6 := rfl
theorem isA_92 : isA 92 0 := ⟨by decide, fun _ => rfl⟩
theorem len_92 : lenX 92 = 6 := rfl
theorem isA_93 : isA 93 0 := ⟨by decide, fun _ => rfl⟩
theorem len_93 : lenX 93 = 64 := rfl
theorem isA_94 : isA 94 0 := ⟨by decide, fun _ => rfl⟩
theorem len_94 : lenX 94 = 6 := rfl
theorem isA_95 : isA 95 1 := ⟨by decide, fun _ => rfl⟩
theorem len_95 : lenX 95 = 6 := rfl
theorem isA_301 : isA 301 0 := ⟨by decide, fun _ => rfl⟩
theorem len_301 : lenX 301 = 815 := rfl
theorem isA_302 : isA 302 0 := ⟨by decide, fun _ => rfl⟩
theorem len_302 : lenX 302 = 815 := rfl
theorem isA_303 : isA 303 0 := ⟨by decide, fun _ => rfl⟩
theorem len_303 : lenX 303 = 415 := rfl
theorem isA_304 : isA 304 0 := ⟨by decide, fun _ => rfl⟩
theorem len_304 : lenX 304 = 4980 := rfl
theorem isA_305 : isA 305 0 := ⟨by decide, fun _ => rfl⟩
theorem len_305 : lenX 305 = 400 := rfl
theorem isA_307 : isA 307 0 := ⟨by decide, fun _ => rfl⟩
theorem len_307 : lenX 307 = 6 := rfl
theorem isA_308 : isA 308 0 := ⟨by decide, fun _ => rfl⟩
theorem len_308 : lenX 308 = 49 := rfl
theorem isA_309 : isA 309 0 := ⟨by decide, fun _ => rfl⟩
theorem len_309 : lenX 309 = 6 := rfl
theorem isA_310 : isA 310 0 := ⟨by decide, fun _ => rfl⟩
theorem len_310 : lenX 310 = 64 := rfl
theorem isA_311 : isA 311 0 := ⟨by decide, fun _ => rfl⟩
theorem len_311 : lenX 311 = 6 := rfl
theorem isA_312 : isA 312 0 := ⟨by decide, fun _ => rfl⟩
theorem len_312 : lenX 312 = 7 := rfl
theorem isA_313 : isA 313 2 := ⟨by decide, fun _ => rfl⟩
theorem len_313 : lenX 313 = 36 := rfl
theorem isA_314 : isA 314 0 := ⟨by decide, fun _ => rfl⟩
theorem len_314 : lenX 314 = 6 := rfl
theorem isA_315 : isA 315 0 := ⟨by decide, fun _ => rfl⟩
theorem len_315 : lenX 315 = 6 := rfl
theorem isA_316 : isA 316 1 := ⟨by decide, fun _ => rfl⟩
theorem len_316 : lenX 316 = 1 := rfl
theorem len_w1 (hw : isW w) : lenX (w + 1) = 6 := by
  unfold lenX
  rw [cX_w hw (by decide)]
  rfl
theorem isA_w1 (hw : isW w) : isA (w + 1) 0 := ⟨by have := isW_lt hw; omega, fun r => by rw [len_w1 hw, cX_w hw (by decide)]; rfl⟩
theorem len_w2 (hw : isW w) : lenX (w + 2) = 6 := by
  unfold lenX
  rw [cX_w hw (by decide)]
  rfl
theorem isA_w2 (hw : isW w) : isA (w + 2) 0 := ⟨by have := isW_lt hw; omega, fun r => by rw [len_w2 hw, cX_w hw (by decide)]; rfl⟩
theorem len_w3 (hw : isW w) : lenX (w + 3) = 6 := by
  unfold lenX
  rw [cX_w hw (by decide)]
  rfl
theorem isA_w3 (hw : isW w) : isA (w + 3) 0 := ⟨by have := isW_lt hw; omega, fun r => by rw [len_w3 hw, cX_w hw (by decide)]; rfl⟩
theorem len_w4 (hw : isW w) : lenX (w + 4) = 6 := by
  unfold lenX
  rw [cX_w hw (by decide)]
  rfl
theorem isA_w4 (hw : isW w) : isA (w + 4) 0 := ⟨by have := isW_lt hw; omega, fun r => by rw [len_w4 hw, cX_w hw (by decide)]; rfl⟩
theorem len_w5 (hw : isW w) : lenX (w + 5) = 36 := by
  unfold lenX
  rw [cX_w hw (by decide)]
  rfl
theorem isA_w5 (hw : isW w) : isA (w + 5) 0 := ⟨by have := isW_lt hw; omega, fun r => by rw [len_w5 hw, cX_w hw (by decide)]; rfl⟩
theorem len_w6 (hw : isW w) : lenX (w + 6) = 6 := by
  unfold lenX
  rw [cX_w hw (by decide)]
  rfl
theorem isA_w6 (hw : isW w) : isA (w + 6) 0 := ⟨by have := isW_lt hw; omega, fun r => by rw [len_w6 hw, cX_w hw (by decide)]; rfl⟩
theorem len_w7 (hw : isW w) : lenX (w + 7) = 36 := by
  unfold lenX
  rw [cX_w hw (by decide)]
  rfl
theorem isA_w7 (hw : isW w) : isA (w + 7) 0 := ⟨by have := isW_lt hw; omega, fun r => by rw [len_w7 hw, cX_w hw (by decide)]; rfl⟩
theorem len_w8 (hw : isW w) : lenX (w + 8) = 36 := by
  unfold lenX
  rw [cX_w hw (by decide)]
  rfl
theorem isA_w8 (hw : isW w) : isA (w + 8) 0 := ⟨by have := isW_lt hw; omega, fun r => by rw [len_w8 hw, cX_w hw (by decide)]; rfl⟩
theorem len_w10 (hw : isW w) : lenX (w + 10) = 8 := by
  unfold lenX
  rw [cX_w hw (by decide)]
  rfl
theorem isA_w10 (hw : isW w) : isA (w + 10) 0 := ⟨by have := isW_lt hw; omega, fun r => by rw [len_w10 hw, cX_w hw (by decide)]; rfl⟩
theorem len_w11 (hw : isW w) : lenX (w + 11) = 8 := by
  unfold lenX
  rw [cX_w hw (by decide)]
  rfl
theorem isA_w11 (hw : isW w) : isA (w + 11) 0 := ⟨by have := isW_lt hw; omega, fun r => by rw [len_w11 hw, cX_w hw (by decide)]; rfl⟩
theorem len_w12 (hw : isW w) : lenX (w + 12) = 8 := by
  unfold lenX
  rw [cX_w hw (by decide)]
  rfl
theorem isA_w12 (hw : isW w) : isA (w + 12) 0 := ⟨by have := isW_lt hw; omega, fun r => by rw [len_w12 hw, cX_w hw (by decide)]; rfl⟩
theorem len_w14 (hw : isW w) : lenX (w + 14) = 240 := by
  unfold lenX
  rw [cX_w hw (by decide)]
  rfl
theorem isA_w14 (hw : isW w) : isA (w + 14) 0 := ⟨by have := isW_lt hw; omega, fun r => by rw [len_w14 hw, cX_w hw (by decide)]; rfl⟩
theorem len_w15 (hw : isW w) : lenX (w + 15) = 5 := by
  unfold lenX
  rw [cX_w hw (by decide)]
  rfl
theorem isA_w15 (hw : isW w) : isA (w + 15) 0 := ⟨by have := isW_lt hw; omega, fun r => by rw [len_w15 hw, cX_w hw (by decide)]; rfl⟩
theorem len_w16 (hw : isW w) : lenX (w + 16) = 10 := by
  unfold lenX
  rw [cX_w hw (by decide)]
  rfl
theorem isA_w16 (hw : isW w) : isA (w + 16) 0 := ⟨by have := isW_lt hw; omega, fun r => by rw [len_w16 hw, cX_w hw (by decide)]; rfl⟩
theorem isA_306 : lenX 306 = 7 := rfl
theorem len_306 : lenX 306 = 7 := rfl
theorem x_ald6 {j : Int} : wpB tb hs C Q J (.iaload :: is) ls (vi j :: vr 306 :: st) (X S m) = ((0 ≤ j ∧ j < 7) ∧ wpB tb hs C Q J is ls (vi (c1F (S 306 j)) :: st) (X S m)) := by
  rw [w_iaload (f := fun n => c1F (S 306 n)) (len := 7) (by rw [X_1 (by decide)]; rfl)]
  refine propext (and_congr_right fun z => ?_)
  rw [Int.toNat_of_nonneg z.1]
theorem x_ast6 {j v : Int} (hv : -100000 ≤ v ∧ v ≤ 100000) : wpB tb hs C Q J (.iastore :: is) ls (vi v :: vi j :: vr 306 :: st) (X S m) = ((0 ≤ j ∧ j < 7) ∧ wpB tb hs C Q J is ls st (X (upS S 306 j v) m)) := by
  rw [w_iastore (f := fun n => c1F (S 306 n)) (len := 7) (by rw [X_1 (by decide)]; rfl)]
  refine propext (and_congr_right fun z => ?_)
  rw [X_set (a := 306) (r := fun i => if i = j then v else S 306 i) (by decide) (by
    show ca 0 7 (fun n => c1F (if (n : Int) = j then v else S 306 n)) = _
    refine congrArg (fun f => ca 0 7 f) (funext fun n => ?_)
    show c1F (if (n : Int) = j then v else S 306 n) = if n = j.toNat then v else c1F (S 306 n)
    have := z.1
    by_cases e : n = j.toNat
    · rw [if_pos e, if_pos (by omega), c1F_id hv]
    · rw [if_neg e, if_neg (by omega)])]
  rfl
theorem xo_0  : (X S m).1 0 = co 9 [vr 1, vi (S 0 1), vi (S 0 2), vr 2, vr 19, vr 36, vi (S 0 6), vr 53, vi (S 0 8), vi (S 0 9), vr 54, vr 57, vr 64, vr 70, vr 93, vr 94, vr 95] := X_1 (by decide)
theorem x_g900_0  : wpB tb hs C Q J (.getfield 900 :: is) ls (vr 0 :: st) (X S m) = wpB tb hs C Q J is ls (vr 1 :: st) (X S m) := by
  rw [w_getf (xo_0) rfl]
  exact propext (and_iff_right rfl)
theorem x_g901_0  : wpB tb hs C Q J (.getfield 901 :: is) ls (vr 0 :: st) (X S m) = wpB tb hs C Q J is ls (vi (S 0 1) :: st) (X S m) := by
  rw [w_getf (xo_0) rfl]
  exact propext (and_iff_right rfl)
theorem x_p901_0 {v : Int}  : wpB tb hs C Q J (.putfield 901 :: is) ls (vi v :: vr 0 :: st) (X S m) = (wpB tb hs C Q J is ls st (X (upS S 0 1 v) m)) := by
  rw [w_putf (xo_0), X_set (r := fun j => if j = 1 then v else S 0 j) (by decide) ?_]
  · exact propext (and_iff_right rfl)
  · rfl
theorem x_g902_0  : wpB tb hs C Q J (.getfield 902 :: is) ls (vr 0 :: st) (X S m) = wpB tb hs C Q J is ls (vi (S 0 2) :: st) (X S m) := by
  rw [w_getf (xo_0) rfl]
  exact propext (and_iff_right rfl)
theorem x_p902_0 {v : Int}  : wpB tb hs C Q J (.putfield 902 :: is) ls (vi v :: vr 0 :: st) (X S m) = (wpB tb hs C Q J is ls st (X (upS S 0 2 v) m)) := by
  rw [w_putf (xo_0), X_set (r := fun j => if j = 2 then v else S 0 j) (by decide) ?_]
  · exact propext (and_iff_right rfl)
  · rfl
theorem x_g903_0  : wpB tb hs C Q J (.getfield 903 :: is) ls (vr 0 :: st) (X S m) = wpB tb hs C Q J is ls (vr 2 :: st) (X S m) := by
  rw [w_getf (xo_0) rfl]
  exact propext (and_iff_right rfl)
theorem x_g904_0  : wpB tb hs C Q J (.getfield 904 :: is) ls (vr 0 :: st) (X S m) = wpB tb hs C Q J is ls (vr 19 :: st) (X S m) := by
  rw [w_getf (xo_0) rfl]
  exact propext (and_iff_right rfl)
theorem x_g905_0  : wpB tb hs C Q J (.getfield 905 :: is) ls (vr 0 :: st) (X S m) = wpB tb hs C Q J is ls (vr 36 :: st) (X S m) := by
  rw [w_getf (xo_0) rfl]
  exact propext (and_iff_right rfl)
theorem x_g906_0  : wpB tb hs C Q J (.getfield 906 :: is) ls (vr 0 :: st) (X S m) = wpB tb hs C Q J is ls (vi (S 0 6) :: st) (X S m) := by
  rw [w_getf (xo_0) rfl]
  exact propext (and_iff_right rfl)
theorem x_p906_0 {v : Int}  : wpB tb hs C Q J (.dstore 906 :: is) ls (vi v :: vr 0 :: st) (X S m) = ((v = 0 ∨ v = 1) ∧ wpB tb hs C Q J is ls st (X (upS S 0 6 v) m)) := by
  rw [w_putz (xo_0), X_set (r := fun j => if j = 6 then v else S 0 j) (by decide) ?_]
  · exact propext ⟨fun z => ⟨z.1.1, z.2⟩, fun z => ⟨⟨z.1, rfl⟩, z.2⟩⟩
  · rfl
theorem x_g907_0  : wpB tb hs C Q J (.getfield 907 :: is) ls (vr 0 :: st) (X S m) = wpB tb hs C Q J is ls (vr 53 :: st) (X S m) := by
  rw [w_getf (xo_0) rfl]
  exact propext (and_iff_right rfl)
theorem x_g908_0  : wpB tb hs C Q J (.getfield 908 :: is) ls (vr 0 :: st) (X S m) = wpB tb hs C Q J is ls (vi (S 0 8) :: st) (X S m) := by
  rw [w_getf (xo_0) rfl]
  exact propext (and_iff_right rfl)
theorem x_p908_0 {v : Int}  : wpB tb hs C Q J (.putfield 908 :: is) ls (vi v :: vr 0 :: st) (X S m) = (wpB tb hs C Q J is ls st (X (upS S 0 8 v) m)) := by
  rw [w_putf (xo_0), X_set (r := fun j => if j = 8 then v else S 0 j) (by decide) ?_]
  · exact propext (and_iff_right rfl)
  · rfl
theorem x_g909_0  : wpB tb hs C Q J (.getfield 909 :: is) ls (vr 0 :: st) (X S m) = wpB tb hs C Q J is ls (vi (S 0 9) :: st) (X S m) := by
  rw [w_getf (xo_0) rfl]
  exact propext (and_iff_right rfl)
theorem x_p909_0 {v : Int}  : wpB tb hs C Q J (.putfield 909 :: is) ls (vi v :: vr 0 :: st) (X S m) = (wpB tb hs C Q J is ls st (X (upS S 0 9 v) m)) := by
  rw [w_putf (xo_0), X_set (r := fun j => if j = 9 then v else S 0 j) (by decide) ?_]
  · exact propext (and_iff_right rfl)
  · rfl
theorem x_g910_0  : wpB tb hs C Q J (.getfield 910 :: is) ls (vr 0 :: st) (X S m) = wpB tb hs C Q J is ls (vr 54 :: st) (X S m) := by
  rw [w_getf (xo_0) rfl]
  exact propext (and_iff_right rfl)
theorem x_g911_0  : wpB tb hs C Q J (.getfield 911 :: is) ls (vr 0 :: st) (X S m) = wpB tb hs C Q J is ls (vr 57 :: st) (X S m) := by
  rw [w_getf (xo_0) rfl]
  exact propext (and_iff_right rfl)
theorem x_g912_0  : wpB tb hs C Q J (.getfield 912 :: is) ls (vr 0 :: st) (X S m) = wpB tb hs C Q J is ls (vr 64 :: st) (X S m) := by
  rw [w_getf (xo_0) rfl]
  exact propext (and_iff_right rfl)
theorem x_g913_0  : wpB tb hs C Q J (.getfield 913 :: is) ls (vr 0 :: st) (X S m) = wpB tb hs C Q J is ls (vr 70 :: st) (X S m) := by
  rw [w_getf (xo_0) rfl]
  exact propext (and_iff_right rfl)
theorem x_g914_0  : wpB tb hs C Q J (.getfield 914 :: is) ls (vr 0 :: st) (X S m) = wpB tb hs C Q J is ls (vr 93 :: st) (X S m) := by
  rw [w_getf (xo_0) rfl]
  exact propext (and_iff_right rfl)
theorem x_g915_0  : wpB tb hs C Q J (.getfield 915 :: is) ls (vr 0 :: st) (X S m) = wpB tb hs C Q J is ls (vr 94 :: st) (X S m) := by
  rw [w_getf (xo_0) rfl]
  exact propext (and_iff_right rfl)
theorem x_g916_0  : wpB tb hs C Q J (.getfield 916 :: is) ls (vr 0 :: st) (X S m) = wpB tb hs C Q J is ls (vr 95 :: st) (X S m) := by
  rw [w_getf (xo_0) rfl]
  exact propext (and_iff_right rfl)
theorem xo_54  : (X S m).1 54 = co 6 [vr 55, vi (S 54 1)] := X_1 (by decide)
theorem x_g600_54  : wpB tb hs C Q J (.getfield 600 :: is) ls (vr 54 :: st) (X S m) = wpB tb hs C Q J is ls (vr 55 :: st) (X S m) := by
  rw [w_getf (xo_54) rfl]
  exact propext (and_iff_right rfl)
theorem x_g601_54  : wpB tb hs C Q J (.getfield 601 :: is) ls (vr 54 :: st) (X S m) = wpB tb hs C Q J is ls (vi (S 54 1) :: st) (X S m) := by
  rw [w_getf (xo_54) rfl]
  exact propext (and_iff_right rfl)
theorem x_p601_54 {v : Int}  : wpB tb hs C Q J (.putfield 601 :: is) ls (vi v :: vr 54 :: st) (X S m) = (wpB tb hs C Q J is ls st (X (upS S 54 1 v) m)) := by
  rw [w_putf (xo_54), X_set (r := fun j => if j = 1 then v else S 54 j) (by decide) ?_]
  · exact propext (and_iff_right rfl)
  · rfl
theorem xo_55  : (X S m).1 55 = co 7 [vr (S 55 0).toNat, vi (S 55 1), vi (S 55 2), vi (S 55 3), vi (S 55 4), vi (S 55 5), vi (S 55 6)] := X_1 (by decide)
theorem x_g700_55  : wpB tb hs C Q J (.getfield 700 :: is) ls (vr 55 :: st) (X S m) = wpB tb hs C Q J is ls (vr (S 55 0).toNat :: st) (X S m) := by
  rw [w_getf (xo_55) rfl]
  exact propext (and_iff_right rfl)
theorem x_p700_55 {v : Nat}  : wpB tb hs C Q J (.putstatic 700 :: is) ls (vr v :: vr 55 :: st) (X S m) = (wpB tb hs C Q J is ls st (X (upS S 55 0 (v : Int)) m)) := by
  rw [w_putr (xo_55), X_set (r := fun j => if j = 0 then (v : Int) else S 55 j) (by decide) ?_]
  · exact propext (and_iff_right rfl)
  · rfl
theorem x_g701_55  : wpB tb hs C Q J (.getfield 701 :: is) ls (vr 55 :: st) (X S m) = wpB tb hs C Q J is ls (vi (S 55 1) :: st) (X S m) := by
  rw [w_getf (xo_55) rfl]
  exact propext (and_iff_right rfl)
theorem x_p701_55 {v : Int}  : wpB tb hs C Q J (.putfield 701 :: is) ls (vi v :: vr 55 :: st) (X S m) = (wpB tb hs C Q J is ls st (X (upS S 55 1 v) m)) := by
  rw [w_putf (xo_55), X_set (r := fun j => if j = 1 then v else S 55 j) (by decide) ?_]
  · exact propext (and_iff_right rfl)
  · rfl
theorem x_g702_55  : wpB tb hs C Q J (.getfield 702 :: is) ls (vr 55 :: st) (X S m) = wpB tb hs C Q J is ls (vi (S 55 2) :: st) (X S m) := by
  rw [w_getf (xo_55) rfl]
  exact propext (and_iff_right rfl)
theorem x_p702_55 {v : Int}  : wpB tb hs C Q J (.putfield 702 :: is) ls (vi v :: vr 55 :: st) (X S m) = (wpB tb hs C Q J is ls st (X (upS S 55 2 v) m)) := by
  rw [w_putf (xo_55), X_set (r := fun j => if j = 2 then v else S 55 j) (by decide) ?_]
  · exact propext (and_iff_right rfl)
  · rfl
theorem x_g703_55  : wpB tb hs C Q J (.getfield 703 :: is) ls (vr 55 :: st) (X S m) = wpB tb hs C Q J is ls (vi (S 55 3) :: st) (X S m) := by
  rw [w_getf (xo_55) rfl]
  exact propext (and_iff_right rfl)
theorem x_p703_55 {v : Int}  : wpB tb hs C Q J (.putfield 703 :: is) ls (vi v :: vr 55 :: st) (X S m) = (wpB tb hs C Q J is ls st (X (upS S 55 3 v) m)) := by
  rw [w_putf (xo_55), X_set (r := fun j => if j = 3 then v else S 55 j) (by decide) ?_]
  · exact propext (and_iff_right rfl)
  · rfl
theorem x_g704_55  : wpB tb hs C Q J (.getfield 704 :: is) ls (vr 55 :: st) (X S m) = wpB tb hs C Q J is ls (vi (S 55 4) :: st) (X S m) := by
  rw [w_getf (xo_55) rfl]
  exact propext (and_iff_right rfl)
theorem x_p704_55 {v : Int}  : wpB tb hs C Q J (.putfield 704 :: is) ls (vi v :: vr 55 :: st) (X S m) = (wpB tb hs C Q J is ls st (X (upS S 55 4 v) m)) := by
  rw [w_putf (xo_55), X_set (r := fun j => if j = 4 then v else S 55 j) (by decide) ?_]
  · exact propext (and_iff_right rfl)
  · rfl
theorem x_g705_55  : wpB tb hs C Q J (.getfield 705 :: is) ls (vr 55 :: st) (X S m) = wpB tb hs C Q J is ls (vi (S 55 5) :: st) (X S m) := by
  rw [w_getf (xo_55) rfl]
  exact propext (and_iff_right rfl)
theorem x_p705_55 {v : Int}  : wpB tb hs C Q J (.putfield 705 :: is) ls (vi v :: vr 55 :: st) (X S m) = (wpB tb hs C Q J is ls st (X (upS S 55 5 v) m)) := by
  rw [w_putf (xo_55), X_set (r := fun j => if j = 5 then v else S 55 j) (by decide) ?_]
  · exact propext (and_iff_right rfl)
  · rfl
theorem x_g706_55  : wpB tb hs C Q J (.getfield 706 :: is) ls (vr 55 :: st) (X S m) = wpB tb hs C Q J is ls (vi (S 55 6) :: st) (X S m) := by
  rw [w_getf (xo_55) rfl]
  exact propext (and_iff_right rfl)
theorem x_p706_55 {v : Int}  : wpB tb hs C Q J (.putfield 706 :: is) ls (vi v :: vr 55 :: st) (X S m) = (wpB tb hs C Q J is ls st (X (upS S 55 6 v) m)) := by
  rw [w_putf (xo_55), X_set (r := fun j => if j = 6 then v else S 55 j) (by decide) ?_]
  · exact propext (and_iff_right rfl)
  · rfl
theorem xo_57  : (X S m).1 57 = co 3 [vr 58, vr 60, vr 61, vr 62, vr 63, vi (S 57 5)] := X_1 (by decide)
theorem x_g300_57  : wpB tb hs C Q J (.getfield 300 :: is) ls (vr 57 :: st) (X S m) = wpB tb hs C Q J is ls (vr 58 :: st) (X S m) := by
  rw [w_getf (xo_57) rfl]
  exact propext (and_iff_right rfl)
theorem x_g301_57  : wpB tb hs C Q J (.getfield 301 :: is) ls (vr 57 :: st) (X S m) = wpB tb hs C Q J is ls (vr 60 :: st) (X S m) := by
  rw [w_getf (xo_57) rfl]
  exact propext (and_iff_right rfl)
theorem x_g302_57  : wpB tb hs C Q J (.getfield 302 :: is) ls (vr 57 :: st) (X S m) = wpB tb hs C Q J is ls (vr 61 :: st) (X S m) := by
  rw [w_getf (xo_57) rfl]
  exact propext (and_iff_right rfl)
theorem x_g303_57  : wpB tb hs C Q J (.getfield 303 :: is) ls (vr 57 :: st) (X S m) = wpB tb hs C Q J is ls (vr 62 :: st) (X S m) := by
  rw [w_getf (xo_57) rfl]
  exact propext (and_iff_right rfl)
theorem x_g304_57  : wpB tb hs C Q J (.getfield 304 :: is) ls (vr 57 :: st) (X S m) = wpB tb hs C Q J is ls (vr 63 :: st) (X S m) := by
  rw [w_getf (xo_57) rfl]
  exact propext (and_iff_right rfl)
theorem x_g305_57  : wpB tb hs C Q J (.getfield 305 :: is) ls (vr 57 :: st) (X S m) = wpB tb hs C Q J is ls (vi (S 57 5) :: st) (X S m) := by
  rw [w_getf (xo_57) rfl]
  exact propext (and_iff_right rfl)
theorem x_p305_57 {v : Int}  : wpB tb hs C Q J (.putfield 305 :: is) ls (vi v :: vr 57 :: st) (X S m) = (wpB tb hs C Q J is ls st (X (upS S 57 5 v) m)) := by
  rw [w_putf (xo_57), X_set (r := fun j => if j = 5 then v else S 57 j) (by decide) ?_]
  · exact propext (and_iff_right rfl)
  · rfl
theorem xo_58  : (X S m).1 58 = co 7 [vr (S 58 0).toNat, vi (S 58 1), vi (S 58 2), vi (S 58 3), vi (S 58 4), vi (S 58 5), vi (S 58 6)] := X_1 (by decide)
theorem x_g700_58  : wpB tb hs C Q J (.getfield 700 :: is) ls (vr 58 :: st) (X S m) = wpB tb hs C Q J is ls (vr (S 58 0).toNat :: st) (X S m) := by
  rw [w_getf (xo_58) rfl]
  exact propext (and_iff_right rfl)
theorem x_p700_58 {v : Nat}  : wpB tb hs C Q J (.putstatic 700 :: is) ls (vr v :: vr 58 :: st) (X S m) = (wpB tb hs C Q J is ls st (X (upS S 58 0 (v : Int)) m)) := by
  rw [w_putr (xo_58), X_set (r := fun j => if j = 0 then (v : Int) else S 58 j) (by decide) ?_]
  · exact propext (and_iff_right rfl)
  · rfl
theorem x_g701_58  : wpB tb hs C Q J (.getfield 701 :: is) ls (vr 58 :: st) (X S m) = wpB tb hs C Q J is ls (vi (S 58 1) :: st) (X S m) := by
  rw [w_getf (xo_58) rfl]
  exact propext (and_iff_right rfl)
theorem x_p701_58 {v : Int}  : wpB tb hs C Q J (.putfield 701 :: is) ls (vi v :: vr 58 :: st) (X S m) = (wpB tb hs C Q J is ls st (X (upS S 58 1 v) m)) := by
  rw [w_putf (xo_58), X_set (r := fun j => if j = 1 then v else S 58 j) (by decide) ?_]
  · exact propext (and_iff_right rfl)
  · rfl
theorem x_g702_58  : wpB tb hs C Q J (.getfield 702 :: is) ls (vr 58 :: st) (X S m) = wpB tb hs C Q J is ls (vi (S 58 2) :: st) (X S m) := by
  rw [w_getf (xo_58) rfl]
  exact propext (and_iff_right rfl)
theorem x_p702_58 {v : Int}  : wpB tb hs C Q J (.putfield 702 :: is) ls (vi v :: vr 58 :: st) (X S m) = (wpB tb hs C Q J is ls st (X (upS S 58 2 v) m)) := by
  rw [w_putf (xo_58), X_set (r := fun j => if j = 2 then v else S 58 j) (by decide) ?_]
  · exact propext (and_iff_right rfl)
  · rfl
theorem x_g703_58  : wpB tb hs C Q J (.getfield 703 :: is) ls (vr 58 :: st) (X S m) = wpB tb hs C Q J is ls (vi (S 58 3) :: st) (X S m) := by
  rw [w_getf (xo_58) rfl]
  exact propext (and_iff_right rfl)
theorem x_p703_58 {v : Int}  : wpB tb hs C Q J (.putfield 703 :: is) ls (vi v :: vr 58 :: st) (X S m) = (wpB tb hs C Q J is ls st (X (upS S 58 3 v) m)) := by
  rw [w_putf (xo_58), X_set (r := fun j => if j = 3 then v else S 58 j) (by decide) ?_]
  · exact propext (and_iff_right rfl)
  · rfl
theorem x_g704_58  : wpB tb hs C Q J (.getfield 704 :: is) ls (vr 58 :: st) (X S m) = wpB tb hs C Q J is ls (vi (S 58 4) :: st) (X S m) := by
  rw [w_getf (xo_58) rfl]
  exact propext (and_iff_right rfl)
theorem x_p704_58 {v : Int}  : wpB tb hs C Q J (.putfield 704 :: is) ls (vi v :: vr 58 :: st) (X S m) = (wpB tb hs C Q J is ls st (X (upS S 58 4 v) m)) := by
  rw [w_putf (xo_58), X_set (r := fun j => if j = 4 then v else S 58 j) (by decide) ?_]
  · exact propext (and_iff_right rfl)
  · rfl
theorem x_g705_58  : wpB tb hs C Q J (.getfield 705 :: is) ls (vr 58 :: st) (X S m) = wpB tb hs C Q J is ls (vi (S 58 5) :: st) (X S m) := by
  rw [w_getf (xo_58) rfl]
  exact propext (and_iff_right rfl)
theorem x_p705_58 {v : Int}  : wpB tb hs C Q J (.putfield 705 :: is) ls (vi v :: vr 58 :: st) (X S m) = (wpB tb hs C Q J is ls st (X (upS S 58 5 v) m)) := by
  rw [w_putf (xo_58), X_set (r := fun j => if j = 5 then v else S 58 j) (by decide) ?_]
  · exact propext (and_iff_right rfl)
  · rfl
theorem x_g706_58  : wpB tb hs C Q J (.getfield 706 :: is) ls (vr 58 :: st) (X S m) = wpB tb hs C Q J is ls (vi (S 58 6) :: st) (X S m) := by
  rw [w_getf (xo_58) rfl]
  exact propext (and_iff_right rfl)
theorem x_p706_58 {v : Int}  : wpB tb hs C Q J (.putfield 706 :: is) ls (vi v :: vr 58 :: st) (X S m) = (wpB tb hs C Q J is ls st (X (upS S 58 6 v) m)) := by
  rw [w_putf (xo_58), X_set (r := fun j => if j = 6 then v else S 58 j) (by decide) ?_]
  · exact propext (and_iff_right rfl)
  · rfl
theorem xo_64  : (X S m).1 64 = co 5 [vr 65, vr 66, vi (S 64 2), vr 67, vr 68, vr 69, vi (S 64 6)] := X_1 (by decide)
theorem x_g500_64  : wpB tb hs C Q J (.getfield 500 :: is) ls (vr 64 :: st) (X S m) = wpB tb hs C Q J is ls (vr 65 :: st) (X S m) := by
  rw [w_getf (xo_64) rfl]
  exact propext (and_iff_right rfl)
theorem x_g501_64  : wpB tb hs C Q J (.getfield 501 :: is) ls (vr 64 :: st) (X S m) = wpB tb hs C Q J is ls (vr 66 :: st) (X S m) := by
  rw [w_getf (xo_64) rfl]
  exact propext (and_iff_right rfl)
theorem x_g502_64  : wpB tb hs C Q J (.getfield 502 :: is) ls (vr 64 :: st) (X S m) = wpB tb hs C Q J is ls (vi (S 64 2) :: st) (X S m) := by
  rw [w_getf (xo_64) rfl]
  exact propext (and_iff_right rfl)
theorem x_p502_64 {v : Int}  : wpB tb hs C Q J (.putfield 502 :: is) ls (vi v :: vr 64 :: st) (X S m) = (wpB tb hs C Q J is ls st (X (upS S 64 2 v) m)) := by
  rw [w_putf (xo_64), X_set (r := fun j => if j = 2 then v else S 64 j) (by decide) ?_]
  · exact propext (and_iff_right rfl)
  · rfl
theorem x_g503_64  : wpB tb hs C Q J (.getfield 503 :: is) ls (vr 64 :: st) (X S m) = wpB tb hs C Q J is ls (vr 67 :: st) (X S m) := by
  rw [w_getf (xo_64) rfl]
  exact propext (and_iff_right rfl)
theorem x_g504_64  : wpB tb hs C Q J (.getfield 504 :: is) ls (vr 64 :: st) (X S m) = wpB tb hs C Q J is ls (vr 68 :: st) (X S m) := by
  rw [w_getf (xo_64) rfl]
  exact propext (and_iff_right rfl)
theorem x_g505_64  : wpB tb hs C Q J (.getfield 505 :: is) ls (vr 64 :: st) (X S m) = wpB tb hs C Q J is ls (vr 69 :: st) (X S m) := by
  rw [w_getf (xo_64) rfl]
  exact propext (and_iff_right rfl)
theorem x_g506_64  : wpB tb hs C Q J (.getfield 506 :: is) ls (vr 64 :: st) (X S m) = wpB tb hs C Q J is ls (vi (S 64 6) :: st) (X S m) := by
  rw [w_getf (xo_64) rfl]
  exact propext (and_iff_right rfl)
theorem x_p506_64 {v : Int}  : wpB tb hs C Q J (.putfield 506 :: is) ls (vi v :: vr 64 :: st) (X S m) = (wpB tb hs C Q J is ls st (X (upS S 64 6 v) m)) := by
  rw [w_putf (xo_64), X_set (r := fun j => if j = 6 then v else S 64 j) (by decide) ?_]
  · exact propext (and_iff_right rfl)
  · rfl
theorem xo_70  : (X S m).1 70 = co 1 [vr 71, vr 88, vr 89, vr 90, vr 91, vr 92, vi (S 70 6)] := X_1 (by decide)
theorem x_g100_70  : wpB tb hs C Q J (.getfield 100 :: is) ls (vr 70 :: st) (X S m) = wpB tb hs C Q J is ls (vr 71 :: st) (X S m) := by
  rw [w_getf (xo_70) rfl]
  exact propext (and_iff_right rfl)
theorem x_g101_70  : wpB tb hs C Q J (.getfield 101 :: is) ls (vr 70 :: st) (X S m) = wpB tb hs C Q J is ls (vr 88 :: st) (X S m) := by
  rw [w_getf (xo_70) rfl]
  exact propext (and_iff_right rfl)
theorem x_g102_70  : wpB tb hs C Q J (.getfield 102 :: is) ls (vr 70 :: st) (X S m) = wpB tb hs C Q J is ls (vr 89 :: st) (X S m) := by
  rw [w_getf (xo_70) rfl]
  exact propext (and_iff_right rfl)
theorem x_g103_70  : wpB tb hs C Q J (.getfield 103 :: is) ls (vr 70 :: st) (X S m) = wpB tb hs C Q J is ls (vr 90 :: st) (X S m) := by
  rw [w_getf (xo_70) rfl]
  exact propext (and_iff_right rfl)
theorem x_g104_70  : wpB tb hs C Q J (.getfield 104 :: is) ls (vr 70 :: st) (X S m) = wpB tb hs C Q J is ls (vr 91 :: st) (X S m) := by
  rw [w_getf (xo_70) rfl]
  exact propext (and_iff_right rfl)
theorem x_g105_70  : wpB tb hs C Q J (.getfield 105 :: is) ls (vr 70 :: st) (X S m) = wpB tb hs C Q J is ls (vr 92 :: st) (X S m) := by
  rw [w_getf (xo_70) rfl]
  exact propext (and_iff_right rfl)
theorem x_g106_70  : wpB tb hs C Q J (.getfield 106 :: is) ls (vr 70 :: st) (X S m) = wpB tb hs C Q J is ls (vi (S 70 6) :: st) (X S m) := by
  rw [w_getf (xo_70) rfl]
  exact propext (and_iff_right rfl)
theorem x_p106_70 {v : Int}  : wpB tb hs C Q J (.putfield 106 :: is) ls (vi v :: vr 70 :: st) (X S m) = (wpB tb hs C Q J is ls st (X (upS S 70 6 v) m)) := by
  rw [w_putf (xo_70), X_set (r := fun j => if j = 6 then v else S 70 j) (by decide) ?_]
  · exact propext (and_iff_right rfl)
  · rfl
theorem xo_300  : (X S m).1 300 = co 10 [vi (S 300 0), vr 301, vr 302, vi (S 300 3), vr 303, vr 304, vi (S 300 6), vr 305, vi (S 300 8), vi (S 300 9), vi (S 300 10), vi (S 300 11), vi (S 300 12), vi (S 300 13), vr 306, vi (b1F (S 300 15)), vi (b1F (S 300 16)), vi (b1F (S 300 17)), vi (S 300 18), vi (S 300 19), vr 307, vr 308, vr 309, vr 310, vr 311, vr 312, vr 313, vr 314, vr 315] := X_1 (by decide)
theorem x_g1000_300  : wpB tb hs C Q J (.getfield 1000 :: is) ls (vr 300 :: st) (X S m) = wpB tb hs C Q J is ls (vi (S 300 0) :: st) (X S m) := by
  rw [w_getf (xo_300) rfl]
  exact propext (and_iff_right rfl)
theorem x_p1000_300 {v : Int}  : wpB tb hs C Q J (.putfield 1000 :: is) ls (vi v :: vr 300 :: st) (X S m) = (wpB tb hs C Q J is ls st (X (upS S 300 0 v) m)) := by
  rw [w_putf (xo_300), X_set (r := fun j => if j = 0 then v else S 300 j) (by decide) ?_]
  · exact propext (and_iff_right rfl)
  · rfl
theorem x_g1001_300  : wpB tb hs C Q J (.getfield 1001 :: is) ls (vr 300 :: st) (X S m) = wpB tb hs C Q J is ls (vr 301 :: st) (X S m) := by
  rw [w_getf (xo_300) rfl]
  exact propext (and_iff_right rfl)
theorem x_g1002_300  : wpB tb hs C Q J (.getfield 1002 :: is) ls (vr 300 :: st) (X S m) = wpB tb hs C Q J is ls (vr 302 :: st) (X S m) := by
  rw [w_getf (xo_300) rfl]
  exact propext (and_iff_right rfl)
theorem x_g1003_300  : wpB tb hs C Q J (.getfield 1003 :: is) ls (vr 300 :: st) (X S m) = wpB tb hs C Q J is ls (vi (S 300 3) :: st) (X S m) := by
  rw [w_getf (xo_300) rfl]
  exact propext (and_iff_right rfl)
theorem x_p1003_300 {v : Int}  : wpB tb hs C Q J (.dstore 1003 :: is) ls (vi v :: vr 300 :: st) (X S m) = ((v = 0 ∨ v = 1) ∧ wpB tb hs C Q J is ls st (X (upS S 300 3 v) m)) := by
  rw [w_putz (xo_300), X_set (r := fun j => if j = 3 then v else S 300 j) (by decide) ?_]
  · exact propext ⟨fun z => ⟨z.1.1, z.2⟩, fun z => ⟨⟨z.1, rfl⟩, z.2⟩⟩
  · rfl
theorem x_g1004_300  : wpB tb hs C Q J (.getfield 1004 :: is) ls (vr 300 :: st) (X S m) = wpB tb hs C Q J is ls (vr 303 :: st) (X S m) := by
  rw [w_getf (xo_300) rfl]
  exact propext (and_iff_right rfl)
theorem x_g1005_300  : wpB tb hs C Q J (.getfield 1005 :: is) ls (vr 300 :: st) (X S m) = wpB tb hs C Q J is ls (vr 304 :: st) (X S m) := by
  rw [w_getf (xo_300) rfl]
  exact propext (and_iff_right rfl)
theorem x_g1006_300  : wpB tb hs C Q J (.getfield 1006 :: is) ls (vr 300 :: st) (X S m) = wpB tb hs C Q J is ls (vi (S 300 6) :: st) (X S m) := by
  rw [w_getf (xo_300) rfl]
  exact propext (and_iff_right rfl)
theorem x_p1006_300 {v : Int}  : wpB tb hs C Q J (.putfield 1006 :: is) ls (vi v :: vr 300 :: st) (X S m) = (wpB tb hs C Q J is ls st (X (upS S 300 6 v) m)) := by
  rw [w_putf (xo_300), X_set (r := fun j => if j = 6 then v else S 300 j) (by decide) ?_]
  · exact propext (and_iff_right rfl)
  · rfl
theorem x_g1007_300  : wpB tb hs C Q J (.getfield 1007 :: is) ls (vr 300 :: st) (X S m) = wpB tb hs C Q J is ls (vr 305 :: st) (X S m) := by
  rw [w_getf (xo_300) rfl]
  exact propext (and_iff_right rfl)
theorem x_g1008_300  : wpB tb hs C Q J (.getfield 1008 :: is) ls (vr 300 :: st) (X S m) = wpB tb hs C Q J is ls (vi (S 300 8) :: st) (X S m) := by
  rw [w_getf (xo_300) rfl]
  exact propext (and_iff_right rfl)
theorem x_p1008_300 {v : Int}  : wpB tb hs C Q J (.putfield 1008 :: is) ls (vi v :: vr 300 :: st) (X S m) = (wpB tb hs C Q J is ls st (X (upS S 300 8 v) m)) := by
  rw [w_putf (xo_300), X_set (r := fun j => if j = 8 then v else S 300 j) (by decide) ?_]
  · exact propext (and_iff_right rfl)
  · rfl
theorem x_g1009_300  : wpB tb hs C Q J (.getfield 1009 :: is) ls (vr 300 :: st) (X S m) = wpB tb hs C Q J is ls (vi (S 300 9) :: st) (X S m) := by
  rw [w_getf (xo_300) rfl]
  exact propext (and_iff_right rfl)
theorem x_p1009_300 {v : Int}  : wpB tb hs C Q J (.putfield 1009 :: is) ls (vi v :: vr 300 :: st) (X S m) = (wpB tb hs C Q J is ls st (X (upS S 300 9 v) m)) := by
  rw [w_putf (xo_300), X_set (r := fun j => if j = 9 then v else S 300 j) (by decide) ?_]
  · exact propext (and_iff_right rfl)
  · rfl
theorem x_g1010_300  : wpB tb hs C Q J (.getfield 1010 :: is) ls (vr 300 :: st) (X S m) = wpB tb hs C Q J is ls (vi (S 300 10) :: st) (X S m) := by
  rw [w_getf (xo_300) rfl]
  exact propext (and_iff_right rfl)
theorem x_p1010_300 {v : Int}  : wpB tb hs C Q J (.putfield 1010 :: is) ls (vi v :: vr 300 :: st) (X S m) = (wpB tb hs C Q J is ls st (X (upS S 300 10 v) m)) := by
  rw [w_putf (xo_300), X_set (r := fun j => if j = 10 then v else S 300 j) (by decide) ?_]
  · exact propext (and_iff_right rfl)
  · rfl
theorem x_g1011_300  : wpB tb hs C Q J (.getfield 1011 :: is) ls (vr 300 :: st) (X S m) = wpB tb hs C Q J is ls (vi (S 300 11) :: st) (X S m) := by
  rw [w_getf (xo_300) rfl]
  exact propext (and_iff_right rfl)
theorem x_p1011_300 {v : Int}  : wpB tb hs C Q J (.putfield 1011 :: is) ls (vi v :: vr 300 :: st) (X S m) = (wpB tb hs C Q J is ls st (X (upS S 300 11 v) m)) := by
  rw [w_putf (xo_300), X_set (r := fun j => if j = 11 then v else S 300 j) (by decide) ?_]
  · exact propext (and_iff_right rfl)
  · rfl
theorem x_g1012_300  : wpB tb hs C Q J (.getfield 1012 :: is) ls (vr 300 :: st) (X S m) = wpB tb hs C Q J is ls (vi (S 300 12) :: st) (X S m) := by
  rw [w_getf (xo_300) rfl]
  exact propext (and_iff_right rfl)
theorem x_p1012_300 {v : Int}  : wpB tb hs C Q J (.putfield 1012 :: is) ls (vi v :: vr 300 :: st) (X S m) = (wpB tb hs C Q J is ls st (X (upS S 300 12 v) m)) := by
  rw [w_putf (xo_300), X_set (r := fun j => if j = 12 then v else S 300 j) (by decide) ?_]
  · exact propext (and_iff_right rfl)
  · rfl
theorem x_g1013_300  : wpB tb hs C Q J (.getfield 1013 :: is) ls (vr 300 :: st) (X S m) = wpB tb hs C Q J is ls (vi (S 300 13) :: st) (X S m) := by
  rw [w_getf (xo_300) rfl]
  exact propext (and_iff_right rfl)
theorem x_p1013_300 {v : Int}  : wpB tb hs C Q J (.putfield 1013 :: is) ls (vi v :: vr 300 :: st) (X S m) = (wpB tb hs C Q J is ls st (X (upS S 300 13 v) m)) := by
  rw [w_putf (xo_300), X_set (r := fun j => if j = 13 then v else S 300 j) (by decide) ?_]
  · exact propext (and_iff_right rfl)
  · rfl
theorem x_g1014_300  : wpB tb hs C Q J (.getfield 1014 :: is) ls (vr 300 :: st) (X S m) = wpB tb hs C Q J is ls (vr 306 :: st) (X S m) := by
  rw [w_getf (xo_300) rfl]
  exact propext (and_iff_right rfl)
theorem x_g1015_300  : wpB tb hs C Q J (.getfield 1015 :: is) ls (vr 300 :: st) (X S m) = wpB tb hs C Q J is ls (vi (b1F (S 300 15)) :: st) (X S m) := by
  rw [w_getf (xo_300) rfl]
  exact propext (and_iff_right rfl)
theorem x_g1016_300  : wpB tb hs C Q J (.getfield 1016 :: is) ls (vr 300 :: st) (X S m) = wpB tb hs C Q J is ls (vi (b1F (S 300 16)) :: st) (X S m) := by
  rw [w_getf (xo_300) rfl]
  exact propext (and_iff_right rfl)
theorem x_g1017_300  : wpB tb hs C Q J (.getfield 1017 :: is) ls (vr 300 :: st) (X S m) = wpB tb hs C Q J is ls (vi (b1F (S 300 17)) :: st) (X S m) := by
  rw [w_getf (xo_300) rfl]
  exact propext (and_iff_right rfl)
theorem x_g1018_300  : wpB tb hs C Q J (.getfield 1018 :: is) ls (vr 300 :: st) (X S m) = wpB tb hs C Q J is ls (vi (S 300 18) :: st) (X S m) := by
  rw [w_getf (xo_300) rfl]
  exact propext (and_iff_right rfl)
theorem x_p1018_300 {v : Int}  : wpB tb hs C Q J (.putfield 1018 :: is) ls (vi v :: vr 300 :: st) (X S m) = (wpB tb hs C Q J is ls st (X (upS S 300 18 v) m)) := by
  rw [w_putf (xo_300), X_set (r := fun j => if j = 18 then v else S 300 j) (by decide) ?_]
  · exact propext (and_iff_right rfl)
  · rfl
theorem x_g1019_300  : wpB tb hs C Q J (.getfield 1019 :: is) ls (vr 300 :: st) (X S m) = wpB tb hs C Q J is ls (vi (S 300 19) :: st) (X S m) := by
  rw [w_getf (xo_300) rfl]
  exact propext (and_iff_right rfl)
theorem x_p1019_300 {v : Int}  : wpB tb hs C Q J (.putfield 1019 :: is) ls (vi v :: vr 300 :: st) (X S m) = (wpB tb hs C Q J is ls st (X (upS S 300 19 v) m)) := by
  rw [w_putf (xo_300), X_set (r := fun j => if j = 19 then v else S 300 j) (by decide) ?_]
  · exact propext (and_iff_right rfl)
  · rfl
theorem x_g1020_300  : wpB tb hs C Q J (.getfield 1020 :: is) ls (vr 300 :: st) (X S m) = wpB tb hs C Q J is ls (vr 307 :: st) (X S m) := by
  rw [w_getf (xo_300) rfl]
  exact propext (and_iff_right rfl)
theorem x_g1021_300  : wpB tb hs C Q J (.getfield 1021 :: is) ls (vr 300 :: st) (X S m) = wpB tb hs C Q J is ls (vr 308 :: st) (X S m) := by
  rw [w_getf (xo_300) rfl]
  exact propext (and_iff_right rfl)
theorem x_g1022_300  : wpB tb hs C Q J (.getfield 1022 :: is) ls (vr 300 :: st) (X S m) = wpB tb hs C Q J is ls (vr 309 :: st) (X S m) := by
  rw [w_getf (xo_300) rfl]
  exact propext (and_iff_right rfl)
theorem x_g1023_300  : wpB tb hs C Q J (.getfield 1023 :: is) ls (vr 300 :: st) (X S m) = wpB tb hs C Q J is ls (vr 310 :: st) (X S m) := by
  rw [w_getf (xo_300) rfl]
  exact propext (and_iff_right rfl)
theorem x_g1024_300  : wpB tb hs C Q J (.getfield 1024 :: is) ls (vr 300 :: st) (X S m) = wpB tb hs C Q J is ls (vr 311 :: st) (X S m) := by
  rw [w_getf (xo_300) rfl]
  exact propext (and_iff_right rfl)
theorem x_g1025_300  : wpB tb hs C Q J (.getfield 1025 :: is) ls (vr 300 :: st) (X S m) = wpB tb hs C Q J is ls (vr 312 :: st) (X S m) := by
  rw [w_getf (xo_300) rfl]
  exact propext (and_iff_right rfl)
theorem x_g1026_300  : wpB tb hs C Q J (.getfield 1026 :: is) ls (vr 300 :: st) (X S m) = wpB tb hs C Q J is ls (vr 313 :: st) (X S m) := by
  rw [w_getf (xo_300) rfl]
  exact propext (and_iff_right rfl)
theorem x_g1027_300  : wpB tb hs C Q J (.getfield 1027 :: is) ls (vr 300 :: st) (X S m) = wpB tb hs C Q J is ls (vr 314 :: st) (X S m) := by
  rw [w_getf (xo_300) rfl]
  exact propext (and_iff_right rfl)
theorem x_g1028_300  : wpB tb hs C Q J (.getfield 1028 :: is) ls (vr 300 :: st) (X S m) = wpB tb hs C Q J is ls (vr 315 :: st) (X S m) := by
  rw [w_getf (xo_300) rfl]
  exact propext (and_iff_right rfl)
theorem xo_w0 (hw : isW w) : (X S m).1 w = co 8 [vi (S w 0), vr (w + 1), vr (w + 2), vr (w + 3), vi (S w 4), vr (w + 4), vr (w + 5), vr (w + 6), vr (w + 7), vr (w + 8), vr (w + 9), vr (w + 13), vr (w + 15), vi (S w 13), vi (S w 14), lv (S w 15), vr (w + 16)] := show (X S m).1 w = _ from (X_1 (by have := isW_lt hw; omega)).trans (cX_w (k := 0) hw (by decide) _)
theorem x_g800_w0 (hw : isW w) : wpB tb hs C Q J (.getfield 800 :: is) ls (vr w :: st) (X S m) = wpB tb hs C Q J is ls (vi (S w 0) :: st) (X S m) := by
  rw [w_getf (xo_w0 hw) rfl]
  exact propext (and_iff_right rfl)
theorem x_p800_w0 {v : Int} (hw : isW w) : wpB tb hs C Q J (.putfield 800 :: is) ls (vi v :: vr w :: st) (X S m) = (wpB tb hs C Q J is ls st (X (upS S w 0 v) m)) := by
  rw [w_putf (xo_w0 hw), X_set (r := fun j => if j = 0 then v else S w j) (by have := isW_lt hw; omega) ?_]
  · exact propext (and_iff_right rfl)
  · rw [show cX w _ = _ from cX_w (k := 0) hw (by decide) _]
    rfl
theorem x_g801_w0 (hw : isW w) : wpB tb hs C Q J (.getfield 801 :: is) ls (vr w :: st) (X S m) = wpB tb hs C Q J is ls (vr (w + 1) :: st) (X S m) := by
  rw [w_getf (xo_w0 hw) rfl]
  exact propext (and_iff_right rfl)
theorem x_g802_w0 (hw : isW w) : wpB tb hs C Q J (.getfield 802 :: is) ls (vr w :: st) (X S m) = wpB tb hs C Q J is ls (vr (w + 2) :: st) (X S m) := by
  rw [w_getf (xo_w0 hw) rfl]
  exact propext (and_iff_right rfl)
theorem x_g803_w0 (hw : isW w) : wpB tb hs C Q J (.getfield 803 :: is) ls (vr w :: st) (X S m) = wpB tb hs C Q J is ls (vr (w + 3) :: st) (X S m) := by
  rw [w_getf (xo_w0 hw) rfl]
  exact propext (and_iff_right rfl)
theorem x_g804_w0 (hw : isW w) : wpB tb hs C Q J (.getfield 804 :: is) ls (vr w :: st) (X S m) = wpB tb hs C Q J is ls (vi (S w 4) :: st) (X S m) := by
  rw [w_getf (xo_w0 hw) rfl]
  exact propext (and_iff_right rfl)
theorem x_p804_w0 {v : Int} (hw : isW w) : wpB tb hs C Q J (.putfield 804 :: is) ls (vi v :: vr w :: st) (X S m) = (wpB tb hs C Q J is ls st (X (upS S w 4 v) m)) := by
  rw [w_putf (xo_w0 hw), X_set (r := fun j => if j = 4 then v else S w j) (by have := isW_lt hw; omega) ?_]
  · exact propext (and_iff_right rfl)
  · rw [show cX w _ = _ from cX_w (k := 0) hw (by decide) _]
    rfl
theorem x_g805_w0 (hw : isW w) : wpB tb hs C Q J (.getfield 805 :: is) ls (vr w :: st) (X S m) = wpB tb hs C Q J is ls (vr (w + 4) :: st) (X S m) := by
  rw [w_getf (xo_w0 hw) rfl]
  exact propext (and_iff_right rfl)
theorem x_g806_w0 (hw : isW w) : wpB tb hs C Q J (.getfield 806 :: is) ls (vr w :: st) (X S m) = wpB tb hs C Q J is ls (vr (w + 5) :: st) (X S m) := by
  rw [w_getf (xo_w0 hw) rfl]
  exact propext (and_iff_right rfl)
theorem x_g807_w0 (hw : isW w) : wpB tb hs C Q J (.getfield 807 :: is) ls (vr w :: st) (X S m) = wpB tb hs C Q J is ls (vr (w + 6) :: st) (X S m) := by
  rw [w_getf (xo_w0 hw) rfl]
  exact propext (and_iff_right rfl)
theorem x_g808_w0 (hw : isW w) : wpB tb hs C Q J (.getfield 808 :: is) ls (vr w :: st) (X S m) = wpB tb hs C Q J is ls (vr (w + 7) :: st) (X S m) := by
  rw [w_getf (xo_w0 hw) rfl]
  exact propext (and_iff_right rfl)
theorem x_g809_w0 (hw : isW w) : wpB tb hs C Q J (.getfield 809 :: is) ls (vr w :: st) (X S m) = wpB tb hs C Q J is ls (vr (w + 8) :: st) (X S m) := by
  rw [w_getf (xo_w0 hw) rfl]
  exact propext (and_iff_right rfl)
theorem x_g810_w0 (hw : isW w) : wpB tb hs C Q J (.getfield 810 :: is) ls (vr w :: st) (X S m) = wpB tb hs C Q J is ls (vr (w + 9) :: st) (X S m) := by
  rw [w_getf (xo_w0 hw) rfl]
  exact propext (and_iff_right rfl)
theorem x_g811_w0 (hw : isW w) : wpB tb hs C Q J (.getfield 811 :: is) ls (vr w :: st) (X S m) = wpB tb hs C Q J is ls (vr (w + 13) :: st) (X S m) := by
  rw [w_getf (xo_w0 hw) rfl]
  exact propext (and_iff_right rfl)
theorem x_g812_w0 (hw : isW w) : wpB tb hs C Q J (.getfield 812 :: is) ls (vr w :: st) (X S m) = wpB tb hs C Q J is ls (vr (w + 15) :: st) (X S m) := by
  rw [w_getf (xo_w0 hw) rfl]
  exact propext (and_iff_right rfl)
theorem x_g813_w0 (hw : isW w) : wpB tb hs C Q J (.getfield 813 :: is) ls (vr w :: st) (X S m) = wpB tb hs C Q J is ls (vi (S w 13) :: st) (X S m) := by
  rw [w_getf (xo_w0 hw) rfl]
  exact propext (and_iff_right rfl)
theorem x_p813_w0 {v : Int} (hw : isW w) : wpB tb hs C Q J (.putfield 813 :: is) ls (vi v :: vr w :: st) (X S m) = (wpB tb hs C Q J is ls st (X (upS S w 13 v) m)) := by
  rw [w_putf (xo_w0 hw), X_set (r := fun j => if j = 13 then v else S w j) (by have := isW_lt hw; omega) ?_]
  · exact propext (and_iff_right rfl)
  · rw [show cX w _ = _ from cX_w (k := 0) hw (by decide) _]
    rfl
theorem x_g814_w0 (hw : isW w) : wpB tb hs C Q J (.getfield 814 :: is) ls (vr w :: st) (X S m) = wpB tb hs C Q J is ls (vi (S w 14) :: st) (X S m) := by
  rw [w_getf (xo_w0 hw) rfl]
  exact propext (and_iff_right rfl)
theorem x_p814_w0 {v : Int} (hw : isW w) : wpB tb hs C Q J (.putfield 814 :: is) ls (vi v :: vr w :: st) (X S m) = (wpB tb hs C Q J is ls st (X (upS S w 14 v) m)) := by
  rw [w_putf (xo_w0 hw), X_set (r := fun j => if j = 14 then v else S w j) (by have := isW_lt hw; omega) ?_]
  · exact propext (and_iff_right rfl)
  · rw [show cX w _ = _ from cX_w (k := 0) hw (by decide) _]
    rfl
theorem x_g815_w0 (hw : isW w) : wpB tb hs C Q J (.getfield 815 :: is) ls (vr w :: st) (X S m) = wpB tb hs C Q J is ls (lv (S w 15) :: st) (X S m) := by
  rw [w_getf (xo_w0 hw) rfl]
  exact propext (and_iff_right rfl)
theorem x_p815n_w0  (hw : isW w) : wpB tb hs C Q J (.putstatic 815 :: is) ls (vn :: vr w :: st) (X S m) = (wpB tb hs C Q J is ls st (X (upS S w 15 (-1)) m)) := by
  rw [w_putr (xo_w0 hw), X_set (r := fun j => if j = 15 then (-1) else S w j) (by have := isW_lt hw; omega) ?_]
  · exact propext (and_iff_right rfl)
  · rw [show cX w _ = _ from cX_w (k := 0) hw (by decide) _]
    rfl
theorem x_p815r_w0 {v : Nat} (hw : isW w) : wpB tb hs C Q J (.putstatic 815 :: is) ls (vr v :: vr w :: st) (X S m) = (wpB tb hs C Q J is ls st (X (upS S w 15 (v : Int)) m)) := by
  rw [w_putr (xo_w0 hw), X_set (r := fun j => if j = 15 then (v : Int) else S w j) (by have := isW_lt hw; omega) ?_]
  · exact propext (and_iff_right rfl)
  · rw [show cX w _ = _ from cX_w (k := 0) hw (by decide) _]
    rfl
theorem x_g816_w0 (hw : isW w) : wpB tb hs C Q J (.getfield 816 :: is) ls (vr w :: st) (X S m) = wpB tb hs C Q J is ls (vr (w + 16) :: st) (X S m) := by
  rw [w_getf (xo_w0 hw) rfl]
  exact propext (and_iff_right rfl)
theorem xo_w9 (hw : isW w) : (X S m).1 (w + 9) = co 0 [vi (S (w + 9) 0), vr (w + 10), vr (w + 11), vr (w + 12)] := show (X S m).1 (w + 9) = _ from (X_1 (by have := isW_lt hw; omega)).trans (cX_w hw (by decide) _)
theorem x_g0_w9 (hw : isW w) : wpB tb hs C Q J (.getfield 0 :: is) ls (vr (w + 9) :: st) (X S m) = wpB tb hs C Q J is ls (vi (S (w + 9) 0) :: st) (X S m) := by
  rw [w_getf (xo_w9 hw) rfl]
  exact propext (and_iff_right rfl)
theorem x_p0_w9 {v : Int} (hw : isW w) : wpB tb hs C Q J (.putfield 0 :: is) ls (vi v :: vr (w + 9) :: st) (X S m) = (wpB tb hs C Q J is ls st (X (upS S (w + 9) 0 v) m)) := by
  rw [w_putf (xo_w9 hw), X_set (r := fun j => if j = 0 then v else S (w + 9) j) (by have := isW_lt hw; omega) ?_]
  · exact propext (and_iff_right rfl)
  · rw [show cX (w + 9) _ = _ from cX_w hw (by decide) _]
    rfl
theorem x_g1_w9 (hw : isW w) : wpB tb hs C Q J (.getfield 1 :: is) ls (vr (w + 9) :: st) (X S m) = wpB tb hs C Q J is ls (vr (w + 10) :: st) (X S m) := by
  rw [w_getf (xo_w9 hw) rfl]
  exact propext (and_iff_right rfl)
theorem x_g2_w9 (hw : isW w) : wpB tb hs C Q J (.getfield 2 :: is) ls (vr (w + 9) :: st) (X S m) = wpB tb hs C Q J is ls (vr (w + 11) :: st) (X S m) := by
  rw [w_getf (xo_w9 hw) rfl]
  exact propext (and_iff_right rfl)
theorem x_g3_w9 (hw : isW w) : wpB tb hs C Q J (.getfield 3 :: is) ls (vr (w + 9) :: st) (X S m) = wpB tb hs C Q J is ls (vr (w + 12) :: st) (X S m) := by
  rw [w_getf (xo_w9 hw) rfl]
  exact propext (and_iff_right rfl)
theorem xo_w13 (hw : isW w) : (X S m).1 (w + 13) = co 4 [vi (S (w + 13) 0), vr (w + 14)] := show (X S m).1 (w + 13) = _ from (X_1 (by have := isW_lt hw; omega)).trans (cX_w hw (by decide) _)
theorem x_g400_w13 (hw : isW w) : wpB tb hs C Q J (.getfield 400 :: is) ls (vr (w + 13) :: st) (X S m) = wpB tb hs C Q J is ls (vi (S (w + 13) 0) :: st) (X S m) := by
  rw [w_getf (xo_w13 hw) rfl]
  exact propext (and_iff_right rfl)
theorem x_p400_w13 {v : Int} (hw : isW w) : wpB tb hs C Q J (.putfield 400 :: is) ls (vi v :: vr (w + 13) :: st) (X S m) = (wpB tb hs C Q J is ls st (X (upS S (w + 13) 0 v) m)) := by
  rw [w_putf (xo_w13 hw), X_set (r := fun j => if j = 0 then v else S (w + 13) j) (by have := isW_lt hw; omega) ?_]
  · exact propext (and_iff_right rfl)
  · rw [show cX (w + 13) _ = _ from cX_w hw (by decide) _]
    rfl
theorem x_g401_w13 (hw : isW w) : wpB tb hs C Q J (.getfield 401 :: is) ls (vr (w + 13) :: st) (X S m) = wpB tb hs C Q J is ls (vr (w + 14) :: st) (X S m) := by
  rw [w_getf (xo_w13 hw) rfl]
  exact propext (and_iff_right rfl)
theorem x_p1015_300 {v : Int}  : wpB tb hs C Q J (.dstore 1015 :: is) ls (vi v :: vr 300 :: st) (X S m) = ((v = 0 ∨ v = 1) ∧ wpB tb hs C Q J is ls st (X (upS S 300 15 v) m)) := by
  by_cases hv : v = 0 ∨ v = 1
  · rw [w_putz (xo_300)]
    rcases hv with hv | hv
    · subst hv
      rw [X_set (r := fun j => if j = 15 then 0 else S 300 j) (by decide) ?_]
      · exact propext ⟨fun z => ⟨z.1.1, z.2⟩, fun z => ⟨⟨z.1, rfl⟩, z.2⟩⟩
      · rfl
    · subst hv
      rw [X_set (r := fun j => if j = 15 then 1 else S 300 j) (by decide) ?_]
      · exact propext ⟨fun z => ⟨z.1.1, z.2⟩, fun z => ⟨⟨z.1, rfl⟩, z.2⟩⟩
      · rfl
  · rw [w_putz (xo_300)]
    exact propext ⟨fun z => absurd z.1.1 hv, fun z => absurd z.1 hv⟩
theorem x_p1016_300 {v : Int}  : wpB tb hs C Q J (.dstore 1016 :: is) ls (vi v :: vr 300 :: st) (X S m) = ((v = 0 ∨ v = 1) ∧ wpB tb hs C Q J is ls st (X (upS S 300 16 v) m)) := by
  by_cases hv : v = 0 ∨ v = 1
  · rw [w_putz (xo_300)]
    rcases hv with hv | hv
    · subst hv
      rw [X_set (r := fun j => if j = 16 then 0 else S 300 j) (by decide) ?_]
      · exact propext ⟨fun z => ⟨z.1.1, z.2⟩, fun z => ⟨⟨z.1, rfl⟩, z.2⟩⟩
      · rfl
    · subst hv
      rw [X_set (r := fun j => if j = 16 then 1 else S 300 j) (by decide) ?_]
      · exact propext ⟨fun z => ⟨z.1.1, z.2⟩, fun z => ⟨⟨z.1, rfl⟩, z.2⟩⟩
      · rfl
  · rw [w_putz (xo_300)]
    exact propext ⟨fun z => absurd z.1.1 hv, fun z => absurd z.1 hv⟩
theorem x_p1017_300 {v : Int}  : wpB tb hs C Q J (.dstore 1017 :: is) ls (vi v :: vr 300 :: st) (X S m) = ((v = 0 ∨ v = 1) ∧ wpB tb hs C Q J is ls st (X (upS S 300 17 v) m)) := by
  by_cases hv : v = 0 ∨ v = 1
  · rw [w_putz (xo_300)]
    rcases hv with hv | hv
    · subst hv
      rw [X_set (r := fun j => if j = 17 then 0 else S 300 j) (by decide) ?_]
      · exact propext ⟨fun z => ⟨z.1.1, z.2⟩, fun z => ⟨⟨z.1, rfl⟩, z.2⟩⟩
      · rfl
    · subst hv
      rw [X_set (r := fun j => if j = 17 then 1 else S 300 j) (by decide) ?_]
      · exact propext ⟨fun z => ⟨z.1.1, z.2⟩, fun z => ⟨⟨z.1, rfl⟩, z.2⟩⟩
      · rfl
  · rw [w_putz (xo_300)]
    exact propext ⟨fun z => absurd z.1.1 hv, fun z => absurd z.1 hv⟩
end XRules
