/-! ===== THE REFERENCE: a law's conditions ===== -/
/-- what a law's condition tells: codes, run on a stack -/
def stpL (fc : Int → Int) (c : Int) (st : List Int) : List Int := if c < 1000 then c :: st else if c < 2000 then fc (c - 1000) :: st else match st with
  | x :: r => if c = 2000 then (1 - x) :: r else match r with
    | y :: q => (if c = 2001 then (if y = 1 ∧ x = 1 then 1 else 0) else if c = 2002 then (if y = 1 ∨ x = 1 then 1 else 0) else if c = 2003 then y + x else if c = 2004 then (if y < x then 1 else 0) else (if x < y then 1 else 0)) :: q
    | [] => st
  | [] => st
def runL (fc : Int → Int) : List Int → List Int → List Int
  | [], st => st
  | c :: l, st => runL fc l (stpL fc c st)
theorem runL_app {fc : Int → Int} : ∀ (c d st : List Int), runL fc (c ++ d) st = runL fc d (runL fc c st)
  | [], d, st => rfl
  | x :: c, d, st => runL_app c d (stpL fc x st)
def isV (fc : Int → Int) (c : List Int) (v : Int) : Prop := ∀ st, runL fc c st = v :: st
theorem isV_num {fc : Int → Int} {x : Int} (h : x < 1000) : isV fc [x] x := fun st => by
  show runL fc [] (stpL fc x st) = _
  unfold stpL
  rw [if_pos h]
  rfl
theorem isV_fact {fc : Int → Int} {x : Int} (h : 0 ≤ x ∧ x < 1000) : isV fc [1000 + x] (fc x) := fun st => by
  show runL fc [] (stpL fc (1000 + x) st) = _
  unfold stpL
  rw [if_neg (by omega), if_pos (by omega), show 1000 + x - 1000 = x by omega]
  rfl
theorem isV_2 {fc : Int → Int} {c d : List Int} {x y : Int} (hc : isV fc c y) (hd : isV fc d x) (k : Int) (hk : 2001 ≤ k) : ∀ st, runL fc (c ++ d ++ [k]) st = (if k = 2001 then (if y = 1 ∧ x = 1 then 1 else 0) else if k = 2002 then (if y = 1 ∨ x = 1 then 1 else 0) else if k = 2003 then y + x else if k = 2004 then (if y < x then 1 else 0) else (if x < y then 1 else 0)) :: st := fun st => by
  rw [runL_app, runL_app, hc st, hd (y :: st)]
  show stpL fc k (x :: y :: st) = _
  unfold stpL
  rw [if_neg (by omega), if_neg (by omega)]
  show (if k = 2000 then _ else _) = _
  rw [if_neg (by omega)]
theorem isV_plus {fc : Int → Int} {c d : List Int} {x y : Int} (hc : isV fc c y) (hd : isV fc d x) : isV fc (c ++ d ++ [2003]) (y + x) := fun st => by rw [isV_2 hc hd 2003 (by decide) st]; rfl
theorem isV_and {fc : Int → Int} {c d : List Int} {x y : Int} (hc : isV fc c y) (hd : isV fc d x) : isV fc (c ++ d ++ [2001]) (if y = 1 ∧ x = 1 then 1 else 0) := fun st => by rw [isV_2 hc hd 2001 (by decide) st]; rfl
theorem isV_or {fc : Int → Int} {c d : List Int} {x y : Int} (hc : isV fc c y) (hd : isV fc d x) : isV fc (c ++ d ++ [2002]) (if y = 1 ∨ x = 1 then 1 else 0) := fun st => by rw [isV_2 hc hd 2002 (by decide) st]; rfl
theorem isV_less {fc : Int → Int} {c d : List Int} {x y : Int} (hc : isV fc c y) (hd : isV fc d x) : isV fc (c ++ d ++ [2004]) (if y < x then 1 else 0) := fun st => by rw [isV_2 hc hd 2004 (by decide) st]; rfl
theorem isV_more {fc : Int → Int} {c d : List Int} {x y : Int} (hc : isV fc c y) (hd : isV fc d x) : isV fc (c ++ d ++ [2005]) (if x < y then 1 else 0) := fun st => by rw [isV_2 hc hd 2005 (by decide) st]; rfl
theorem isV_not {fc : Int → Int} {c : List Int} {x : Int} (hc : isV fc c x) : isV fc (c ++ [2000]) (1 - x) := fun st => by
  rw [runL_app, hc st]
  show stpL fc 2000 (x :: st) = _
  rfl
abbrev LCs : Type := List Int
/-- a sign stands there -/
def sgP (t : Int → Int) (n b c : Int) : Prop := b < n ∧ t b = c
noncomputable def iteP {α : Type} (p : Prop) (x y : α) : α := @ite _ p (Classical.propDecidable _) x y
theorem iteP_y {α : Type} {p : Prop} {x y : α} (h : p) : iteP p x y = x := if_pos h
theorem iteP_n {α : Type} {p : Prop} {x y : α} (h : ¬ p) : iteP p x y = y := if_neg h
noncomputable def parP (t : Int → Int) (n b : Int) : PR LCs :=
  iteP (b < n ∧ 48 ≤ t b ∧ t b ≤ 57) (bnd (numP t n 0 999 b) fun v e => .inr ([v], e)) <| wdI t n b 22 (.inr ([1000 + 0], b + (strB 22).length)) <| wdI t n b 0 (.inr ([1000 + 1], b + (strB 0).length)) <| wdI t n b 1 (.inr ([1000 + 2], b + (strB 1).length)) <| wdI t n b 3 (.inr ([1000 + 3], b + (strB 3).length)) <| wdI t n b 23 (.inr ([1000 + 4], b + (strB 23).length)) <| wdI t n b 24 (.inr ([1000 + 5], b + (strB 24).length)) <| wdI t n b 11 (.inr ([1000 + 6], b + (strB 11).length)) <| .inl b
/-- more of the same kind -/
noncomputable def morP (q : Int → Option Int) (A : Int → PR LCs) (k : Int) (t : Int → Int) (n : Int) : Nat → LCs → Int → PR LCs
  | 0, c, a => .inr (c, skp t n a)
  | j + 1, c, a => match q (skp t n a) with
    | none => .inr (c, skp t n a)
    | some e => bnd (A e) fun c2 e2 => morP q A k t n j (c ++ c2 ++ [k]) e2
noncomputable def qSg (t : Int → Int) (n c : Int) (b : Int) : Option Int := iteP (sgP t n b c) (some (b + 1)) none
noncomputable def qWd (t : Int → Int) (n : Int) (k : Nat) (b : Int) : Option Int := wdI t n b k (some (b + (strB k).length)) none
noncomputable def sumP (t : Int → Int) (n a : Int) : PR LCs := bnd (parP t n (skp t n a)) fun c e => morP (qSg t n 43) (fun e => parP t n (skp t n e)) 2003 t n 401 c e
noncomputable def cmpP (t : Int → Int) (n b : Int) : PR LCs := bnd (sumP t n b) fun c e => iteP (sgP t n (skp t n e) 60) (bnd (sumP t n (skp t n e + 1)) fun c2 e2 => .inr (c ++ c2 ++ [2004], e2)) <| iteP (sgP t n (skp t n e) 62) (bnd (sumP t n (skp t n e + 1)) fun c2 e2 => .inr (c ++ c2 ++ [2005], e2)) <| .inl (skp t n e)
noncomputable def plaP (t : Int → Int) (n b : Int) : PR LCs :=
  wdI t n b 19 (.inr ([1000 + 7], b + (strB 19).length)) <| wdI t n b 20 (.inr ([1000 + 8], b + (strB 20).length)) <| wdI t n b 21 (.inr ([1000 + 9], b + (strB 21).length)) <| cmpP t n b
noncomputable def evyP (A : Int → PR LCs) (t : Int → Int) (n a : Int) : PR LCs := bnd (A a) fun c e => morP (qWd t n 25) A 2001 t n 401 c e
noncomputable def somP (A : Int → PR LCs) (t : Int → Int) (n a : Int) : PR LCs := bnd (evyP A t n a) fun c e => morP (qWd t n 26) (evyP A t n) 2002 t n 401 c e
/-- one condition, k nests left -/
noncomputable def atmP (t : Int → Int) (n : Int) : Nat → Int → PR LCs
  | 0, a => wdI t n (skp t n a) 18 (.inl (skp t n a)) <| iteP (sgP t n (skp t n a) 40) (.inl (skp t n a)) <| plaP t n (skp t n a)
  | k + 1, a => wdI t n (skp t n a) 18 (bnd (atmP t n k (skp t n a + (strB 18).length)) fun c e => .inr (c ++ [2000], e)) <| iteP (sgP t n (skp t n a) 40) (bnd (somP (atmP t n k) t n (skp t n a + 1)) fun c e => iteP (sgP t n (skp t n e) 41) (.inr (c, skp t n e + 1)) (.inl (skp t n e))) <| plaP t n (skp t n a)
/-- the facts, as the reference holds them -/
def fcS (S : Nat → Int → Int) : Int → Int := fun j => if j < 0 ∨ 9 < j then 0 else if j < 7 then c1F (S 306 j) else if j = 7 then b1F (S 300 15) else if j = 8 then b1F (S 300 16) else b1F (S 300 17)
theorem fcS_t {S : Nat → Int → Int} {a f : Int} : fcS (tS S a f) = fcS S := rfl
/-- a part of a text was read: what comes of it -/
def okR (P : PR LCs) (S : Nat → Int → Int) (n lo B x : Int) (m : AM) (K : Out → AM → Prop) : Prop := (∀ c e v, P = .inr (c, e) → isV (fcS S) c v → -B ≤ v → v ≤ B → (B = 1 → 0 ≤ v) → lo < e → e ≤ n → K (.inl (some (vi v))) (X (tS S e (-1)) m)) ∧ (∀ e b v, P = .inl b → -B ≤ v → v ≤ B → (B = 1 → 0 ≤ v) → 0 ≤ e → e ≤ 1000 + x → 0 ≤ b → b ≤ 1000 → K (.inl (some (vi v))) (X (tS S e b) m))
theorem wdG {t : Int → Int} {n b : Int} {k : Nat} (hb : b ≤ n) (y : wdP t n b (strB k)) (hk : 0 < (strB k).length) : b < b + (strB k).length ∧ b + (strB k).length ≤ n := by
  have := wd_n hb y
  omega
theorem strB_l : ∀ k, k < 39 → 0 < (strB k).length := by decide
section mor
variable {q : Int → Option Int} {A : Int → PR LCs} {k : Int} {t : Int → Int} {n c e e2 b i : Int} {L c2 : LCs}
theorem morP_e (h : q (skp t n c) = none) : ∀ j : Nat, morP q A k t n j L c = .inr (L, skp t n c)
  | 0 => rfl
  | j + 1 => by
    show (match q (skp t n c) with | none => _ | some e => _) = _
    rw [h]
theorem morP_b (hi : i < 401) (h : q (skp t n c) = some e) (z : A e = .inl b) : morP q A k t n (401 - i).toNat L c = .inl b := by
  rw [show (401 - i).toNat = (401 - (i + 1)).toNat + 1 by omega]
  show (match q (skp t n c) with | none => _ | some e => bnd (A e) _) = _
  rw [h]
  show bnd (A e) _ = _
  rw [z]
  rfl
theorem morP_c (hi : i < 401) (h : q (skp t n c) = some e) (z : A e = .inr (c2, e2)) : morP q A k t n (401 - i).toNat L c = morP q A k t n (401 - (i + 1)).toNat (L ++ c2 ++ [k]) e2 := by
  rw [show (401 - i).toNat = (401 - (i + 1)).toNat + 1 by omega]
  show (match q (skp t n c) with | none => _ | some e => bnd (A e) _) = _
  rw [h]
  show bnd (A e) _ = _
  rw [z]
  rfl
theorem qSg_y (h : sgP t n b c) : qSg t n c b = some (b + 1) := iteP_y h
theorem qSg_n (h : ¬ sgP t n b c) : qSg t n c b = none := iteP_n h
theorem qWd_y {j : Nat} (h : wdP t n b (strB j)) : qWd t n j b = some (b + (strB j).length) := wdI_y h
theorem qWd_n {j : Nat} (h : ¬ wdP t n b (strB j)) : qWd t n j b = none := wdI_n h
end mor
theorem q_222s {tb : Tab} {d : Nat} {m : AM} {K : Out → AM → Prop} {S : Nat → Int → Int} {a f : Int} {t : Int → Int} {n c : Int} (hT : TX t n S) (ha : 0 ≤ a ∧ a ≤ 1000) (hc : R32 c) (hY : sgP t n (skp t n a) c → K (.inl (some (vi 1))) (X (tS S (skp t n a) f) m)) (hN : ¬ sgP t n (skp t n a) c → K (.inl (some (vi 0))) (X (tS S (skp t n a) f) m)) : Runs tb pg (d + 3) 222 [vr 300, vi c] (X (tS S a f) m) K := by
  refine q_222 hT ha hc (fun r b e y => ?_)
  subst e
  rcases y with ⟨y1, y2⟩ | ⟨y1, y2⟩
  · subst y1; exact hY y2
  · subst y1; exact hN y2
theorem okR_i {P : PR LCs} {S : Nat → Int → Int} {n lo B x : Int} {m : AM} {K : Out → AM → Prop} (h1 : ∀ c e v, P = .inr (c, e) → isV (fcS S) c v → -B ≤ v → v ≤ B → (B = 1 → 0 ≤ v) → lo < e → e ≤ n → K (.inl (some (vi v))) (X (tS S e (-1)) m)) (h2 : ∀ e b v, P = .inl b → -B ≤ v → v ≤ B → (B = 1 → 0 ≤ v) → 0 ≤ e → e ≤ 1000 + x → 0 ≤ b → b ≤ 1000 → K (.inl (some (vi v))) (X (tS S e b) m)) : okR P S n lo B x m K := ⟨h1, h2⟩
section cmp
variable {t : Int → Int} {n b e e2 f : Int} {c c2 : LCs}
theorem cmpP_0 (y : sumP t n b = .inl f) : cmpP t n b = .inl f := by unfold cmpP; rw [y]; rfl
theorem cmpP_s (y : sumP t n b = .inr (c, e)) : cmpP t n b = iteP (sgP t n (skp t n e) 60) (bnd (sumP t n (skp t n e + 1)) fun c2 e2 => .inr (c ++ c2 ++ [2004], e2)) (iteP (sgP t n (skp t n e) 62) (bnd (sumP t n (skp t n e + 1)) fun c2 e2 => .inr (c ++ c2 ++ [2005], e2)) (.inl (skp t n e))) := by unfold cmpP; rw [y]; rfl
theorem cmpP_1 (y : sumP t n b = .inr (c, e)) (s : sgP t n (skp t n e) 60) (z : sumP t n (skp t n e + 1) = .inl f) : cmpP t n b = .inl f := by rw [cmpP_s y, iteP_y s, z]; rfl
theorem cmpP_2 (y : sumP t n b = .inr (c, e)) (s : sgP t n (skp t n e) 60) (z : sumP t n (skp t n e + 1) = .inr (c2, e2)) : cmpP t n b = .inr (c ++ c2 ++ [2004], e2) := by rw [cmpP_s y, iteP_y s, z]; rfl
theorem cmpP_3 (y : sumP t n b = .inr (c, e)) (s : ¬ sgP t n (skp t n e) 60) (s2 : sgP t n (skp t n e) 62) (z : sumP t n (skp t n e + 1) = .inl f) : cmpP t n b = .inl f := by rw [cmpP_s y, iteP_n s, iteP_y s2, z]; rfl
theorem cmpP_4 (y : sumP t n b = .inr (c, e)) (s : ¬ sgP t n (skp t n e) 60) (s2 : sgP t n (skp t n e) 62) (z : sumP t n (skp t n e + 1) = .inr (c2, e2)) : cmpP t n b = .inr (c ++ c2 ++ [2005], e2) := by rw [cmpP_s y, iteP_n s, iteP_y s2, z]; rfl
theorem cmpP_5 (y : sumP t n b = .inr (c, e)) (s : ¬ sgP t n (skp t n e) 60) (s2 : ¬ sgP t n (skp t n e) 62) : cmpP t n b = .inl (skp t n e) := by rw [cmpP_s y, iteP_n s, iteP_n s2]
end cmp
section Ref41
variable {tb : Tab} {d : Nat} {m : AM} {K : Out → AM → Prop} {S : Nat → Int → Int} {a f : Int} {t : Int → Int} {n : Int}
theorem k240_0 : pg.1 240 0 = [.aload 0, .getfield 1012, .bipush (-1), .if_icmp .eq 10, .bipush 0, .ireturn] := rfl
theorem a240_0 {tb : Tab} {d : Nat} {K : Out → AM → Prop} {ls st : List AV} {m : AM} : At tb d 240 K 0 ls st m = wpB tb (pg.2.1 240) (Runs tb pg d) K (At tb d 240 K) [.aload 0, .getfield 1012, .bipush (-1), .if_icmp .eq 10, .bipush 0, .ireturn] ls st m := At.eq k240_0
theorem k240_10 : pg.1 240 10 = [.aload 0, .invokeinterface 221 1, .aload 0, .getfield 1011, .aload 0, .getfield 1010, .if_icmp .ge 52, .aload 0, .aload 0, .getfield 1011, .invokeinterface 220 2, .bipush 48, .bipush 57, .invokeinterface 200 3, .ifCond .eq 52, .aload 0, .bipush 0, .bipush 999, .invokeinterface 226 3, .ireturn] := rfl
theorem a240_10 {tb : Tab} {d : Nat} {K : Out → AM → Prop} {ls st : List AV} {m : AM} : At tb d 240 K 10 ls st m = wpB tb (pg.2.1 240) (Runs tb pg d) K (At tb d 240 K) [.aload 0, .invokeinterface 221 1, .aload 0, .getfield 1011, .aload 0, .getfield 1010, .if_icmp .ge 52, .aload 0, .aload 0, .getfield 1011, .invokeinterface 220 2, .bipush 48, .bipush 57, .invokeinterface 200 3, .ifCond .eq 52, .aload 0, .bipush 0, .bipush 999, .invokeinterface 226 3, .ireturn] ls st m := At.eq k240_10
theorem k240_52 : pg.1 240 52 = [.aload 0, .ldc 22, .invokeinterface 223 2, .ifCond .eq 65, .bipush 0, .goto 145] := rfl
theorem a240_52 {tb : Tab} {d : Nat} {K : Out → AM → Prop} {ls st : List AV} {m : AM} : At tb d 240 K 52 ls st m = wpB tb (pg.2.1 240) (Runs tb pg d) K (At tb d 240 K) [.aload 0, .ldc 22, .invokeinterface 223 2, .ifCond .eq 65, .bipush 0, .goto 145] ls st m := At.eq k240_52
theorem k240_65 : pg.1 240 65 = [.aload 0, .ldc 0, .invokeinterface 223 2, .ifCond .eq 78, .bipush 1, .goto 145] := rfl
theorem a240_65 {tb : Tab} {d : Nat} {K : Out → AM → Prop} {ls st : List AV} {m : AM} : At tb d 240 K 65 ls st m = wpB tb (pg.2.1 240) (Runs tb pg d) K (At tb d 240 K) [.aload 0, .ldc 0, .invokeinterface 223 2, .ifCond .eq 78, .bipush 1, .goto 145] ls st m := At.eq k240_65
theorem k240_78 : pg.1 240 78 = [.aload 0, .ldc 1, .invokeinterface 223 2, .ifCond .eq 91, .bipush 2, .goto 145] := rfl
theorem a240_78 {tb : Tab} {d : Nat} {K : Out → AM → Prop} {ls st : List AV} {m : AM} : At tb d 240 K 78 ls st m = wpB tb (pg.2.1 240) (Runs tb pg d) K (At tb d 240 K) [.aload 0, .ldc 1, .invokeinterface 223 2, .ifCond .eq 91, .bipush 2, .goto 145] ls st m := At.eq k240_78
theorem k240_91 : pg.1 240 91 = [.aload 0, .ldc 3, .invokeinterface 223 2, .ifCond .eq 104, .bipush 3, .goto 145] := rfl
theorem a240_91 {tb : Tab} {d : Nat} {K : Out → AM → Prop} {ls st : List AV} {m : AM} : At tb d 240 K 91 ls st m = wpB tb (pg.2.1 240) (Runs tb pg d) K (At tb d 240 K) [.aload 0, .ldc 3, .invokeinterface 223 2, .ifCond .eq 104, .bipush 3, .goto 145] ls st m := At.eq k240_91
theorem k240_104 : pg.1 240 104 = [.aload 0, .ldc 23, .invokeinterface 223 2, .ifCond .eq 117, .bipush 4, .goto 145] := rfl
theorem a240_104 {tb : Tab} {d : Nat} {K : Out → AM → Prop} {ls st : List AV} {m : AM} : At tb d 240 K 104 ls st m = wpB tb (pg.2.1 240) (Runs tb pg d) K (At tb d 240 K) [.aload 0, .ldc 23, .invokeinterface 223 2, .ifCond .eq 117, .bipush 4, .goto 145] ls st m := At.eq k240_104
theorem k240_117 : pg.1 240 117 = [.aload 0, .ldc 24, .invokeinterface 223 2, .ifCond .eq 130, .bipush 5, .goto 145] := rfl
theorem a240_117 {tb : Tab} {d : Nat} {K : Out → AM → Prop} {ls st : List AV} {m : AM} : At tb d 240 K 117 ls st m = wpB tb (pg.2.1 240) (Runs tb pg d) K (At tb d 240 K) [.aload 0, .ldc 24, .invokeinterface 223 2, .ifCond .eq 130, .bipush 5, .goto 145] ls st m := At.eq k240_117
theorem k240_130 : pg.1 240 130 = [.aload 0, .ldc 11, .invokeinterface 223 2, .ifCond .eq 144, .bipush 6, .goto 145] := rfl
theorem a240_130 {tb : Tab} {d : Nat} {K : Out → AM → Prop} {ls st : List AV} {m : AM} : At tb d 240 K 130 ls st m = wpB tb (pg.2.1 240) (Runs tb pg d) K (At tb d 240 K) [.aload 0, .ldc 11, .invokeinterface 223 2, .ifCond .eq 144, .bipush 6, .goto 145] ls st m := At.eq k240_130
theorem k240_144 : pg.1 240 144 = [.bipush (-1), .jsr 145] := rfl
theorem a240_144 {tb : Tab} {d : Nat} {K : Out → AM → Prop} {ls st : List AV} {m : AM} : At tb d 240 K 144 ls st m = wpB tb (pg.2.1 240) (Runs tb pg d) K (At tb d 240 K) [.bipush (-1), .jsr 145] ls st m := At.eq k240_144
theorem k240_145 : pg.1 240 145 = [.istore 1, .iload 1, .bipush (-1), .if_icmp .ne 161, .aload 0, .aload 0, .getfield 1011, .invokeinterface 224 2, .bipush 0, .ireturn] := rfl
theorem a240_145 {tb : Tab} {d : Nat} {K : Out → AM → Prop} {ls st : List AV} {m : AM} : At tb d 240 K 145 ls st m = wpB tb (pg.2.1 240) (Runs tb pg d) K (At tb d 240 K) [.istore 1, .iload 1, .bipush (-1), .if_icmp .ne 161, .aload 0, .aload 0, .getfield 1011, .invokeinterface 224 2, .bipush 0, .ireturn] ls st m := At.eq k240_145
theorem k240_161 : pg.1 240 161 = [.aload 0, .getfield 1014, .iload 1, .iaload, .ireturn] := rfl
theorem a240_161 {tb : Tab} {d : Nat} {K : Out → AM → Prop} {ls st : List AV} {m : AM} : At tb d 240 K 161 ls st m = wpB tb (pg.2.1 240) (Runs tb pg d) K (At tb d 240 K) [.aload 0, .getfield 1014, .iload 1, .iaload, .ireturn] ls st m := At.eq k240_161
theorem q_240 (hX : tb.2.1 = strB) (hT : TX t n S) (ha : 0 ≤ a ∧ a ≤ n) (hK : okR (parP t n (skp t n a)) S n a 100000 0 m K) : Runs tb pg (d + 6) 240 [vr 300] (X (tS S a (-1)) m) K := by
  refine Runs.of (al := [vr 300]) (n := 1) ⟨300, _, _, rfl, xo_300⟩ rfl rfl trivial ?_
  have hn := hT.1
  have hn2 := hT.2.1
  have hr := hT.2.2.1
  have ha1 : 0 ≤ a ∧ a ≤ 1000 := by omega
  have g0 := skp_n (t := t) (n := n) (a := a) ha.2
  obtain ⟨b, hb⟩ : ∃ b, b = skp t n a := ⟨_, rfl⟩
  have hbb : skp t n b = b := by rw [hb, skp_skp]
  rw [← hb] at g0
  have hb2 : 0 ≤ b ∧ b ≤ 1000 := by omega
  have k22 : 22 < 39 := by decide
  have k0 : 0 < 39 := by decide
  have k1 : 1 < 39 := by decide
  have k3 : 3 < 39 := by decide
  have k23 : 23 < 39 := by decide
  have k24 : 24 < 39 := by decide
  have k11 : 11 < 39 := by decide
  obtain ⟨hK, hN⟩ := hK
  obtain ⟨P, hp⟩ : ∃ P, parP t n b = P := ⟨_, rfl⟩
  rw [← hb, hp] at hK hN
  have hpy : (b < n ∧ 48 ≤ t b ∧ t b ≤ 57) → P = bnd (numP t n 0 999 b) fun v e => .inr ([v], e) := fun z => by rw [← hp]; exact iteP_y z
  have hpn := fun (z : ¬ (b < n ∧ 48 ≤ t b ∧ t b ≤ 57)) => hp.symm.trans (iteP_n z)
  have hrb := hr b
  have R9 : R32 0 ∧ R32 999 := by unfold R32; omega
  have cl := fun k : Nat => c1F_rg (S 306 k)
  have fx : ∀ (e : Int) (x : Int) (l : List Int), P = .inr (l, e) → 0 ≤ x → x < 7 → l = [1000 + x] → b < e → e ≤ n → K (.inl (some (vi (c1F (S 306 x))))) (X (tS S e (-1)) m) := fun e x l z x0 x7 hl e0 e1 => hK l e _ z (by
    rw [hl]
    have y := isV_fact (fc := fcS S) (x := x) (by omega)
    rw [show fcS S x = c1F (S 306 x) by unfold fcS; rw [if_neg (by omega), if_pos x7]] at y
    exact y) (c1F_rg _).1 (c1F_rg _).2 (fun z => by omega) (by omega) e1
  repeat' (first | omega | (refine fx _ _ _ hq ?_ ?_ rfl ?_ ?_) | (refine hN _ _ _ hq ?_ ?_ ?_ ?_ ?_ ?_ ?_) | simp only [w_aload, x_g1012_300, w_iconst, w_ifc, cI, Int.reduceToNat, w_ireturn, w_call, x_g1011_300, x_g1010_300, w_if, w_ldc, w_goto, w_fall, w_istore, w_iload, x_g1014_300, x_iald, w_ialoads, w_ialoadw, isA_301, isA_302, isA_303, isA_304, isA_305, isA_307, isA_308, isA_309, isA_310, isA_311, isA_312, isA_313, isA_314, isA_315, len_301, len_302, len_303, len_304, len_305, len_307, len_308, len_309, len_310, len_311, len_312, len_313, len_314, len_315, Int.cast_ofNat_Int, a240_0, a240_10, a240_52, a240_65, a240_78, a240_91, a240_104, a240_117, a240_130, a240_144, a240_145, a240_161, R32, List.getElem?_cons_zero, List.getElem?_cons_succ, List.set_cons_zero, List.set_cons_succ, List.cons_append, List.nil_append, List.replicate_succ, List.replicate_zero, List.take_succ_cons, List.take_zero, List.drop_succ_cons, List.drop_zero, List.reverse_cons, List.reverse_nil, List.length_cons, List.length_nil, Option.toList, true_and, and_true, eq_self, ↓reduceIte, not_true_eq_false, not_false_eq_true, true_or, or_true, tS_11, tS_12, tS_8, tS_9, tS_10, tS_13, tS_15, tS_16, tS_17, tS_18, tS_19, tS_301, tS_303, tS_305, tS_306, tS_u11, tS_u12, tS_tS, x_ald6] | (refine q_221 hT ha1 (fun b9 e9 => ?_); rw [← hb] at e9; have e8 := e9.symm; clear e9; subst e8) | with_reducible refine q_220 hT ?_ ?_ | with_reducible refine q_200s ?_ ?_ ?_ (fun _ => ?_) (fun _ => ?_) | (have hq := hpn (by omega); clear hpn hpy) | (rw [wdI_n n0] at hq; clear n0) | (have yl := wdG g0.2 y0 (strB_l _ (by decide)); rw [wdI_y y0] at hq; clear y0) | with_reducible refine q_224n ?_ | (have hq := hpy (by omega); clear hpn hpy; (with_reducible refine q_226 hT hb2 R9 (fun v6 b6 f6 n6 e6 e5 e4 e3 => ?_) (fun v6 b6 y6 => ?_))) | (refine hK _ _ _ (hq.trans (by rw [y6]; rfl)) (isV_num (by have z := numP_rg y6; omega)) ?_ ?_ ?_ ?_ ?_) | (refine hN _ _ _ (hq.trans (by rw [n6]; rfl)) ?_ ?_ ?_ ?_ ?_ ?_ ?_) | with_reducible refine q_223b (k := 22) hX k22 hT hbb hb2 (fun n0 => ?_) (fun y0 => ?_) | with_reducible refine q_223b (k := 0) hX k0 hT hbb hb2 (fun n0 => ?_) (fun y0 => ?_) | with_reducible refine q_223b (k := 1) hX k1 hT hbb hb2 (fun n0 => ?_) (fun y0 => ?_) | with_reducible refine q_223b (k := 3) hX k3 hT hbb hb2 (fun n0 => ?_) (fun y0 => ?_) | with_reducible refine q_223b (k := 23) hX k23 hT hbb hb2 (fun n0 => ?_) (fun y0 => ?_) | with_reducible refine q_223b (k := 24) hX k24 hT hbb hb2 (fun n0 => ?_) (fun y0 => ?_) | with_reducible refine q_223b (k := 11) hX k11 hT hbb hb2 (fun n0 => ?_) (fun y0 => ?_) | with_reducible refine And.intro ?_ ?_ | with_reducible intro _)
  all_goals (try (first | omega | (exfalso; assumption) | (have z := numP_rg y6; omega) | (unfold R32; omega)))
theorem k241_0 : pg.1 241 0 = [.aload 0, .invokeinterface 240 1, .istore 1, .jsr 5] := rfl
theorem a241_0 {tb : Tab} {d : Nat} {K : Out → AM → Prop} {ls st : List AV} {m : AM} : At tb d 241 K 0 ls st m = wpB tb (pg.2.1 241) (Runs tb pg d) K (At tb d 241 K) [.aload 0, .invokeinterface 240 1, .istore 1, .jsr 5] ls st m := At.eq k241_0
theorem k241_5 : pg.1 241 5 = [.aload 0, .getfield 1012, .bipush (-1), .if_icmp .ne 42, .aload 0, .bipush 43, .invokeinterface 222 2, .ifCond .eq 42, .aload 0, .dup, .getfield 1011, .bipush 1, .iadd, .putfield 1011, .iload 1, .aload 0, .invokeinterface 240 1, .iadd, .istore 1, .goto 5] := rfl
theorem a241_5 {tb : Tab} {d : Nat} {K : Out → AM → Prop} {ls st : List AV} {m : AM} : At tb d 241 K 5 ls st m = wpB tb (pg.2.1 241) (Runs tb pg d) K (At tb d 241 K) [.aload 0, .getfield 1012, .bipush (-1), .if_icmp .ne 42, .aload 0, .bipush 43, .invokeinterface 222 2, .ifCond .eq 42, .aload 0, .dup, .getfield 1011, .bipush 1, .iadd, .putfield 1011, .iload 1, .aload 0, .invokeinterface 240 1, .iadd, .istore 1, .goto 5] ls st m := At.eq k241_5
theorem k241_42 : pg.1 241 42 = [.iload 1, .ireturn] := rfl
theorem a241_42 {tb : Tab} {d : Nat} {K : Out → AM → Prop} {ls st : List AV} {m : AM} : At tb d 241 K 42 ls st m = wpB tb (pg.2.1 241) (Runs tb pg d) K (At tb d 241 K) [.iload 1, .ireturn] ls st m := At.eq k241_42
theorem q_241 (hX : tb.2.1 = strB) (hT : TX t n S) (ha : 0 ≤ a ∧ a ≤ n) (hK : okR (sumP t n a) S n a 40200000 0 m K) : Runs tb pg (d + 7) 241 [vr 300] (X (tS S a (-1)) m) K := by
  have hn2 := hT.2.1
  obtain ⟨hK, hN⟩ := hK
  obtain ⟨P, hp⟩ : ∃ P, sumP t n a = P := ⟨_, rfl⟩
  rw [hp] at hK hN
  have R43 : R32 43 := by unfold R32; omega
  have hE : ∀ e b v, 0 ≤ b → b ≤ 1000 → K (.inl (some (vi v))) (X (tS S e b) m) → At tb (d + 6) 241 K 5 [vr 300, vi v] [] (X (tS S e b) m) := by
    intro e b v b0 b1 hk
    rw [a241_5]
    repeat' (first | omega | with_reducible refine hk | simp only [w_aload, w_call, w_istore, w_fall, Int.reduceToNat, x_g1012_300, w_iconst, w_ifc, cI, w_if, w_dupi, w_dupr, x_g1011_300, w_iadd, x_p1011_300, w_iload, w_goto, w_ireturn, a241_0, a241_42, R32, List.getElem?_cons_zero, List.getElem?_cons_succ, List.set_cons_zero, List.set_cons_succ, List.cons_append, List.nil_append, List.replicate_succ, List.replicate_zero, List.take_succ_cons, List.take_zero, List.drop_succ_cons, List.drop_zero, List.reverse_cons, List.reverse_nil, List.length_cons, List.length_nil, Option.toList, true_and, and_true, eq_self, ↓reduceIte, not_true_eq_false, not_false_eq_true, true_or, or_true, tS_11, tS_12, tS_8, tS_9, tS_10, tS_13, tS_15, tS_16, tS_17, tS_18, tS_19, tS_301, tS_303, tS_305, tS_306, tS_u11, tS_u12, tS_tS, x_ald6] | with_reducible refine And.intro ?_ ?_ | with_reducible intro _)
    all_goals (try (first | omega | contradiction | skip))
  have hL : ∀ c e v, parP t n (skp t n a) = .inr (c, e) → isV (fcS S) c v → -100000 ≤ v → v ≤ 100000 → a < e → e ≤ n → At tb (d + 6) 241 K 5 [vr 300, vi v] [] (X (tS S e (-1)) m) := by
    intro c0 e0 v0 y1 y2 y3 y4 y6 y7
    have hP0 : morP (qSg t n 43) (fun e => parP t n (skp t n e)) 2003 t n 401 c0 e0 = P := by
      rw [← hp]; unfold sumP; rw [y1]; rfl
    have hL5 : (fun i : Int => ∀ (L : List Int) (c : Int) (v : Int), (a + i < c ∧ c ≤ n) → (-100000 * (i + 1) ≤ v ∧ v ≤ 100000 * (i + 1)) → (isV (fcS S) L v) → (morP (qSg t n 43) (fun e => parP t n (skp t n e)) 2003 t n (401 - i).toNat L c = P) → At tb (d + 6) 241 K 5 [vr 300, vi v] [] (X (tS S c (-1)) m)) 0 := by
      refine loopZ (fun i : Int => ∀ (L : List Int) (c : Int) (v : Int), (a + i < c ∧ c ≤ n) → (-100000 * (i + 1) ≤ v ∧ v ≤ 100000 * (i + 1)) → (isV (fcS S) L v) → (morP (qSg t n 43) (fun e => parP t n (skp t n e)) 2003 t n (401 - i).toNat L c = P) → At tb (d + 6) 241 K 5 [vr 300, vi v] [] (X (tS S c (-1)) m)) (401) (by omega) ?_ ?_
      · intro i h0 h1 h9 L c v hc hv hv hm
        have g1 := skp_n (t := t) (n := n) (a := c) (by omega)
        have c1 : 0 ≤ c ∧ c ≤ 1000 := by omega
        rw [a241_5]
        repeat' (first | omega | with_reducible refine h9 (L ++ c9 ++ [2003]) _ _ ?_ ?_ ?_ ?_ | with_reducible refine hE _ _ _ ?_ ?_ ?_ | (refine hK _ _ _ (hm.symm.trans (morP_e (qSg_n ns) _)) hv ?_ ?_ ?_ ?_ ?_) | (refine hN _ _ _ (hm.symm.trans (morP_b h1 (qSg_y ys) n1)) ?_ ?_ ?_ ?_ ?_ ?_ ?_) | simp only [w_aload, w_call, w_istore, w_fall, Int.reduceToNat, x_g1012_300, w_iconst, w_ifc, cI, w_if, w_dupi, w_dupr, x_g1011_300, w_iadd, x_p1011_300, w_iload, w_goto, w_ireturn, a241_0, a241_42, R32, List.getElem?_cons_zero, List.getElem?_cons_succ, List.set_cons_zero, List.set_cons_succ, List.cons_append, List.nil_append, List.replicate_succ, List.replicate_zero, List.take_succ_cons, List.take_zero, List.drop_succ_cons, List.drop_zero, List.reverse_cons, List.reverse_nil, List.length_cons, List.length_nil, Option.toList, true_and, and_true, eq_self, ↓reduceIte, not_true_eq_false, not_false_eq_true, true_or, or_true, tS_11, tS_12, tS_8, tS_9, tS_10, tS_13, tS_15, tS_16, tS_17, tS_18, tS_19, tS_301, tS_303, tS_305, tS_306, tS_u11, tS_u12, tS_tS, x_ald6] | with_reducible refine q_222s hT c1 R43 (fun ys => ?_) (fun ns => ?_) | (have q0 := ys.1; with_reducible refine q_240 hX hT ?_ (okR_i (fun c9 e9 v9 y1 y2 y3 y4 y5 y6 y7 => ?_) (fun e9 b9 v9 n1 n2 n3 n4 n5 n6 n7 => ?_))) | with_reducible refine And.intro ?_ ?_ | with_reducible intro _)
        all_goals (try (first | omega | contradiction | (exact isV_plus hv y2) | (rw [← morP_c h1 (qSg_y ys) y1]; exact hm)))
      · intro L c v hc hv hv hm
        exfalso; omega
    exact hL5 c0 e0 v0 (by omega) (by omega) y2 hP0
  refine Runs.of (al := [vr 300]) (n := 1) ⟨300, _, _, rfl, xo_300⟩ rfl rfl trivial ?_
  repeat' (first | omega | (refine hL _ _ _ y1 y2 ?_ ?_ ?_ ?_) | (refine hE _ _ _ ?_ ?_ (hN _ _ _ (by rw [← hp]; unfold sumP; rw [n1]; rfl) ?_ ?_ ?_ ?_ ?_ ?_ ?_)) | simp only [w_aload, w_call, w_istore, w_fall, Int.reduceToNat, x_g1012_300, w_iconst, w_ifc, cI, w_if, w_dupi, w_dupr, x_g1011_300, w_iadd, x_p1011_300, w_iload, w_goto, w_ireturn, a241_0, a241_42, R32, List.getElem?_cons_zero, List.getElem?_cons_succ, List.set_cons_zero, List.set_cons_succ, List.cons_append, List.nil_append, List.replicate_succ, List.replicate_zero, List.take_succ_cons, List.take_zero, List.drop_succ_cons, List.drop_zero, List.reverse_cons, List.reverse_nil, List.length_cons, List.length_nil, Option.toList, true_and, and_true, eq_self, ↓reduceIte, not_true_eq_false, not_false_eq_true, true_or, or_true, tS_11, tS_12, tS_8, tS_9, tS_10, tS_13, tS_15, tS_16, tS_17, tS_18, tS_19, tS_301, tS_303, tS_305, tS_306, tS_u11, tS_u12, tS_tS, x_ald6] | (with_reducible refine q_240 hX hT ?_ (okR_i (fun c9 e9 v9 y1 y2 y3 y4 y5 y6 y7 => ?_) (fun e9 b9 v9 n1 n2 n3 n4 n5 n6 n7 => ?_))) | with_reducible refine And.intro ?_ ?_ | with_reducible intro _)
  all_goals (try (first | omega | contradiction | skip))
theorem k242_0 : pg.1 242 0 = [.aload 0, .ldc 19, .invokeinterface 223 2, .ifCond .eq 14, .aload 0, .getfield 1015, .freturn] := rfl
theorem a242_0 {tb : Tab} {d : Nat} {K : Out → AM → Prop} {ls st : List AV} {m : AM} : At tb d 242 K 0 ls st m = wpB tb (pg.2.1 242) (Runs tb pg d) K (At tb d 242 K) [.aload 0, .ldc 19, .invokeinterface 223 2, .ifCond .eq 14, .aload 0, .getfield 1015, .freturn] ls st m := At.eq k242_0
theorem k242_14 : pg.1 242 14 = [.aload 0, .ldc 20, .invokeinterface 223 2, .ifCond .eq 28, .aload 0, .getfield 1016, .freturn] := rfl
theorem a242_14 {tb : Tab} {d : Nat} {K : Out → AM → Prop} {ls st : List AV} {m : AM} : At tb d 242 K 14 ls st m = wpB tb (pg.2.1 242) (Runs tb pg d) K (At tb d 242 K) [.aload 0, .ldc 20, .invokeinterface 223 2, .ifCond .eq 28, .aload 0, .getfield 1016, .freturn] ls st m := At.eq k242_14
theorem k242_28 : pg.1 242 28 = [.aload 0, .ldc 21, .invokeinterface 223 2, .ifCond .eq 42, .aload 0, .getfield 1017, .freturn] := rfl
theorem a242_28 {tb : Tab} {d : Nat} {K : Out → AM → Prop} {ls st : List AV} {m : AM} : At tb d 242 K 28 ls st m = wpB tb (pg.2.1 242) (Runs tb pg d) K (At tb d 242 K) [.aload 0, .ldc 21, .invokeinterface 223 2, .ifCond .eq 42, .aload 0, .getfield 1017, .freturn] ls st m := At.eq k242_28
theorem k242_42 : pg.1 242 42 = [.aload 0, .invokeinterface 241 1, .istore 1, .aload 0, .getfield 1012, .bipush (-1), .if_icmp .eq 57, .bipush 0, .freturn] := rfl
theorem a242_42 {tb : Tab} {d : Nat} {K : Out → AM → Prop} {ls st : List AV} {m : AM} : At tb d 242 K 42 ls st m = wpB tb (pg.2.1 242) (Runs tb pg d) K (At tb d 242 K) [.aload 0, .invokeinterface 241 1, .istore 1, .aload 0, .getfield 1012, .bipush (-1), .if_icmp .eq 57, .bipush 0, .freturn] ls st m := At.eq k242_42
theorem k242_57 : pg.1 242 57 = [.aload 0, .bipush 60, .invokeinterface 222 2, .istore 2, .iload 2, .ifCond .ne 87, .aload 0, .bipush 62, .invokeinterface 222 2, .ifCond .ne 87, .aload 0, .aload 0, .getfield 1011, .invokeinterface 224 2, .bipush 0, .freturn] := rfl
theorem a242_57 {tb : Tab} {d : Nat} {K : Out → AM → Prop} {ls st : List AV} {m : AM} : At tb d 242 K 57 ls st m = wpB tb (pg.2.1 242) (Runs tb pg d) K (At tb d 242 K) [.aload 0, .bipush 60, .invokeinterface 222 2, .istore 2, .iload 2, .ifCond .ne 87, .aload 0, .bipush 62, .invokeinterface 222 2, .ifCond .ne 87, .aload 0, .aload 0, .getfield 1011, .invokeinterface 224 2, .bipush 0, .freturn] ls st m := At.eq k242_57
theorem k242_87 : pg.1 242 87 = [.aload 0, .dup, .getfield 1011, .bipush 1, .iadd, .putfield 1011, .aload 0, .invokeinterface 241 1, .istore 3, .iload 2, .ifCond .eq 119, .iload 1, .iload 3, .if_icmp .ge 115, .bipush 1, .goto 129] := rfl
theorem a242_87 {tb : Tab} {d : Nat} {K : Out → AM → Prop} {ls st : List AV} {m : AM} : At tb d 242 K 87 ls st m = wpB tb (pg.2.1 242) (Runs tb pg d) K (At tb d 242 K) [.aload 0, .dup, .getfield 1011, .bipush 1, .iadd, .putfield 1011, .aload 0, .invokeinterface 241 1, .istore 3, .iload 2, .ifCond .eq 119, .iload 1, .iload 3, .if_icmp .ge 115, .bipush 1, .goto 129] ls st m := At.eq k242_87
theorem k242_115 : pg.1 242 115 = [.bipush 0, .goto 129] := rfl
theorem a242_115 {tb : Tab} {d : Nat} {K : Out → AM → Prop} {ls st : List AV} {m : AM} : At tb d 242 K 115 ls st m = wpB tb (pg.2.1 242) (Runs tb pg d) K (At tb d 242 K) [.bipush 0, .goto 129] ls st m := At.eq k242_115
theorem k242_119 : pg.1 242 119 = [.iload 1, .iload 3, .if_icmp .le 128, .bipush 1, .goto 129] := rfl
theorem a242_119 {tb : Tab} {d : Nat} {K : Out → AM → Prop} {ls st : List AV} {m : AM} : At tb d 242 K 119 ls st m = wpB tb (pg.2.1 242) (Runs tb pg d) K (At tb d 242 K) [.iload 1, .iload 3, .if_icmp .le 128, .bipush 1, .goto 129] ls st m := At.eq k242_119
theorem k242_128 : pg.1 242 128 = [.bipush 0, .jsr 129] := rfl
theorem a242_128 {tb : Tab} {d : Nat} {K : Out → AM → Prop} {ls st : List AV} {m : AM} : At tb d 242 K 128 ls st m = wpB tb (pg.2.1 242) (Runs tb pg d) K (At tb d 242 K) [.bipush 0, .jsr 129] ls st m := At.eq k242_128
theorem k242_129 : pg.1 242 129 = [.freturn] := rfl
theorem a242_129 {tb : Tab} {d : Nat} {K : Out → AM → Prop} {ls st : List AV} {m : AM} : At tb d 242 K 129 ls st m = wpB tb (pg.2.1 242) (Runs tb pg d) K (At tb d 242 K) [.freturn] ls st m := At.eq k242_129
theorem q_242 {b : Int} (hX : tb.2.1 = strB) (hT : TX t n S) (hb3 : 0 ≤ b ∧ b ≤ n) (hbb : skp t n b = b) (hK : okR (plaP t n b) S n b 1 0 m K) : Runs tb pg (d + 8) 242 [vr 300] (X (tS S b (-1)) m) K := by
  refine Runs.of (al := [vr 300]) (n := 3) ⟨300, _, _, rfl, xo_300⟩ rfl rfl trivial ?_
  have hn2 := hT.2.1
  have hr := hT.2.2.1
  have hb2 : 0 ≤ b ∧ b ≤ 1000 := by omega
  have k19 : 19 < 39 := by decide
  have k20 : 20 < 39 := by decide
  have k21 : 21 < 39 := by decide
  obtain ⟨hK, hN⟩ := hK
  obtain ⟨P, hp⟩ : ∃ P, plaP t n b = P := ⟨_, rfl⟩
  rw [hp] at hK hN
  have hq := hp.symm
  unfold plaP at hq
  have cl := fun k : Int => b1F_rg (S 300 k)
  have gs : ∀ a, a ≤ n → a ≤ skp t n a ∧ skp t n a ≤ n := fun a h => skp_n h
  have fx : ∀ (e x w : Int) (l : List Int), P = .inr (l, e) → 7 ≤ x → x < 10 → l = [1000 + x] → w = b1F (S 300 (x + 8)) → b < e → e ≤ n → K (.inl (some (vi w))) (X (tS S e (-1)) m) := fun e x w l z x0 x7 hl hw e0 e1 => hK l e _ z (by
    rw [hl, hw]
    have y := isV_fact (fc := fcS S) (x := x) (by omega)
    rw [show fcS S x = b1F (S 300 (x + 8)) by
      have hx : x = 7 ∨ x = 8 ∨ x = 9 := by omega
      rcases hx with z | z | z <;> subst z <;> rfl] at y
    exact y) (by have := cl (x + 8); omega) (by have := cl (x + 8); omega) (fun _ => by have := cl (x + 8); omega) (by omega) e1
  repeat' (first | omega | (refine fx _ 7 _ _ hq ?_ ?_ rfl rfl ?_ ?_) | (refine fx _ 8 _ _ hq ?_ ?_ rfl rfl ?_ ?_) | (refine fx _ 9 _ _ hq ?_ ?_ rfl rfl ?_ ?_) | (refine hK _ _ _ (hq.trans (cmpP_2 y1 ys z1)) (by have w := isV_less y2 z2; first | (rw [if_pos (by omega)] at w; exact w) | (rw [if_neg (by omega)] at w; exact w)) ?_ ?_ ?_ ?_ ?_) | (refine hK _ _ _ (hq.trans (cmpP_4 y1 ns (by rw [← skp_skp]; exact ys2) z1)) (by have w := isV_more y2 z2; first | (rw [if_pos (by omega)] at w; exact w) | (rw [if_neg (by omega)] at w; exact w)) ?_ ?_ ?_ ?_ ?_) | (refine hN _ _ _ (hq.trans (cmpP_1 y1 ys n1)) ?_ ?_ ?_ ?_ ?_ ?_ ?_) | (refine hN _ _ _ (hq.trans (cmpP_3 y1 ns (by rw [← skp_skp]; exact ys2) n1)) ?_ ?_ ?_ ?_ ?_ ?_ ?_) | (refine hN _ _ _ (hq.trans (cmpP_5 y1 ns (by rw [← skp_skp]; exact ns2))) ?_ ?_ ?_ ?_ ?_ ?_ ?_) | (refine hN _ _ _ (hq.trans (cmpP_0 n1)) ?_ ?_ ?_ ?_ ?_ ?_ ?_) | simp only [w_aload, w_ldc, w_call, w_if, cI, Int.reduceToNat, x_g1015_300, w_zreturn, x_g1016_300, x_g1017_300, w_istore, x_g1012_300, w_iconst, w_ifc, w_iload, x_g1011_300, w_dupi, w_dupr, w_iadd, x_p1011_300, w_goto, w_fall, a242_0, a242_14, a242_28, a242_42, a242_57, a242_87, a242_115, a242_119, a242_128, a242_129, R32, List.getElem?_cons_zero, List.getElem?_cons_succ, List.set_cons_zero, List.set_cons_succ, List.cons_append, List.nil_append, List.replicate_succ, List.replicate_zero, List.take_succ_cons, List.take_zero, List.drop_succ_cons, List.drop_zero, List.reverse_cons, List.reverse_nil, List.length_cons, List.length_nil, Option.toList, true_and, and_true, eq_self, ↓reduceIte, not_true_eq_false, not_false_eq_true, true_or, or_true, tS_11, tS_12, tS_8, tS_9, tS_10, tS_13, tS_15, tS_16, tS_17, tS_18, tS_19, tS_301, tS_303, tS_305, tS_306, tS_u11, tS_u12, tS_tS, x_ald6, skp_skp] | (rw [wdI_n n0] at hq; clear n0) | (have yl := wdG hb3.2 y0 (strB_l _ (by decide)); rw [wdI_y y0] at hq; clear y0) | with_reducible refine q_224n ?_ | with_reducible refine q_223b (k := 19) hX k19 hT hbb hb2 (fun n0 => ?_) (fun y0 => ?_) | with_reducible refine q_223b (k := 20) hX k20 hT hbb hb2 (fun n0 => ?_) (fun y0 => ?_) | with_reducible refine q_223b (k := 21) hX k21 hT hbb hb2 (fun n0 => ?_) (fun y0 => ?_) | (have q0 := y1; with_reducible refine q_241 hX hT ?_ (okR_i (fun c2 e2 v2 z1 z2 z3 z4 z5 z6 z7 => ?_) (fun e9 b9 v9 n1 n2 n3 n4 n5 n6 n7 => ?_))) | with_reducible refine q_241 hX hT ?_ (okR_i (fun c1 e1 v1 y1 y2 y3 y4 y5 y6 y7 => ?_) (fun e9 b9 v9 n1 n2 n3 n4 n5 n6 n7 => ?_)) | (have q0 := ns; (with_reducible refine q_222s hT ?_ ?_ (fun ys2 => ?_) (fun ns2 => ?_))) | (have q0 := gs e1 (by omega); (with_reducible refine q_222s hT ?_ ?_ (fun ys => ?_) (fun ns => ?_))) | with_reducible refine And.intro ?_ ?_ | with_reducible intro _)
  all_goals (try (first | omega | (exfalso; assumption) | (unfold R32; omega) | (have w := cl 15; have w2 := cl 16; have w3 := cl 17; omega) | (have w := ys.1; omega) | (have w := ys2.1; rw [skp_skp] at w; omega) | (unfold sgP at *; omega)))
end Ref41
