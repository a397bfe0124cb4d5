/-! ===== THE LAW'S BLOCKS STAND IN THE BYTES, IV ===== -/
set_option maxRecDepth 100000 in
theorem lC19 : ((bkL_law_.drop 132).take 4).all lCk = true := by decide +kernel
set_option maxRecDepth 100000 in
theorem lC20 : ((bkL_law_.drop 136).take 4).all lCk = true := by decide +kernel
set_option maxRecDepth 100000 in
theorem lC21 : ((bkL_law_.drop 140).take 4).all lCk = true := by decide +kernel
set_option maxRecDepth 100000 in
theorem lC22 : ((bkL_law_.drop 144).take 4).all lCk = true := by decide +kernel
theorem all_dt {α : Type} {p : α → Bool} {l : List α} {a n : Nat} (h : ((l.drop a).take n).all p = true) (g : (l.drop (a + n)).all p = true) : (l.drop a).all p = true := by
  rw [← List.take_append_drop n (l.drop a), List.all_append, h, List.drop_drop, g]
  rfl
theorem lC_all : bkL_law_.all lCk = true := by
  show (bkL_law_.drop 0).all lCk = true
  refine all_dt lC0 ?_
  refine all_dt lC1 ?_
  refine all_dt lC2 ?_
  refine all_dt lC3 ?_
  refine all_dt lC4 ?_
  refine all_dt lC5 ?_
  refine all_dt lC6 ?_
  refine all_dt lC7 ?_
  refine all_dt lC8 ?_
  refine all_dt lC9 ?_
  refine all_dt lC10 ?_
  refine all_dt lC11 ?_
  refine all_dt lC12 ?_
  refine all_dt lC13 ?_
  refine all_dt lC14 ?_
  refine all_dt lC15 ?_
  refine all_dt lC16 ?_
  refine all_dt lC17 ?_
  refine all_dt lC18 ?_
  refine all_dt lC19 ?_
  refine all_dt lC20 ?_
  refine all_dt lC21 ?_
  refine all_dt lC22 ?_
  rfl
theorem lB_ok (L : Nat) (h : lkL L ≠ []) : bOK mt rcvM hsL "SnowNamesLaw" false code 7 (([] : List Nat).contains) ret [] L (lkL L) := by
  have hb := List.all_eq_true.mp lC_all _ (fndB_mem h)
  have hr := owns_ok ("SnowNamesLaw", (cpo13, 9999)) (by decide +kernel)
  exact bChk_ok hr fkT_ok (fun r hr => by cases hr) hMW EF _ _ hb
