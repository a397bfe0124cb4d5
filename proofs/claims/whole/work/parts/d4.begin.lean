/-! ===== WHAT HOLDS AT THE LAW'S BEGIN ===== -/
def FLT : List Jvm.Cond := flatC (Jvm.Cond.and given_1 narrow_1)
/-- the one row lies in the other one, in its order -/
def subCk : List Jvm.Cond → List Jvm.Cond → Bool
  | [], _ => true
  | _ :: _, [] => false
  | w :: ws, c :: cs => if decide (c = w) = true then subCk ws cs else subCk (w :: ws) cs
theorem subCk_ok : ∀ (cs ws : List Jvm.Cond), subCk ws cs = true → ∀ w ∈ ws, w ∈ cs
  | [], [], _ => fun w hw => hw
  | [], _ :: _, h => by cases h
  | _ :: _, [], _ => fun w hw => by cases hw
  | c :: cs, w :: ws, h => by
    unfold subCk at h
    intro v hv
    split at h
    next e =>
      have e := of_decide_eq_true e
      rcases List.mem_cons.mp hv with y | y
      · rw [y, ← e]; exact List.mem_cons_self
      · exact List.mem_cons_of_mem _ (subCk_ok cs ws h v y)
    next e => exact List.mem_cons_of_mem _ (subCk_ok cs (w :: ws) h v hv)
def repT : Nat → String × Nat := fun k => match k with
  | 0 => ("SnowNames$ProvinceText", 41)
  | 1 => ("SnowNames$ProvinceText", 90)
  | 2 => ("SnowNames$ProvinceText", 97)
  | 3 => ("SnowNames$ProvinceText", 104)
  | 4 => ("SnowNames$ProvinceText", 50)
  | 5 => ("SnowNames$ProvinceText", 125)
  | 6 => ("SnowNames$ProvinceText", 55)
  | 7 => ("SnowNames$ProvinceText", 60)
  | 8 => ("SnowNames$ProvinceText", 66)
  | 9 => ("SnowNames$ProvinceText", 68)
  | 10 => ("SnowNames$ProvinceText", 70)
  | 11 => ("SnowNames$ProvinceText", 72)
  | 12 => ("SnowNames", 112)
  | 13 => ("SnowNames", 122)
  | 14 => ("SnowNames$LawText", 81)
  | 15 => ("SnowNames$LawText", 83)
  | 16 => ("SnowNames$LawText", 85)
  | 17 => ("SnowNames$LawText", 51)
  | 18 => ("SnowNames$LawText", 108)
  | 19 => ("SnowNames$LawText", 116)
  | 20 => ("SnowNames$LawText", 118)
  | 21 => ("SnowNames$LawText", 120)
  | 22 => ("SnowNames$LawText", 129)
  | 23 => ("SnowNames$LawText", 137)
  | 24 => ("SnowNames$LawText", 139)
  | 25 => ("SnowNames$LawText", 106)
  | 26 => ("SnowNames$LawText", 97)
  | 27 => ("SnowNames", 242)
  | 28 => ("SnowNames", 159)
  | 29 => ("SnowNames", 248)
  | 30 => ("SnowNames", 252)
  | 31 => ("SnowNames", 254)
  | 32 => ("SnowNames", 274)
  | 33 => ("SnowNames", 317)
  | 34 => ("SnowNames", 319)
  | 35 => ("SnowNames", 303)
  | 36 => ("SnowNames", 307)
  | 37 => ("SnowNames", 348)
  | _ => ("SnowNames", 390)
def ordT : List (String × Nat × Nat) := [("SnowNames$ProvinceText", 41, 0), ("SnowNames$ProvinceText", 90, 1), ("SnowNames$ProvinceText", 97, 2), ("SnowNames$ProvinceText", 104, 3), ("SnowNames$ProvinceText", 50, 4), ("SnowNames$ProvinceText", 125, 5), ("SnowNames$ProvinceText", 55, 6), ("SnowNames$ProvinceText", 60, 7), ("SnowNames$ProvinceText", 66, 8), ("SnowNames$ProvinceText", 68, 9), ("SnowNames$ProvinceText", 70, 10), ("SnowNames$ProvinceText", 72, 11), ("SnowNames", 112, 12), ("SnowNames", 122, 13), ("SnowNames$LawText", 81, 14), ("SnowNames$LawText", 83, 15), ("SnowNames$LawText", 85, 16), ("SnowNames$LawText", 51, 17), ("SnowNames$LawText", 108, 18), ("SnowNames$LawText", 116, 19), ("SnowNames$LawText", 118, 20), ("SnowNames$LawText", 120, 21), ("SnowNames$LawText", 129, 22), ("SnowNames$LawText", 131, 0), ("SnowNames$LawText", 133, 1), ("SnowNames$LawText", 135, 3), ("SnowNames$LawText", 137, 23), ("SnowNames$LawText", 139, 24), ("SnowNames$LawText", 141, 11), ("SnowNames$LawText", 106, 25), ("SnowNames$LawText", 97, 26), ("SnowNames", 242, 27), ("SnowNames", 159, 28), ("SnowNames", 248, 29), ("SnowNames", 252, 30), ("SnowNames", 254, 31), ("SnowNames", 274, 32), ("SnowNames", 317, 33), ("SnowNames", 319, 34), ("SnowNames", 303, 35), ("SnowNames", 307, 36), ("SnowNames", 348, 37), ("SnowNames", 390, 38), ("SnowNamesModel", 263, 14), ("SnowNamesModel", 265, 15), ("SnowNamesModel", 267, 16), ("SnowNamesModel", 268, 17), ("SnowNamesModel", 244, 18), ("SnowNamesModel", 225, 19), ("SnowNamesModel", 231, 20), ("SnowNamesModel", 236, 21), ("SnowNamesModel", 216, 22), ("SnowNamesModel", 160, 0), ("SnowNamesModel", 131, 1), ("SnowNamesModel", 139, 3), ("SnowNamesModel", 218, 23), ("SnowNamesModel", 220, 24), ("SnowNamesModel", 186, 11), ("SnowNamesModel", 256, 25), ("SnowNamesModel", 261, 26), ("SnowNamesModel", 137, 2), ("SnowNamesModel", 165, 4), ("SnowNamesModel", 145, 5), ("SnowNamesModel", 170, 6), ("SnowNamesModel", 175, 7), ("SnowNamesModel", 180, 8), ("SnowNamesModel", 182, 9), ("SnowNamesModel", 184, 10)]
def strA (own : String) (i : Nat) (bs : List Int) : List Jvm.Cond := Jvm.Cond.exactly (.string own i) "java/lang/String" :: Jvm.Cond.eq (.field (.string own i) "java/lang/String" "coder" "B") (.int 0) :: Jvm.Cond.arrayOf (.field (.string own i) "java/lang/String" "value" "[B") .byte :: Jvm.Cond.eq (.length (.field (.string own i) "java/lang/String" "value" "[B")) (.int (Int32.ofNat bs.length)) :: (List.range bs.length).map (fun j => Jvm.Cond.eq (.elem (.field (.string own i) "java/lang/String" "value" "[B") (.int (Int32.ofNat j))) (.int (Int32.ofInt (bs.getD j 0))))
def itemT (q : String × Nat × Nat) : List Jvm.Cond := if decide ((q.1, q.2.1) = repT q.2.2) = true then strA q.1 q.2.1 (strB q.2.2) else [Jvm.Cond.eq (.string (repT q.2.2).1 (repT q.2.2).2) (.string q.1 q.2.1)]
abbrev wTm : Jvm.Term := .static "SnowNames$Strikes" "WORTH" "[I"
def wAt : List Jvm.Cond := Jvm.Cond.arrayOf wTm .int :: Jvm.Cond.eq (.length wTm) (.int (Int32.ofNat 7)) :: (List.range 7).map (fun j => Jvm.Cond.eq (.elem wTm (.int (Int32.ofNat j))) (.int (Int32.ofInt (worthT j))))
def sAt : List Jvm.Cond := [.eq (.static "java/lang/String" "COMPACT_STRINGS" "Z") (.int 1), .isRef (.static "jdk/internal/util/Preconditions" "SIOOBE_FORMATTER" "Ljava/util/function/BiFunction;"), .isRef (.static Bundle.tN "UNASSIGNED_STACK" Bundle.steD), .isRef (.static Bundle.tN "SUPPRESSED_SENTINEL" Bundle.listD)]
def nAt : List Jvm.Cond := [.not (.castable "java/lang/UnsupportedOperationException" "java/lang/IllegalArgumentException"), .not (.castable "java/lang/IndexOutOfBoundsException" "java/lang/IllegalArgumentException"), .not (.castable "java/util/NoSuchElementException" "java/lang/IllegalArgumentException"), .not (.castable "java/lang/IllegalStateException" "java/lang/IllegalArgumentException"), .not (.castable "java/lang/IllegalArgumentException" "java/lang/UnsupportedOperationException"), .not (.castable "java/lang/IndexOutOfBoundsException" "java/lang/UnsupportedOperationException"), .not (.castable "java/util/NoSuchElementException" "java/lang/UnsupportedOperationException"), .not (.castable "java/lang/IllegalStateException" "java/lang/UnsupportedOperationException"), .not (.castable "java/lang/IllegalArgumentException" "java/lang/IndexOutOfBoundsException"), .not (.castable "java/lang/UnsupportedOperationException" "java/lang/IndexOutOfBoundsException"), .not (.castable "java/util/NoSuchElementException" "java/lang/IndexOutOfBoundsException"), .not (.castable "java/lang/IllegalStateException" "java/lang/IndexOutOfBoundsException"), .not (.castable "java/lang/IllegalArgumentException" "java/util/NoSuchElementException"), .not (.castable "java/lang/UnsupportedOperationException" "java/util/NoSuchElementException"), .not (.castable "java/lang/IndexOutOfBoundsException" "java/util/NoSuchElementException"), .not (.castable "java/lang/IllegalStateException" "java/util/NoSuchElementException"), .not (.castable "java/lang/IllegalArgumentException" "java/lang/IllegalStateException"), .not (.castable "java/lang/UnsupportedOperationException" "java/lang/IllegalStateException"), .not (.castable "java/lang/IndexOutOfBoundsException" "java/lang/IllegalStateException"), .not (.castable "java/util/NoSuchElementException" "java/lang/IllegalStateException")]
def WANT : List Jvm.Cond := wAt ++ (sAt ++ (nAt ++ ordT.flatMap itemT))
set_option maxRecDepth 100000 in
theorem want_ok : subCk WANT FLT = true := by decide +kernel
theorem ord_rep : ∀ k : Fin nStr, ((repT k).1, (repT k).2, (k : Nat)) ∈ ordT := by decide +kernel
theorem ord_all : ∀ q ∈ strT, q ∈ ordT := by decide +kernel
/-- the places of words of the tables -/
theorem tb_w {w : Jvm.Cond} (i : Nat) (h : decide (lw_tbl[i]? = some w) = true) : w ∈ lw_tbl := List.mem_of_getElem? (of_decide_eq_true h)
def nwI : List Nat := [877, 947, 987, 1089, 1110, 1302, 2380, 2381, 2382, 2383, 2384, 2385, 2386, 2387, 2388, 2389, 2390, 2391, 2392, 2393, 2394, 2395, 2396, 2397, 178, 203, 317, 323, 362, 367, 390, 418, 879, 881, 883]
def nwCk : List Jvm.Cond → List Nat → Bool
  | [], _ => true
  | _ :: _, [] => false
  | w :: ws, i :: is => decide (lw_tbl[i]? = some w) && w.onTables && nwCk ws is
theorem nwCk_ok : ∀ (ws : List Jvm.Cond) (is : List Nat), nwCk ws is = true → ∀ w ∈ ws, w ∈ lw_tbl ∧ w.onTables = true
  | [], _, _ => fun w hw => by cases hw
  | _ :: _, [], h => by cases h
  | w :: ws, i :: is, h => by
    unfold nwCk at h
    rw [Bool.and_eq_true, Bool.and_eq_true] at h
    intro v hv
    rcases List.mem_cons.mp hv with y | y
    · rw [y]; exact ⟨tb_w i h.1.1, h.1.2⟩
    · exact nwCk_ok ws is h.2 v y
theorem nw_ok : nwCk nwL nwI = true := by decide +kernel
def srI : List Nat := [722, 784, 799, 800, 801, 814, 849, 858, 863, 864, 865, 866, 918, 954, 1019, 1021, 1022, 1026, 1039, 1050, 1051, 1052, 1061, 1062, 1063, 1064, 1065, 1066, 1067, 1068, 1069, 1096, 1117, 1139, 1233, 1260, 1309, 1329, 1351, 1352, 1361, 1427, 1608, 1809, 1816, 1817, 1826, 1839, 1848, 1849, 1850, 1859, 1860, 1861, 1862, 1863, 1864, 1865, 1866, 1867, 1880, 1881, 1890, 1942, 1951, 1956, 1957, 1958]
def srCk : List (String × Nat × Nat) → List Nat → Bool
  | [], _ => true
  | _ :: _, [] => false
  | q :: qs, i :: is => decide (lw_tbl[i]? = some (.stringRef q.1 q.2.1 (strN q.2.2))) && srCk qs is
theorem srCk_ok : ∀ (qs : List (String × Nat × Nat)) (is : List Nat), srCk qs is = true → ∀ q ∈ qs, Jvm.Cond.stringRef q.1 q.2.1 (strN q.2.2) ∈ lw_tbl
  | [], _, _ => fun w hw => by cases hw
  | _ :: _, [], h => by cases h
  | q :: qs, i :: is, h => by
    unfold srCk at h
    rw [Bool.and_eq_true] at h
    intro v hv
    rcases List.mem_cons.mp hv with y | y
    · rw [y]; exact tb_w i h.1
    · exact srCk_ok qs is h.2 v y
theorem sr_ok : srCk strT srI = true := by decide +kernel
theorem kA_of {s : State} {args : Array Value} {ty : FieldType} (h : (Jvm.Cond.arrayClass ty).before args s = true) : ∃ cA, ArrOfT s cA ty ∧ s.vm.findClass ("[" ++ ty.toString) = some cA := by
  obtain ⟨cA, kA, comp, h1, h2, h3⟩ := Cond.arrayClass_spec h
  exact ⟨cA, fun n z => ⟨fun k h => (by cases h), kA, h2, comp, h3⟩, h1⟩
theorem kO_of {s : State} {args : Array Value} {C : String} (h : (Jvm.Cond.arrayOver (.object C)).before args s = true) : ∃ cA, ArrOfT s cA (.object C) ∧ va_RA s cA (.object C) := by
  obtain ⟨comp, cA, kA, h1, -, h2, h3, h4⟩ := Cond.arrayOver_spec h
  exact ⟨cA, fun n z => ⟨fun k h => (by cases h), kA, h2, comp, h3⟩, kA, comp, h2, h3, h1, h4⟩
theorem GF_0 {s : State} {b L : Nat} {xs : Nat → Int32} (hts : ∀ w ∈ lw_tbl, w.before #[Value.ref b] s = true) (hX : va_X b L xs s s.heap) (hbl : b < s.heap.size) (hL : L ≤ 3072) (hgv : (Jvm.Cond.and given_1 narrow_1).before #[Value.ref b] s = true) :
    ∃ (D : va_G) (ka : KA) (xa : Nat → Nat) (zv : Value), xa 0 = b ∧ GF (tbS L (fun j => (xs j).toInt)) D ka xa zv (fun q => s.heap.size ≤ q) s s.heap := by
  have hA : ∀ a : Nat, a < s.heap.size → ¬ (fun q => s.heap.size ≤ q) a := fun a h g => Nat.not_le.mpr h g
  have hq : ∀ w ∈ WANT, w.before #[Value.ref b] s = true := fun w hw => flat_of_before _ hgv w (subCk_ok _ _ want_ok w hw)
  have hw1 : ∀ w ∈ wAt, w.before #[Value.ref b] s = true := fun w hw => hq w (List.mem_append_left _ hw)
  have hs1 : ∀ w ∈ sAt, w.before #[Value.ref b] s = true := fun w hw => hq w (List.mem_append_right _ (List.mem_append_left _ hw))
  have hn1 : ∀ w ∈ nAt, w.before #[Value.ref b] s = true := fun w hw => hq w (List.mem_append_right _ (List.mem_append_right _ (List.mem_append_left _ hw)))
  have ho1 : ∀ q ∈ ordT, ∀ w ∈ itemT q, w.before #[Value.ref b] s = true := fun q h w hw => hq w (List.mem_append_right _ (List.mem_append_right _ (List.mem_append_right _ (List.mem_flatMap.mpr ⟨q, h, hw⟩))))
  -- the classes
  have hcl : ∀ k : Nat, ∃ x : ClassId × (Nat → Nat), ∀ r, vwCl[k]? = some r → u_Kn s r.1 r.2.1 r.2.2 x.1 x.2 := fun k => by
    cases e : vwCl[k]? with
    | none => exact ⟨(0, fun _ => 0), fun r h => by cases h⟩
    | some r =>
      obtain ⟨g1, g2, -⟩ := (CF L (fun j => (xs j).toInt)).2 k r e
      obtain ⟨cC, iS, hK⟩ := u_known (C := r.1) (T := r.2.1) (N := r.2.2) (n := r.2.2) hts (fun w hw => (List.mem_filter.mp (g1 w hw)).1) (hts _ (List.mem_filter.mp g2).1)
      exact ⟨(cC, iS), fun r2 h => by cases h; exact hK⟩
  obtain ⟨dD, hdD⟩ := Classical.axiomOfChoice hcl
  obtain ⟨kI, i1, i2⟩ := kA_of (ty := .int) (hts _ (tb_w 200 (by decide +kernel)))
  obtain ⟨kJ, j1, j2⟩ := kA_of (ty := .long) (hts _ (tb_w 499 (by decide +kernel)))
  obtain ⟨kZ, z1, z2⟩ := kA_of (ty := .boolean) (hts _ (tb_w 446 (by decide +kernel)))
  have hao := hts _ (tb_w (w := .arrayOver (.object "SnowNames$World")) 314 (by decide +kernel))
  obtain ⟨kO, o1, o2⟩ := kO_of hao
  -- WORTH
  obtain ⟨tw, htw, hTw⟩ := va_Tof (tm := wTm) (ty := .int) (N := 7) (f := fun j => .int (Int32.ofInt (worthT j))) (A := fun q => s.heap.size ≤ q) (by decide) (hw1 _ (List.mem_cons_self)) (va_eqt (hw1 _ (List.mem_cons_of_mem _ List.mem_cons_self))) (fun j hj => va_eqt (hw1 _ (List.mem_cons_of_mem _ (List.mem_cons_of_mem _ (List.mem_map.mpr ⟨j, List.mem_range.mpr hj, rfl⟩))))) hA
  -- the texts
  have hst : ∀ k : Nat, ∃ q : Nat × Nat, k < nStr → (Jvm.Term.string (repT k).1 (repT k).2).eval #[Value.ref b] s none [] s = some (.ref q.1) ∧ va_O "java/lang/String" q.1 (fun q => s.heap.size ≤ q) s s.heap ∧ va_OF "java/lang/String" "coder" "B" (.int 0) q.1 (fun q => s.heap.size ≤ q) s s.heap ∧ va_OF "java/lang/String" "value" "[B" (.ref q.2) q.1 (fun q => s.heap.size ≤ q) s s.heap ∧ va_T .byte q.2 (strB k).length (fun j => .int (Int32.ofInt ((strB k).getD j 0))) (fun q => s.heap.size ≤ q) s s.heap := fun k => by
    by_cases hk : k < nStr
    · have hi := ho1 _ (ord_rep ⟨k, hk⟩)
      have ei : itemT ((repT k).1, (repT k).2, k) = strA (repT k).1 (repT k).2 (strB k) := if_pos (decide_eq_true rfl)
      dsimp only at hi
      rw [ei] at hi
      have hl31 : ∀ k : Fin nStr, (strB k).length < 2 ^ 31 := by decide +kernel
      obtain ⟨a, c, cA, kA, q1, q2, q3, q4, q5, q6, -⟩ := Cond.exactly_spec (args := #[Value.ref b]) (first := s) (o := none) (s := s) (idx := []) (t := .string (repT k).1 (repT k).2) (cls := "java/lang/String") (hi _ List.mem_cons_self)
      obtain ⟨t, ht, hT⟩ := va_Tof (f := fun j => .int (Int32.ofInt ((strB k).getD j 0))) (A := fun q => s.heap.size ≤ q) (hl31 ⟨k, hk⟩) (hi _ (List.mem_cons_of_mem _ (List.mem_cons_of_mem _ List.mem_cons_self))) (va_eqt (hi _ (List.mem_cons_of_mem _ (List.mem_cons_of_mem _ (List.mem_cons_of_mem _ List.mem_cons_self))))) (fun j hj => va_eqt (hi _ (List.mem_cons_of_mem _ (List.mem_cons_of_mem _ (List.mem_cons_of_mem _ (List.mem_cons_of_mem _ (List.mem_map.mpr ⟨j, List.mem_range.mpr hj, rfl⟩))))))) hA
      exact ⟨(a, t), fun _ => ⟨q1, ⟨cA, q3, q5, by rw [q6]; exact q2, hA a (Array.getElem?_eq_some_iff.mp q3).1⟩, vk_OFof q1 (va_eqt (hi _ (List.mem_cons_of_mem _ List.mem_cons_self))) hA, vk_OFof q1 ht hA, hT⟩⟩
    · exact ⟨(0, 0), fun h => absurd h hk⟩
  obtain ⟨ad, had⟩ := Classical.axiomOfChoice hst
  -- SIOOBE_FORMATTER
  have hzv := va_Zqof (C := "jdk/internal/util/Preconditions") (n := "SIOOBE_FORMATTER") (d := "Ljava/util/function/BiFunction;") (A := fun q => s.heap.size ≤ q) (hts _ (tb_w 752 (by decide +kernel))) (hts _ (tb_w 147 (by decide +kernel))) (hs1 _ (List.mem_cons_of_mem _ List.mem_cons_self)) hA
  obtain ⟨zv, hz1, hz2⟩ : ∃ zv : Value, va_Z "jdk/internal/util/Preconditions" "SIOOBE_FORMATTER" "Ljava/util/function/BiFunction;" zv (fun q => s.heap.size ≤ q) s s.heap ∧ (zv = .null ∨ ∃ a, zv = .ref a) := by
    rcases hzv with h | ⟨t, h⟩
    · exact ⟨_, h, Or.inl rfl⟩
    · exact ⟨_, h, Or.inr ⟨t, rfl⟩⟩
  obtain ⟨xa, hxa⟩ : ∃ xa : Nat → Nat, xa = fun n => if n = 0 then b else if n = 1 then tw else if n % 2 = 0 then (ad ((n - 2) / 2)).1 else (ad ((n - 2) / 2)).2 := ⟨_, rfl⟩
  have x0 : xa 0 = b := by rw [hxa]; rfl
  have x1 : xa 1 = tw := by rw [hxa]; rfl
  have xe : ∀ k, xa (2 * k + 2) = (ad k).1 := fun k => by
    rw [hxa]
    dsimp only
    rw [if_neg (by omega), if_neg (by omega), if_pos (by omega), show (2 * k + 2 - 2) / 2 = k by omega]
  have xo : ∀ k, xa (2 * k + 3) = (ad k).2 := fun k => by
    rw [hxa]
    dsimp only
    rw [if_neg (by omega), if_neg (by omega), if_neg (by omega), show (2 * k + 3 - 2) / 2 = k by omega]
  refine ⟨(fun k => (dD k).1, fun k => (dD k).2), (kI, kJ, kZ, kO), xa, zv, x0, ⟨fun k r h => hdD k r h, fun k q h => ?_⟩, ⟨?_, by show L < 2147483648; omega⟩, ⟨by rw [x1]; exact hTw, by rw [x1]; exact va_Zof (hts _ (tb_w 622 (by decide +kernel))) (hts _ (tb_w 161 (by decide +kernel))) htw hA⟩, fun q hqm => ?_, fun k hk => ?_, va_Zof (hts _ (tb_w 736 (by decide +kernel))) (hts _ (tb_w 145 (by decide +kernel))) (va_eqt (hs1 _ List.mem_cons_self)) hA, ⟨hz1, hz2⟩, vx_Zqof (hts _ (tb_w 902 (by decide +kernel))) (hts _ (tb_w 149 (by decide +kernel))) (hs1 _ (List.mem_cons_of_mem _ (List.mem_cons_of_mem _ List.mem_cons_self))) hA, vx_Zqof (hts _ (tb_w 904 (by decide +kernel))) (hts _ (tb_w 149 (by decide +kernel))) (hs1 _ (List.mem_cons_of_mem _ (List.mem_cons_of_mem _ (List.mem_cons_of_mem _ List.mem_cons_self)))) hA, ?_, va_AO.of hao, fun w hw => ?_⟩
  · match k, h with
    | 0, h => cases h; exact ⟨i1, i2⟩
    | 1, h => cases h; exact ⟨j1, j2⟩
    | 2, h => cases h; exact ⟨z1, z2⟩
    | 3, h => cases h; exact ⟨o1, o2⟩
    | k + 4, h => cases h
  · rw [x0]
    obtain ⟨scr, h1, h2, h3, h4, h5⟩ := hX
    exact ⟨scr, h1, h2, h3, by rw [h4]; exact Nat.le_refl _, by rw [h4]; rfl, fun j hj => by
      show scr.slots[j]? = some (.int (Int32.ofInt ((xs j).toInt)))
      rw [Int32.ofInt_toInt]; exact h5 j hj, hA b hbl⟩
  · have hk : ∀ q ∈ strT, q.2.2 < nStr := by decide +kernel
    obtain ⟨e1, -⟩ := had q.2.2 (hk q hqm)
    have hi := ho1 q (ord_all q hqm)
    refine vk_R.of (A := #[Value.ref b]) (hts _ (srCk_ok _ _ sr_ok q hqm)) ?_
    rw [xe]
    by_cases z : (q.1, q.2.1) = repT q.2.2
    · rw [← z] at e1
      exact e1
    · have ei : itemT q = [Jvm.Cond.eq (.string (repT q.2.2).1 (repT q.2.2).2) (.string q.1 q.2.1)] := if_neg (fun h => z (of_decide_eq_true h))
      rw [ei] at hi
      exact va_eqR (hi _ List.mem_cons_self) e1
  · obtain ⟨-, e2, e3, e4, e5⟩ := had k hk
    rw [xe, xo]
    exact ⟨e2, e3, e4, e5⟩
  · have hN : ∀ E ∈ ["java/lang/IllegalStateException", "java/lang/IllegalArgumentException", "java/lang/IndexOutOfBoundsException", "java/lang/UnsupportedOperationException", "java/util/NoSuchElementException"], ∀ F ∈ ["java/lang/IllegalStateException", "java/lang/IllegalArgumentException", "java/lang/IndexOutOfBoundsException", "java/lang/UnsupportedOperationException", "java/util/NoSuchElementException"], E ≠ F → Jvm.Cond.not (.castable E F) ∈ nAt := by decide +kernel
    intro E hE F hF hne
    exact va_Nc.of (hn1 _ (hN E hE F hF hne))
  · obtain ⟨g1, g2⟩ := nwCk_ok _ _ nw_ok w hw
    exact va_Nw.of g2 (hts _ g1)
