/-! ===== numbers: Int against Int32, Int64 ===== -/
theorem nt_ti {x : Int} (h : R32 x) : (Int32.ofInt x).toInt = x := Int32.toInt_ofInt_of_le (by have := h.1; omega) (by have := h.2; omega)
theorem nt_tl {x : Int} (h : R64 x) : (Int64.ofInt x).toInt = x := Int64.toInt_ofInt_of_le (by have := h.1; omega) (by have := h.2; omega)
theorem nt_lt {x y : Int} (hx : R32 x) (hy : R32 y) : Int32.ofInt x < Int32.ofInt y ↔ x < y := by rw [Int32.lt_iff_toInt_lt, nt_ti hx, nt_ti hy]
theorem nt_le {x y : Int} (hx : R32 x) (hy : R32 y) : Int32.ofInt x ≤ Int32.ofInt y ↔ x ≤ y := by rw [Int32.le_iff_toInt_le, nt_ti hx, nt_ti hy]
theorem nt_eq {x y : Int} (h : (R32 x ∧ R32 y) ∨ x = y) : Int32.ofInt x = Int32.ofInt y ↔ x = y := by
  rcases h with ⟨hx, hy⟩ | rfl
  · rw [← Int32.toInt_inj, nt_ti hx, nt_ti hy]
  · simp
theorem nt_lt' {x y : Int} (h : (R32 x ∧ R32 y) ∨ x = y) : Int32.ofInt x < Int32.ofInt y ↔ x < y := by
  rcases h with ⟨hx, hy⟩ | rfl
  · exact nt_lt hx hy
  · rw [Int32.lt_iff_toInt_lt]; omega
theorem nt_le' {x y : Int} (h : (R32 x ∧ R32 y) ∨ x = y) : Int32.ofInt x ≤ Int32.ofInt y ↔ x ≤ y := by
  rcases h with ⟨hx, hy⟩ | rfl
  · exact nt_le hx hy
  · rw [Int32.le_iff_toInt_le]; omega
theorem nt_0 : R32 0 := ⟨by decide, by decide⟩
theorem nt_lt64 {x y : Int} (hx : R64 x) (hy : R64 y) : Int64.ofInt x < Int64.ofInt y ↔ x < y := by rw [Int64.lt_iff_toInt_lt, nt_tl hx, nt_tl hy]
theorem nt_eq64 {x y : Int} (hx : R64 x) (hy : R64 y) : Int64.ofInt x = Int64.ofInt y ↔ x = y := by rw [← Int64.toInt_inj, nt_tl hx, nt_tl hy]
theorem nt_R {x : Int} (h0 : 0 ≤ x) (h1 : x < 2147483648) : R32 x := ⟨by omega, h1⟩
theorem nt_RL {x : Int} (h0 : 0 ≤ x) (h1 : x < 9223372036854775808) : R64 x := ⟨by omega, h1⟩
theorem nt_div {x y : Int} (hx : 0 ≤ x ∧ x < 2147483648) (hy : 0 < y ∧ y < 2147483648) : Int32.ofInt x / Int32.ofInt y = Int32.ofInt (x / y) := by
  have hd0 : 0 ≤ x / y := Int.ediv_nonneg hx.1 (by omega)
  have hd1 : x / y ≤ x := Int.ediv_le_self y hx.1
  apply Int32.toInt_inj.mp
  rw [Int32.toInt_div, nt_ti (nt_R hx.1 hx.2), nt_ti (nt_R (by omega) hy.2), nt_ti (nt_R hd0 (by omega)), Int.tdiv_eq_ediv_of_nonneg hx.1]
  exact fb_bm (by omega) (by omega)
where
  fb_bm {z : Int} (h1 : -2147483648 ≤ z) (h2 : z < 2147483648) : z.bmod (2 ^ 32) = z := by
    rw [Int.bmod_def]; split <;> omega
theorem nt_rem {x y : Int} (hx : 0 ≤ x ∧ x < 2147483648) (hy : 0 < y ∧ y < 2147483648) : Int32.ofInt x - Int32.ofInt x / Int32.ofInt y * Int32.ofInt y = Int32.ofInt (x % y) := by
  rw [nt_div hx hy, ← Int32.ofInt_mul, ← Int32.ofInt_sub]
  congr 1
  have h := Int.ediv_mul_add_emod x y
  omega
theorem nt_ne0 {y : Int} (hy : 0 < y ∧ y < 2147483648) : ¬ Int32.ofInt y = 0 := by
  intro h
  have h1 : (Int32.ofInt y).toInt = (0 : Int32).toInt := by rw [h]
  rw [nt_ti (nt_R (by omega) hy.2)] at h1
  simp at h1
  omega
theorem nt_divL {x y : Int} (hx : 0 ≤ x ∧ x < 9223372036854775808) (hy : 0 < y ∧ y < 9223372036854775808) : Int64.ofInt x / Int64.ofInt y = Int64.ofInt (x / y) := by
  have hd0 : 0 ≤ x / y := Int.ediv_nonneg hx.1 (by omega)
  have hd1 : x / y ≤ x := Int.ediv_le_self y hx.1
  apply Int64.toInt_inj.mp
  rw [Int64.toInt_div, nt_tl (nt_RL hx.1 hx.2), nt_tl (nt_RL (by omega) hy.2), nt_tl (nt_RL hd0 (by omega)), Int.tdiv_eq_ediv_of_nonneg hx.1]
  rw [Int.bmod_def]; split <;> omega
theorem nt_ne0L {y : Int} (hy : 0 < y ∧ y < 9223372036854775808) : ¬ Int64.ofInt y = 0 := by
  intro h
  have h1 : (Int64.ofInt y).toInt = (0 : Int64).toInt := by rw [h]
  rw [nt_tl (nt_RL (by omega) hy.2)] at h1
  simp at h1
  omega
theorem nt_i2l {x : Int} (h : R32 x) : (Int32.ofInt x).toInt64 = Int64.ofInt x := by
  apply Int64.toInt_inj.mp
  rw [Int32.toInt_toInt64, nt_ti h, nt_tl ⟨by have := h.1; omega, by have := h.2; omega⟩]
theorem nt_l2i (x : Int) : (Int64.ofInt x).toInt32 = Int32.ofInt x := by
  apply Int32.toInt_inj.mp
  rw [Int64.toInt_toInt32, Int64.toInt_ofInt, Int32.toInt_ofInt]
  simp only [Int32.size, Int64.size, Int.bmod_def]
  split <;> split <;> split <;> omega
theorem nt_cmp {x y : Int} (hx : R64 x) (hy : R64 y) : lg_cmp (Int64.ofInt x) (Int64.ofInt y) = Int32.ofInt (cmpI x y) := by
  unfold lg_cmp cmpI
  simp only [nt_lt64 hy hx, nt_lt64 hx hy, nt_eq64 hx hy]
  by_cases h1 : x < y
  · have h2 : ¬ y < x := by omega
    have h3 : ¬ x = y := by omega
    simp [h1, h2, h3]
  · by_cases h3 : x = y
    · subst h3
      simp
    · have h2 : y < x := by omega
      simp [h1, h2, h3]
theorem nt_cl {j : Int} (h : R32 j) : (Int32.ofInt j).toNatClampNeg = j.toNat := by
  show (Int32.ofInt j).toInt.toNat = j.toNat
  rw [nt_ti h]
theorem nt_cl0 {j : Int} (h0 : 0 ≤ j) (h1 : j < 2147483648) : (Int32.ofInt j).toNatClampNeg = j.toNat := nt_cl (nt_R h0 h1)
theorem nt_nn {j : Int} (h0 : 0 ≤ j) (h1 : j < 2147483648) : ¬ Int32.ofInt j < 0 := by
  intro h
  have h2 : Int32.ofInt j < Int32.ofInt 0 := h
  rw [nt_lt (nt_R h0 h1) nt_0] at h2
  omega
theorem nt_in {j : Int} {len : Nat} (h0 : 0 ≤ j) (h1 : j < len) (h2 : len < 2147483648) : vp_in (Int32.ofInt j) len := by
  rintro (h | h)
  · exact nt_nn h0 (by omega) h
  · rw [nt_cl0 h0 (by omega)] at h
    omega
theorem nt_and (x y : Int) : Int32.ofInt (andI x y) = Int32.ofInt x &&& Int32.ofInt y := Int32.ofInt_toInt _
theorem nt_or (x y : Int) : Int32.ofInt (orI x y) = Int32.ofInt x ||| Int32.ofInt y := Int32.ofInt_toInt _
theorem nt_xor (x y : Int) : Int32.ofInt (xorI x y) = Int32.ofInt x ^^^ Int32.ofInt y := Int32.ofInt_toInt _
theorem nt_shl (x y : Int) : Int32.ofInt (shlI x y) = Int32.ofInt x <<< (Int32.ofInt y &&& 31) := Int32.ofInt_toInt _
theorem nt_shr (x y : Int) : Int32.ofInt (shrI x y) = Int32.ofInt x >>> (Int32.ofInt y &&& 31) := Int32.ofInt_toInt _
theorem nt_ushr (x y : Int) : Int32.ofInt (ushrI x y) = ((Int32.ofInt x).toUInt32 >>> ((Int32.ofInt y).toUInt32 &&& Int32.toUInt32 31)).toInt32 := Int32.ofInt_toInt _
theorem nt_nat (n : Nat) : Int32.ofNat n = Int32.ofInt n := by
  apply Int32.toInt_inj.mp
  rw [Int32.toInt_ofInt, Int32.toInt_ofNat']
theorem nt_min {x y : Int} (hx : R32 x) (hy : R32 y) : (if Int32.ofInt y < Int32.ofInt x then Int32.ofInt y else Int32.ofInt x) = Int32.ofInt (if y < x then y else x) := by
  simp only [nt_lt hy hx]
  split <;> rfl
theorem nt_max {x y : Int} (hx : R32 x) (hy : R32 y) : (if Int32.ofInt x < Int32.ofInt y then Int32.ofInt y else Int32.ofInt x) = Int32.ofInt (if x < y then y else x) := by
  simp only [nt_lt hx hy]
  split <;> rfl
theorem nt_bool {x : Int} (h : x = 0 ∨ x = 1) : narrow .boolean (.int (Int32.ofInt x)) = .int (Int32.ofInt x) ∧ fits .boolean (.int (Int32.ofInt x)) = true := by
  rcases h with rfl | rfl <;> exact ⟨by decide, by decide⟩
theorem nt_i2c {x : Int} (h : 0 ≤ x ∧ x < 65536) : ((Int32.ofInt x).toUInt32 % 65536).toInt32 = Int32.ofInt x := by
  obtain ⟨n, rfl⟩ : ∃ n : Nat, x = n := ⟨x.toNat, by omega⟩
  have hn : n < 65536 := by omega
  have e : Int32.ofInt (n : Int) = nI n := (nt_nat n).symm
  rw [e, pk_char, pk_tn (by omega), Nat.mod_eq_of_lt hn]
