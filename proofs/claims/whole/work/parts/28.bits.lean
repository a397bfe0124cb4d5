/-! ===== SETS AS BITS ===== -/
def pw (p : Int) : Int := 2 ^ p.toNat
theorem pw_s {p : Int} (h : 0 ≤ p) : pw (p + 1) = 2 * pw p := by
  unfold pw
  rw [show (p + 1).toNat = p.toNat + 1 by omega, Int.pow_succ]
  omega
theorem pw_pos (p : Int) : 0 < pw p := Int.pow_pos (by decide)
theorem pw_le {p q : Int} (h0 : 0 ≤ p) (h : p ≤ q) : pw p ≤ pw q := by
  have : ∀ n : Nat, pw p ≤ pw (p + n) := by
    intro n
    induction n with
    | zero => rw [show p + ((0 : Nat) : Int) = p by omega]; exact Int.le_refl _
    | succ n ih =>
      rw [show p + ((n + 1 : Nat) : Int) = p + n + 1 by omega, pw_s (by omega)]
      have := pw_pos (p + n)
      omega
  have := this (q - p).toNat
  rwa [show p + ((q - p).toNat : Int) = q by omega] at this
theorem sumN_congr {f g : Int → Int} : ∀ {n : Nat}, (∀ i : Int, 0 ≤ i → i < n → f i = g i) → sumN f n = sumN g n
  | 0, _ => rfl
  | n + 1, h => by
    show sumN f n + f n = sumN g n + g n
    rw [sumN_congr (fun i h0 h1 => h i h0 (by omega)), h n (by omega) (by omega)]
theorem sumZ_congr {f g : Int → Int} {n : Int} (h : ∀ i, 0 ≤ i → i < n → f i = g i) : sumZ n f = sumZ n g := sumN_congr fun i h0 h1 => h i h0 (by omega)
theorem sumN_le {f : Int → Int} {a b : Int} : ∀ {n : Nat}, (∀ i : Int, 0 ≤ i → i < n → a ≤ f i ∧ f i ≤ b) → a * n ≤ sumN f n ∧ sumN f n ≤ b * n
  | 0, _ => by show a * 0 ≤ 0 ∧ 0 ≤ b * 0; omega
  | n + 1, h => by
    have h1 := sumN_le (f := f) (a := a) (b := b) (n := n) (fun i h0 h1 => h i h0 (by omega))
    have h2 := h n (by omega) (by omega)
    show a * ((n + 1 : Nat) : Int) ≤ sumN f n + f n ∧ sumN f n + f n ≤ b * ((n + 1 : Nat) : Int)
    rw [show a * ((n + 1 : Nat) : Int) = a * n + a by rw [Int.natCast_add, Int.mul_add]; omega, show b * ((n + 1 : Nat) : Int) = b * n + b by rw [Int.natCast_add, Int.mul_add]; omega]
    omega
theorem sumZ_le {f : Int → Int} {n a b : Int} (hn : 0 ≤ n) (h : ∀ i, 0 ≤ i → i < n → a ≤ f i ∧ f i ≤ b) : a * n ≤ sumZ n f ∧ sumZ n f ≤ b * n := by
  have := sumN_le (f := f) (a := a) (b := b) (n := n.toNat) (fun i h0 h1 => h i h0 (by omega))
  rwa [Int.toNat_of_nonneg hn] at this
/-- the set of those below n that are c, as bits -/
noncomputable def setZ (n : Int) (c : Int → Prop) : Int := sumZ n fun p => @ite _ (c p) (Classical.propDecidable _) (pw p) 0
theorem setZ_0 {c : Int → Prop} : setZ 0 c = 0 := rfl
theorem setZ_y {i : Int} {c : Int → Prop} (h : 0 ≤ i) (hc : c i) : setZ (i + 1) c = setZ i c + pw i := by
  unfold setZ
  rw [sumZ_s h, if_pos hc]
theorem setZ_n {i : Int} {c : Int → Prop} (h : 0 ≤ i) (hc : ¬ c i) : setZ (i + 1) c = setZ i c := by
  unfold setZ
  rw [sumZ_s h, if_neg hc]
  omega
theorem setZ_congr {n : Int} {c e : Int → Prop} (h : ∀ i, 0 ≤ i → i < n → (c i ↔ e i)) : setZ n c = setZ n e := by
  refine sumZ_congr fun i h0 h1 => ?_
  by_cases z : c i
  · rw [if_pos z, if_pos ((h i h0 h1).mp z)]
  · rw [if_neg z, if_neg (fun q => z ((h i h0 h1).mpr q))]
theorem setZ_lt {n : Int} {c : Int → Prop} (h : 0 ≤ n) : 0 ≤ setZ n c ∧ setZ n c < pw n := by
  have : ∀ k : Nat, 0 ≤ setZ k c ∧ setZ k c < pw k := by
    intro k
    induction k with
    | zero => exact ⟨Int.le_refl _, by show (0 : Int) < pw 0; decide⟩
    | succ k ih =>
      rw [show ((k + 1 : Nat) : Int) = (k : Int) + 1 by omega, pw_s (by omega)]
      have := pw_pos k
      by_cases z : c k
      · rw [setZ_y (by omega) z]; omega
      · rw [setZ_n (by omega) z]; omega
  have := this n.toNat
  rwa [Int.toNat_of_nonneg h] at this
theorem bt_or : ∀ p : Fin 8, ∀ a : Fin 256, ((a : Nat) : Int) < pw (p : Nat) → orI (a : Nat) (shlI 1 (p : Nat)) = ((a : Nat) : Int) + pw (p : Nat) := by decide +kernel
theorem bt_or0 : ∀ a : Fin 256, orI (a : Nat) 0 = ((a : Nat) : Int) := by decide +kernel
theorem bt_lo : ∀ p : Fin 8, ∀ k : Fin 8, ∀ a : Fin 128, ((a : Nat) : Int) < pw (p : Nat) → (k : Nat) < (p : Nat) → andI (shrI (((a : Nat) : Int) + pw (p : Nat)) (k : Nat)) 1 = andI (shrI (a : Nat) (k : Nat)) 1 := by decide +kernel
theorem bt_hi : ∀ p : Fin 8, ∀ a : Fin 128, ((a : Nat) : Int) < pw (p : Nat) → andI (shrI (((a : Nat) : Int) + pw (p : Nat)) (p : Nat)) 1 = 1 ∧ andI (shrI (a : Nat) (p : Nat)) 1 = 0 := by decide +kernel
theorem bt_0 : ∀ p : Fin 8, andI (shrI 0 (p : Nat)) 1 = 0 := by decide +kernel
theorem or_pw {p a : Int} (h0 : 0 ≤ p) (h1 : p < 8) (ha : 0 ≤ a) (ha1 : a < pw p) : orI a (shlI 1 p) = a + pw p := by
  have q : pw p ≤ 128 := pw_le (q := 7) h0 (by omega)
  have := bt_or ⟨p.toNat, by omega⟩ ⟨a.toNat, by omega⟩
  dsimp only at this
  rw [Int.toNat_of_nonneg h0, Int.toNat_of_nonneg ha] at this
  exact this ha1
theorem or_0 {a : Int} (ha : 0 ≤ a) (ha1 : a < 256) : orI a 0 = a := by
  have := bt_or0 ⟨a.toNat, by omega⟩
  dsimp only at this
  rwa [Int.toNat_of_nonneg ha] at this
theorem bit_lo {p k a : Int} (h1 : p < 8) (hk : 0 ≤ k) (hkp : k < p) (ha : 0 ≤ a) (ha1 : a < pw p) : bitB (a + pw p) k ↔ bitB a k := by
  have q : pw p ≤ 128 := pw_le (q := 7) (by omega) (by omega)
  have := bt_lo ⟨p.toNat, by omega⟩ ⟨k.toNat, by omega⟩ ⟨a.toNat, by omega⟩
  dsimp only at this
  rw [Int.toNat_of_nonneg (show 0 ≤ p by omega), Int.toNat_of_nonneg ha, Int.toNat_of_nonneg hk] at this
  unfold bitB
  rw [this ha1 (by omega)]
theorem bit_hi {p a : Int} (h0 : 0 ≤ p) (h1 : p < 8) (ha : 0 ≤ a) (ha1 : a < pw p) : bitB (a + pw p) p ∧ ¬ bitB a p := by
  have q : pw p ≤ 128 := pw_le (q := 7) (by omega) (by omega)
  have := bt_hi ⟨p.toNat, by omega⟩ ⟨a.toNat, by omega⟩
  dsimp only at this
  rw [Int.toNat_of_nonneg h0, Int.toNat_of_nonneg ha] at this
  unfold bitB
  have := this ha1
  omega
theorem bit_0 {k : Int} (h0 : 0 ≤ k) (h1 : k < 8) : ¬ bitB 0 k := by
  have := bt_0 ⟨k.toNat, by omega⟩
  dsimp only at this
  rw [Int.toNat_of_nonneg h0] at this
  unfold bitB
  omega
theorem bt_mem : ∀ a : Fin 256, ∀ t : Fin 8, ∀ j : Fin 8, (andI (shrI (orI (a : Nat) (shlI 1 (t : Nat))) (j : Nat)) 1 = 1 ↔ andI (shrI (a : Nat) (j : Nat)) 1 = 1 ∨ (j : Nat) = (t : Nat)) ∧ 0 ≤ orI (a : Nat) (shlI 1 (t : Nat)) ∧ orI (a : Nat) (shlI 1 (t : Nat)) < 256 := by decide +kernel
theorem bt_lt : ∀ a : Fin 64, ∀ t : Fin 6, orI (a : Nat) (shlI 1 (t : Nat)) < 64 := by decide +kernel
theorem or_mem {a t j : Int} (ha : 0 ≤ a) (ha1 : a < 256) (ht : 0 ≤ t) (ht1 : t < 8) (hj : 0 ≤ j) (hj1 : j < 8) : bitB (orI a (shlI 1 t)) j ↔ bitB a j ∨ j = t := by
  have := (bt_mem ⟨a.toNat, by omega⟩ ⟨t.toNat, by omega⟩ ⟨j.toNat, by omega⟩).1
  dsimp only at this
  rw [Int.toNat_of_nonneg ha, Int.toNat_of_nonneg ht, Int.toNat_of_nonneg hj] at this
  unfold bitB
  rw [this]
  omega
theorem or_bd {a t : Int} (ha : 0 ≤ a) (ha1 : a < 256) (ht : 0 ≤ t) (ht1 : t < 8) : 0 ≤ orI a (shlI 1 t) ∧ orI a (shlI 1 t) < 256 := by
  have := (bt_mem ⟨a.toNat, by omega⟩ ⟨t.toNat, by omega⟩ ⟨0, by omega⟩).2
  dsimp only at this
  rwa [Int.toNat_of_nonneg ha, Int.toNat_of_nonneg ht] at this
theorem or_bd6 {a t : Int} (ha : 0 ≤ a) (ha1 : a < 64) (ht : 0 ≤ t) (ht1 : t < 6) : orI a (shlI 1 t) < 64 := by
  have := bt_lt ⟨a.toNat, by omega⟩ ⟨t.toNat, by omega⟩
  dsimp only at this
  rwa [Int.toNat_of_nonneg ha, Int.toNat_of_nonneg ht] at this
theorem or_set {i : Int} {c : Int → Prop} (h0 : 0 ≤ i) (h1 : i < 8) : orI (setZ i c) (shlI 1 i) = setZ i c + pw i := or_pw h0 h1 (setZ_lt h0).1 (setZ_lt h0).2
theorem or_set0 {i : Int} {c : Int → Prop} (h0 : 0 ≤ i) (h1 : i ≤ 8) : orI (setZ i c) 0 = setZ i c := or_0 (setZ_lt h0).1 (by have := (setZ_lt (c := c) h0).2; have q : pw i ≤ 256 := pw_le (q := 8) h0 h1; omega)
theorem setZ_yes {i a : Int} {c : Int → Prop} (h0 : 0 ≤ i) (h1 : i < 8) (ha : a = setZ i c) (hc : c i) : orI a (shlI 1 i) = setZ (i + 1) c := by
  rw [ha, or_set h0 h1, setZ_y h0 hc]
theorem setZ_no0 {i a : Int} {c : Int → Prop} (h0 : 0 ≤ i) (h1 : i < 8) (ha : a = setZ i c) (hc : ¬ c i) : orI a 0 = setZ (i + 1) c := by
  rw [ha, or_set0 h0 (by omega), setZ_n h0 hc]
theorem setZ_no {i a : Int} {c : Int → Prop} (h0 : 0 ≤ i) (ha : a = setZ i c) (hc : ¬ c i) : a = setZ (i + 1) c := by
  rw [ha, setZ_n h0 hc]
/-- who is in a set -/
theorem bit_set {n k : Int} {c : Int → Prop} (hn : n ≤ 8) (h0 : 0 ≤ k) (h1 : k < n) : bitB (setZ n c) k ↔ c k := by
  have : ∀ j : Nat, k + 1 + j ≤ 8 → (bitB (setZ (k + 1 + j) c) k ↔ c k) := by
    intro j
    induction j with
    | zero =>
      intro h
      rw [show k + 1 + ((0 : Nat) : Int) = k + 1 by omega]
      by_cases z : c k
      · rw [setZ_y h0 z]
        exact ⟨fun _ => z, fun _ => (bit_hi h0 (by omega) (setZ_lt h0).1 (setZ_lt h0).2).1⟩
      · rw [setZ_n h0 z]
        exact ⟨fun q => absurd q (bit_hi h0 (by omega) (setZ_lt h0).1 (setZ_lt h0).2).2, fun q => absurd q z⟩
    | succ j ih =>
      intro h
      rw [show k + 1 + ((j + 1 : Nat) : Int) = (k + 1 + j) + 1 by omega]
      have hj := ih (by omega)
      by_cases z : c (k + 1 + j)
      · rw [setZ_y (by omega) z, bit_lo (by omega) h0 (by omega) (setZ_lt (by omega)).1 (setZ_lt (by omega)).2]
        exact hj
      · rw [setZ_n (by omega) z]
        exact hj
  have := this (n - (k + 1)).toNat (by omega)
  rwa [show k + 1 + ((n - (k + 1)).toNat : Int) = n by omega] at this
theorem bit_set_o {n k : Int} {c : Int → Prop} (hn : 0 ≤ n) (h0 : n ≤ k) (h1 : k < 8) : ¬ bitB (setZ n c) k := by
  have h := setZ_lt (c := c) hn
  have q : pw n ≤ pw k := pw_le hn h0
  exact (bit_hi (by omega) h1 h.1 (by omega)).2
/-- numbers below 64 are sets -/
theorem bt_all : ∀ a : Fin 256, ((a : Nat) : Int) = sumZ 8 fun p => if andI (shrI (a : Nat) p) 1 = 1 then pw p else 0 := by decide +kernel
theorem set_of {a : Int} (h0 : 0 ≤ a) (h1 : a < 256) : a = setZ 8 (bitB a) := by
  have := bt_all ⟨a.toNat, by omega⟩
  dsimp only at this
  rw [Int.toNat_of_nonneg h0] at this
  refine this.trans (sumZ_congr fun i _ _ => ?_)
  unfold bitB
  by_cases z : andI (shrI a i) 1 = 1
  · rw [if_pos z, if_pos z]
  · rw [if_neg z, if_neg z]
theorem set_ext {a b : Int} (h0 : 0 ≤ a) (h1 : a < 256) (h2 : 0 ≤ b) (h3 : b < 256) (h : ∀ k, 0 ≤ k → k < 8 → (bitB a k ↔ bitB b k)) : a = b := by
  rw [set_of h0 h1, set_of h2 h3]
  exact setZ_congr h
theorem bitsM_le {s i : Int} (h : 0 ≤ i) : 0 ≤ bitsM s i ∧ bitsM s i ≤ i := by
  have := sumZ_le (f := fun k => andI (shrI s k) 1) (n := i) (a := 0) (b := 1) h (fun i _ _ => by have := andI_1 (shrI s i); omega)
  unfold bitsM
  omega
theorem bits_le (s : Int) : 0 ≤ bitsM s 31 ∧ bitsM s 31 ≤ 31 := by
  have := sumZ_le (f := fun k => andI (shrI s k) 1) (n := 31) (a := 0) (b := 1) (by decide) (fun i _ _ => by have := andI_1 (shrI s i); omega)
  unfold bitsM
  omega
