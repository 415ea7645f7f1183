/-! numbers: Int32.ofInt, in its range, keeps what a comparison asks -/
theorem oi {x : Int} (h : -2147483648 ≤ x ∧ x < 2147483648) : (Int32.ofInt x).toInt = x := by
  rw [Int32.toInt_ofInt]
  have h1 := h.1
  have h2 := h.2
  rw [Int.bmod_eq_of_le] <;> simp [Int32.size] <;> omega
theorem ol {x : Int} (h : -9223372036854775808 ≤ x ∧ x < 9223372036854775808) : (Int64.ofInt x).toInt = x := by
  rw [Int64.toInt_ofInt]
  have h1 := h.1
  have h2 := h.2
  rw [Int.bmod_eq_of_le] <;> simp [Int64.size] <;> omega
theorem oi_le {x y : Int} (hx : -2147483648 ≤ x ∧ x < 2147483648) (hy : -2147483648 ≤ y ∧ y < 2147483648) : Int32.ofInt x ≤ Int32.ofInt y ↔ x ≤ y := by
  rw [Int32.le_iff_toInt_le, oi hx, oi hy]
theorem oi_lt {x y : Int} (hx : -2147483648 ≤ x ∧ x < 2147483648) (hy : -2147483648 ≤ y ∧ y < 2147483648) : Int32.ofInt x < Int32.ofInt y ↔ x < y := by
  rw [Int32.lt_iff_toInt_lt, oi hx, oi hy]
theorem oi_eq {x y : Int} (hx : -2147483648 ≤ x ∧ x < 2147483648) (hy : -2147483648 ≤ y ∧ y < 2147483648) : Int32.ofInt x = Int32.ofInt y ↔ x = y :=
  ⟨fun h => by rw [← oi hx, ← oi hy, h], fun h => by rw [h]⟩
theorem oi_0 : Int32.ofInt 0 = 0 := by decide +kernel
theorem oi_cl {x : Int} {n : Nat} (h0 : 0 ≤ x) (h1 : x < n) (hn : n < 2147483648) : (Int32.ofInt x).toNatClampNeg = x.toNat := by
  have h := oi (x := x) (by omega)
  show (Int32.ofInt x).toInt.toNat = x.toNat
  rw [h]
theorem oi_in {x : Int} {n : Nat} (h0 : 0 ≤ x) (h1 : x < n) (hn : n < 2147483648) : ¬ (Int32.ofInt x < 0 ∨ n ≤ (Int32.ofInt x).toNatClampNeg) := by
  rw [oi_cl h0 h1 hn, ← oi_0, oi_lt (by omega) (by omega)]
  omega
theorem oi_nat (n : Nat) : Int32.ofNat n = Int32.ofInt n := by
  first | rfl | exact Int32.ofNat_eq_ofInt | exact (Int32.ofInt_eq_ofNat).symm | simp
theorem oi_div {x y : Int} (hx : -2147483648 ≤ x ∧ x < 2147483648) (hy : 0 < y ∧ y < 2147483648) : Int32.ofInt x / Int32.ofInt y = Int32.ofInt (x.tdiv y) := by
  have h1 : -2147483648 ≤ x.tdiv y ∧ x.tdiv y < 2147483648 := by
    have hb : (x.tdiv y).natAbs = x.natAbs / y.natAbs := Int.natAbs_tdiv x y
    have hc : (x.natAbs / y.natAbs) ≤ x.natAbs := Nat.div_le_self _ _
    rcases Int.le_total 0 x with h0 | h0
    · have := Int.tdiv_nonneg h0 (Int.le_of_lt hy.1)
      omega
    · have h9 := Int.tdiv_nonneg (a := -x) (b := y) (by omega) (Int.le_of_lt hy.1)
      rw [Int.neg_tdiv] at h9
      omega
  apply Int32.toInt_inj.mp
  rw [Int32.toInt_div, oi hx, oi (by omega), oi h1]
  rw [Int.bmod_eq_of_le] <;> omega
theorem oi_rem {x y : Int} (hx : -2147483648 ≤ x ∧ x < 2147483648) (hy : 0 < y ∧ y < 2147483648) : Int32.ofInt x - Int32.ofInt x / Int32.ofInt y * Int32.ofInt y = Int32.ofInt (x.tmod y) := by
  rw [oi_div hx hy, ← Int32.ofInt_mul, ← Int32.ofInt_sub]
  congr 1
  have := Int.mul_tdiv_add_tmod x y
  rw [Int.mul_comm] at this
  omega
theorem oi_8 {n : Int} (h : -128 ≤ n ∧ n < 128) : (Int8.ofInt n).toInt32 = Int32.ofInt n := by
  apply Int32.toInt_inj.mp
  rw [Int8.toInt_toInt32, Int8.toInt_ofInt, oi (by omega)]
  rw [Int.bmod_eq_of_le] <;> simp [Int8.size] <;> omega
theorem oi_16 {n : Int} (h : -32768 ≤ n ∧ n < 32768) : (Int16.ofInt n).toInt32 = Int32.ofInt n := by
  apply Int32.toInt_inj.mp
  rw [Int16.toInt_toInt32, Int16.toInt_ofInt, oi (by omega)]
  rw [Int.bmod_eq_of_le] <;> simp [Int16.size] <;> omega
theorem oi_b {x : Int} (h : -128 ≤ x ∧ x < 128) : (Int32.ofInt x).toInt8.toInt32 = Int32.ofInt x := by
  apply Int32.toInt_inj.mp
  rw [Int8.toInt_toInt32, Int32.toInt_toInt8, oi (by omega)]
  rw [Int.bmod_eq_of_le] <;> simp <;> omega
theorem oi_sm : ∀ k, k < 32 → ((Int32.ofInt (k : Nat) &&& 31).toBitVec.smod 32).toNat = k := by decide +kernel
theorem oi_shr {x y : Int} (hx : -2147483648 ≤ x ∧ x < 2147483648) (h0 : 0 ≤ y) (h1 : y < 32) : Int32.ofInt x >>> (Int32.ofInt y &&& 31) = Int32.ofInt (x / 2 ^ y.toNat) := by
  have hk : y.toNat < 32 := by omega
  have hy : y = (y.toNat : Int) := by omega
  have hs := oi_sm y.toNat hk
  rw [← hy] at hs
  have h2 : -2147483648 ≤ x / 2 ^ y.toNat ∧ x / 2 ^ y.toNat < 2147483648 := by
    have hp : (0 : Int) < 2 ^ y.toNat := Int.pow_pos (by decide)
    have hp1 : (1 : Int) ≤ 2 ^ y.toNat := hp
    rcases Int.le_total 0 x with hz | hz
    · have a1 := Int.ediv_nonneg hz (Int.le_of_lt hp)
      have a2 := Int.ediv_le_self (2 ^ y.toNat) hz
      omega
    · have a1 : -2147483648 ≤ x / 2 ^ y.toNat := by
        rw [Int.le_ediv_iff_mul_le hp]
        have : (2147483648 : Int) * 1 ≤ 2147483648 * 2 ^ y.toNat := Int.mul_le_mul_of_nonneg_left hp1 (by decide)
        omega
      have a2 : x / 2 ^ y.toNat ≤ 0 := Int.ediv_nonpos_of_nonpos_of_neg hz hp1 |> fun h => h
      omega
  apply Int32.toInt_inj.mp
  rw [pk_shr _ _ _ hs, oi hx, oi h2, Int.shiftRight_eq_div_pow]
  simp
theorem oi_shl1 : ∀ k, k < 31 → (1 : Int32) <<< (Int32.ofInt (k : Nat) &&& 31) = Int32.ofInt (2 ^ k) := by decide +kernel
theorem oi_tn (x : Int) : ((Int32.ofInt x).toBitVec.toNat : Int) = x % 4294967296 := by
  show ((BitVec.ofInt 32 x).toNat : Int) = _
  rw [BitVec.toNat_ofInt]
  have := Int.emod_nonneg x (b := 4294967296) (by decide)
  simp
  omega
theorem oi_and {x y : Int} (k : Nat) (hk : k ≤ 31) (hy : (Int32.ofInt y).toBitVec.toNat = 2 ^ k - 1) : Int32.ofInt x &&& Int32.ofInt y = Int32.ofInt (x % 2 ^ k) := by
  rw [pk_and _ k hy]
  have h := oi_tn x
  show Int32.ofNat _ = _
  rw [oi_nat]
  congr 1
  rw [Int.natCast_emod, h]
  have hd : ((2 : Int) ^ k) ∣ 4294967296 := by
    have : (4294967296 : Int) = 2 ^ k * 2 ^ (32 - k) := by
      rw [← Int.pow_add, show k + (32 - k) = 32 by omega]
      decide
    exact ⟨_, this⟩
  have := Int.emod_emod_of_dvd x hd
  simpa using this
def xr (x y : Int) : Int := (Int32.ofInt x ^^^ Int32.ofInt y).toInt
theorem oi_xr (x y : Int) : Int32.ofInt x ^^^ Int32.ofInt y = Int32.ofInt (xr x y) := by
  rw [xr, Int32.ofInt_toInt]
theorem xr_rg (x y : Int) : -2147483648 ≤ xr x y ∧ xr x y < 2147483648 := by
  have h1 := Int32.le_toInt (Int32.ofInt x ^^^ Int32.ofInt y)
  have h2 := Int32.toInt_lt (Int32.ofInt x ^^^ Int32.ofInt y)
  unfold xr
  omega
theorem ol_div {x y : Int} (hx : -9223372036854775808 < x ∧ x < 9223372036854775808) (hy : -9223372036854775808 ≤ y ∧ y < 9223372036854775808) (h0 : y ≠ 0) : Int64.ofInt x / Int64.ofInt y = Int64.ofInt (x.tdiv y) := by
  have h1 : -9223372036854775808 ≤ x.tdiv y ∧ x.tdiv y < 9223372036854775808 := by
    have hb : (x.tdiv y).natAbs = x.natAbs / y.natAbs := Int.natAbs_tdiv x y
    have hc : (x.natAbs / y.natAbs) ≤ x.natAbs := Nat.div_le_self _ _
    omega
  apply Int64.toInt_inj.mp
  rw [Int64.toInt_div, ol (by omega), ol hy, ol h1]
  rw [Int.bmod_eq_of_le] <;> omega
theorem ol_eq {x y : Int} (hx : -9223372036854775808 ≤ x ∧ x < 9223372036854775808) (hy : -9223372036854775808 ≤ y ∧ y < 9223372036854775808) : Int64.ofInt x = Int64.ofInt y ↔ x = y :=
  ⟨fun h => by rw [← ol hx, ← ol hy, h], fun h => by rw [h]⟩
def lc (x y : Int) : Int := if x < y then -1 else if x = y then 0 else 1
theorem lc_cmp {x y : Int} (hx : -9223372036854775808 ≤ x ∧ x < 9223372036854775808) (hy : -9223372036854775808 ≤ y ∧ y < 9223372036854775808) : lg_cmp (Int64.ofInt x) (Int64.ofInt y) = Int32.ofInt (lc x y) := by
  unfold lg_cmp lc
  by_cases h1 : x < y
  · rw [if_pos h1, if_neg (by rw [gt_iff_lt, Int64.lt_iff_toInt_lt, ol hx, ol hy]; omega), if_neg (by rw [ol_eq hx hy]; omega)]
    decide +kernel
  · rw [if_neg h1]
    by_cases h2 : x = y
    · rw [if_pos h2, if_neg (by rw [gt_iff_lt, Int64.lt_iff_toInt_lt, ol hx, ol hy]; omega), if_pos (by rw [ol_eq hx hy]; exact h2)]
      decide +kernel
    · rw [if_neg h2, if_pos (by rw [gt_iff_lt, Int64.lt_iff_toInt_lt, ol hx, ol hy]; omega)]
      decide +kernel
