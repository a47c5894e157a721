/-! bits -/
theorem zI_natB (a : Nat) : (Int32.ofInt (a : Int)).toBitVec = BitVec.ofNat 32 a := by
  rw [Int32.ofInt_eq_ofNat]; rfl
theorem zB_toInt {v : Int32} {a : Nat} (h : v.toBitVec.toNat = a) (ha : a < 2147483648) : v.toInt = (a : Int) := by
  show v.toBitVec.toInt = _
  rw [BitVec.toInt_eq_toNat_of_lt (by rw [h]; omega), h]
theorem zor_lt {a b : Nat} (ha : a < 2147483648) (hb : b < 2147483648) : a ||| b < 2147483648 := Nat.or_lt_two_pow (n := 31) ha hb
theorem zor_n {a b : Nat} (ha : a < 2147483648) (hb : b < 2147483648) : zor a b = ((a ||| b : Nat) : Int) := by
  unfold zor
  refine zB_toInt ?_ (zor_lt ha hb)
  rw [Int32.toBitVec_or, BitVec.toNat_or, zI_natB, zI_natB, BitVec.toNat_ofNat, BitVec.toNat_ofNat, Nat.mod_eq_of_lt (by omega), Nat.mod_eq_of_lt (by omega)]
theorem zand_n {a b : Nat} (ha : a < 2147483648) (hb : b < 2147483648) : zand a b = ((a &&& b : Nat) : Int) := by
  unfold zand
  refine zB_toInt ?_ (Nat.and_lt_two_pow (n := 31) a hb)
  rw [Int32.toBitVec_and, BitVec.toNat_and, zI_natB, zI_natB, BitVec.toNat_ofNat, BitVec.toNat_ofNat, Nat.mod_eq_of_lt (by omega), Nat.mod_eq_of_lt (by omega)]
theorem zxor_n {a b : Nat} (ha : a < 2147483648) (hb : b < 2147483648) : zxor a b = ((a ^^^ b : Nat) : Int) := by
  unfold zxor
  refine zB_toInt ?_ (Nat.xor_lt_two_pow (n := 31) ha hb)
  rw [Int32.toBitVec_xor, BitVec.toNat_xor, zI_natB, zI_natB, BitVec.toNat_ofNat, BitVec.toNat_ofNat, Nat.mod_eq_of_lt (by omega), Nat.mod_eq_of_lt (by omega)]
theorem zsh31 : ∀ k : Nat, k < 32 → ((Int32.ofInt (k : Int)) &&& 31).toBitVec.toNat = k := by decide +kernel
theorem zshr_n {a k : Nat} (ha : a < 2147483648) (hk : k < 32) : zshr a k = ((a >>> k : Nat) : Int) := by
  unfold zshr
  have hle : a >>> k ≤ a := by rw [Nat.shiftRight_eq_div_pow]; exact Nat.div_le_self _ _
  refine zB_toInt ?_ (by omega)
  rw [Int32.toBitVec_shiftRight]
  have hs : ((Int32.ofInt (k : Int) &&& 31).toBitVec.smod 32).toNat = k := by
    have h := zsh31 k hk
    exact (by decide +kernel : ∀ k : Nat, k < 32 → ((Int32.ofInt (k : Int) &&& 31).toBitVec.smod 32).toNat = k) k hk
  rw [BitVec.sshiftRight', hs, zI_natB]
  rw [BitVec.sshiftRight_eq_of_msb_false (by rw [BitVec.msb_eq_decide, BitVec.toNat_ofNat, Nat.mod_eq_of_lt (by omega)]; simp; omega)]
  rw [BitVec.toNat_ushiftRight, BitVec.toNat_ofNat, Nat.mod_eq_of_lt (by omega)]
theorem zshl_n {a k : Nat} (hk : k < 32) (ha : a <<< k < 2147483648) : zshl a k = ((a <<< k : Nat) : Int) := by
  unfold zshl
  refine zB_toInt ?_ ha
  rw [Int32.toBitVec_shiftLeft]
  have hs : ((Int32.ofInt (k : Int) &&& 31).toBitVec.smod 32).toNat = k := (by decide +kernel : ∀ k : Nat, k < 32 → ((Int32.ofInt (k : Int) &&& 31).toBitVec.smod 32).toNat = k) k hk
  rw [BitVec.shiftLeft_eq', hs, BitVec.toNat_shiftLeft, zI_natB, BitVec.toNat_ofNat]
  have : a ≤ a <<< k := by rw [Nat.shiftLeft_eq]; exact Nat.le_mul_of_pos_right _ (Nat.two_pow_pos k)
  rw [Nat.mod_eq_of_lt (a := a) (by omega), Nat.mod_eq_of_lt (by omega)]
/-- a set of numbers below n as bits -/
def zmk (P : Nat → Bool) (n : Nat) : Nat := match n with
  | 0 => 0
  | n + 1 => zmk P n ||| (if P n = true then 1 <<< n else 0)
theorem zmk_s (P : Nat → Bool) (n : Nat) : zmk P (n + 1) = zmk P n ||| (if P n = true then 1 <<< n else 0) := rfl
theorem zmk_bit (P : Nat → Bool) (n k : Nat) : (zmk P n).testBit k = (decide (k < n) && P k) := by
  induction n with
  | zero => simp [zmk]
  | succ n ih =>
    rw [zmk_s, Nat.testBit_or, ih]
    by_cases hP : P n = true
    · rw [if_pos hP, Nat.one_shiftLeft, Nat.testBit_two_pow]
      by_cases hk : n = k
      · subst hk; simp [hP]
      · have : (decide (k < n + 1)) = decide (k < n) := by
          apply decide_eq_decide.mpr; omega
        rw [this]; simp [hk]
    · rw [if_neg hP, Nat.zero_testBit, Bool.or_false]
      by_cases hk : n = k
      · subst hk
        have : P n = false := by simpa using hP
        simp [this]
      · have : (decide (k < n + 1)) = decide (k < n) := by
          apply decide_eq_decide.mpr; omega
        rw [this]
theorem zmk_lt (P : Nat → Bool) (n : Nat) : zmk P n < 2 ^ n := by
  apply Nat.lt_pow_two_of_testBit
  intro j hj
  rw [zmk_bit]
  have h1 : ¬ j < n := by omega
  simp [h1]
theorem zmk_lt31 (P : Nat → Bool) {n : Nat} (hn : n ≤ 31) : zmk P n < 2147483648 := by
  have h := zmk_lt P n
  have h2 : 2 ^ n ≤ 2 ^ 31 := Nat.pow_le_pow_right (by decide) hn
  have h3 : (2 : Nat) ^ 31 = 2147483648 := rfl
  omega
theorem zmk_cong {P P' : Nat → Bool} {n : Nat} (h : ∀ k, k < n → P k = P' k) : zmk P n = zmk P' n := by
  induction n with
  | zero => rfl
  | succ n ih => rw [zmk_s, zmk_s, ih (fun k hk => h k (by omega)), h n (by omega)]
theorem zone_lt {k : Nat} (hk : k < 31) : 1 <<< k < 2147483648 := by
  rw [Nat.one_shiftLeft]
  have h2 : 2 ^ k < 2 ^ 31 := Nat.pow_lt_pow_right (by decide) hk
  have h3 : (2 : Nat) ^ 31 = 2147483648 := rfl
  omega
theorem zshl_1 {k : Nat} (hk : k < 31) : zshl 1 (k : Int) = ((1 <<< k : Nat) : Int) := zshl_n (a := 1) (by omega) (zone_lt hk)
/-- one more member -/
theorem zmk_add {P : Nat → Bool} {n : Nat} (hn : n < 31) (h : P n = true) : zor ((zmk P n : Nat) : Int) (zshl 1 (n : Int)) = ((zmk P (n + 1) : Nat) : Int) := by
  rw [zshl_1 hn, zor_n (zmk_lt31 P (by omega)) (zone_lt hn), zmk_s, if_pos h]
theorem zmk_add0 {P : Nat → Bool} {n : Nat} (h : P n = false) : zmk P (n + 1) = zmk P n := by
  rw [zmk_s, if_neg (by rw [h]; decide), Nat.or_zero]
/-- whether a number is among them -/
theorem zand1 {a k : Nat} (ha : a < 2147483648) (hk : k < 32) : zand (zshr (a : Int) (k : Int)) 1 = if a.testBit k = true then 1 else 0 := by
  rw [zshr_n ha hk]
  have hle : a >>> k ≤ a := by rw [Nat.shiftRight_eq_div_pow]; exact Nat.div_le_self _ _
  have h1 : zand ((a >>> k : Nat) : Int) ((1 : Nat) : Int) = ((a >>> k &&& 1 : Nat) : Int) := zand_n (by omega) (by decide)
  rw [show (1 : Int) = ((1 : Nat) : Int) from rfl, h1, Nat.and_one_is_mod]
  have h2 : a.testBit k = decide (a >>> k % 2 = 1) := by rw [Nat.testBit_eq_decide_div_mod_eq, Nat.shiftRight_eq_div_pow]
  rw [h2]
  have h3 : a >>> k % 2 < 2 := Nat.mod_lt _ (by decide)
  by_cases hq : a >>> k % 2 = 1
  · simp [hq]
  · have : a >>> k % 2 = 0 := by omega
    simp [this]
theorem zmk_has (P : Nat → Bool) {n k : Nat} (hn : n ≤ 31) (hk : k < 32) : zand (zshr ((zmk P n : Nat) : Int) (k : Int)) 1 = if k < n ∧ P k = true then 1 else 0 := by
  rw [zand1 (zmk_lt31 P hn) hk, zmk_bit]
  by_cases h1 : k < n <;> by_cases h2 : P k = true <;> simp [h1, h2]
