/-! a row of truths as bits, the newest lowest -/
def bv (bs : List Bool) : Nat := match bs with
  | [] => 0
  | b :: r => (if b = true then 1 else 0) + 2 * bv r
theorem bv_lt (bs : List Bool) : bv bs < 2 ^ bs.length := by
  induction bs with
  | nil => decide
  | cons b r ih =>
    show (if b = true then 1 else 0) + 2 * bv r < 2 ^ (r.length + 1)
    rw [Nat.pow_succ]
    split <;> omega
theorem bv_lt31 {bs : List Bool} (h : bs.length ≤ 25) : bv bs < 33554432 := by
  have h1 := bv_lt bs
  have h2 : 2 ^ bs.length ≤ 2 ^ 25 := Nat.pow_le_pow_right (by decide) h
  have h3 : (2 : Nat) ^ 25 = 33554432 := rfl
  omega
theorem bv_mod (bs : List Bool) : bv bs % 2 = if bs.headD false = true then 1 else 0 := by
  cases bs with
  | nil => rfl
  | cons b r =>
    show ((if b = true then 1 else 0) + 2 * bv r) % 2 = if b = true then 1 else 0
    split <;> omega
theorem bv_div (bs : List Bool) : bv bs / 2 = bv bs.tail := by
  cases bs with
  | nil => rfl
  | cons b r =>
    show ((if b = true then 1 else 0) + 2 * bv r) / 2 = bv r
    split <;> omega
theorem bv_of {n : Nat} {b : Bool} {r : List Bool} (h1 : n % 2 = if b = true then 1 else 0) (h2 : n / 2 = bv r) : n = bv (b :: r) := by
  show n = (if b = true then 1 else 0) + 2 * bv r
  omega
theorem lb_new {bs : List Bool} (h : bs.length ≤ 25) : zand ((bv bs : Nat) : Int) 1 = if bs.headD false = true then 1 else 0 := by
  have h1 := bv_lt31 h
  rw [show (1 : Int) = ((1 : Nat) : Int) from rfl, zand_n (by omega) (by decide), Nat.and_one_is_mod, bv_mod]
  split <;> rfl
theorem lb_pop {bs : List Bool} (h : bs.length ≤ 25) : zshr ((bv bs : Nat) : Int) 1 = ((bv bs.tail : Nat) : Int) := by
  have h1 := bv_lt31 h
  rw [show (1 : Int) = ((1 : Nat) : Int) from rfl, zshr_n (by omega) (by decide), Nat.shiftRight_eq_div_pow, Nat.pow_one, bv_div]
theorem zm2 {n : Nat} {p : Bool} (h : n % 2 = 1 ↔ p = true) : n % 2 = if p = true then 1 else 0 := by
  have h2 : n % 2 < 2 := Nat.mod_lt _ (by decide)
  by_cases hp : p = true
  · rw [if_pos hp]; exact h.mpr hp
  · rw [if_neg hp]
    have : ¬ n % 2 = 1 := fun z => hp (h.mp z)
    omega
theorem bv_mod1 (bs : List Bool) : bv bs % 2 = 1 ↔ bs.headD false = true := by
  rw [bv_mod]; by_cases h : bs.headD false = true <;> simp [h]
theorem lb_not {bs : List Bool} (h : bs.length ≤ 25) : zxor ((bv bs : Nat) : Int) 1 = ((bv ((!bs.headD false) :: bs.tail) : Nat) : Int) := by
  have h1 := bv_lt31 h
  rw [show (1 : Int) = ((1 : Nat) : Int) from rfl, zxor_n (by omega) (by decide)]
  congr 1
  apply bv_of
  · apply zm2
    rw [Nat.xor_mod_two_eq_one, bv_mod1]
    cases bs.headD false <;> simp
  · rw [Nat.xor_div_two, bv_div]; simp
theorem lb_b {p : Bool} : (if p = true then (1 : Int) else 0) = (((if p = true then 1 else 0 : Nat)) : Int) := by split <;> rfl
theorem lb_or {bs : List Bool} (h : bs.length ≤ 25) : zor (zshr ((bv bs : Nat) : Int) 1) (if bs.headD false = true then 1 else 0) = ((bv ((bs.headD false || bs.tail.headD false) :: bs.tail.tail) : Nat) : Int) := by
  rw [lb_pop h]
  have h1 := bv_lt31 (bs := bs.tail) (by rw [List.length_tail]; omega)
  rw [lb_b, zor_n (by omega) (by split <;> decide)]
  congr 1
  apply bv_of
  · apply zm2
    rw [Nat.or_mod_two_eq_one, bv_mod1]
    cases bs.headD false <;> simp
  · rw [Nat.or_div_two, bv_div]; split <;> simp
theorem lb_m2 {n : Nat} (h : n < 2147483648) : zand (n : Int) (-2) = ((2 * (n / 2) : Nat) : Int) := by
  have h1 : Int32.ofInt (n : Int) &&& Int32.ofInt (-2) = Int32.ofInt (((2 * (n / 2) : Nat)) : Int) := by
    apply Int32.toBitVec.inj
    rw [Int32.toBitVec_and, zI_natB, zI_natB]
    apply BitVec.eq_of_toNat_eq
    rw [BitVec.toNat_and, BitVec.toNat_ofNat, BitVec.toNat_ofNat, Nat.mod_eq_of_lt (by omega), Nat.mod_eq_of_lt (by omega)]
    have h2 : (Int32.ofInt (-2)).toBitVec.toNat = 4294967294 := by decide
    rw [h2]
    have h3 : (n &&& 4294967294) / 2 = n / 2 := by
      rw [Nat.and_div_two]
      show n / 2 &&& (2 ^ 31 - 1) = n / 2
      rw [Nat.and_two_pow_sub_one_eq_mod, Nat.mod_eq_of_lt (by omega)]
    have h4 : ¬ (n &&& 4294967294) % 2 = 1 := by
      rw [Nat.and_mod_two_eq_one]; rintro ⟨-, z⟩; omega
    omega
  unfold zand
  rw [h1]
  exact zI_toInt ⟨by omega, by omega⟩
theorem lb_and {bs : List Bool} (h : bs.length ≤ 25) : zand (zshr ((bv bs : Nat) : Int) 1) (zor (if bs.headD false = true then 1 else 0) (-2)) = ((bv ((bs.headD false && bs.tail.headD false) :: bs.tail.tail) : Nat) : Int) := by
  rw [lb_pop h]
  have h1 := bv_lt31 (bs := bs.tail) (by rw [List.length_tail]; omega)
  by_cases hb : bs.headD false = true
  · rw [if_pos hb, hb, Bool.true_and]
    have e : zor 1 (-2) = -1 := by decide
    rw [e]
    have e2 : zand ((bv bs.tail : Nat) : Int) (-1) = ((bv bs.tail : Nat) : Int) := by
      unfold zand
      rw [show Int32.ofInt (-1) = -1 from rfl, Int32.and_neg_one]
      exact zI_toInt ⟨by omega, by omega⟩
    rw [e2]
    congr 1
    exact bv_of (zm2 (bv_mod1 _)) (bv_div _)
  · rw [if_neg hb]
    have hb2 : bs.headD false = false := by simpa using hb
    rw [hb2, Bool.false_and]
    have e : zor 0 (-2) = -2 := by decide
    rw [e, lb_m2 (by omega)]
    congr 1
    apply bv_of
    · simp
    · have hd := bv_div bs.tail; omega
theorem lb_push {bs : List Bool} {p : Bool} (h : bs.length ≤ 25) : zor (zshl ((bv bs : Nat) : Int) 1) (if p = true then 1 else 0) = ((bv (p :: bs) : Nat) : Int) := by
  have h1 := bv_lt31 h
  have h2 : bv bs <<< 1 = 2 * bv bs := by rw [Nat.shiftLeft_eq]; omega
  rw [show (1 : Int) = ((1 : Nat) : Int) from rfl, zshl_n (by decide) (by omega), h2, show ((1 : Nat) : Int) = 1 from rfl, lb_b, zor_n (by omega) (by split <;> decide)]
  congr 1
  apply bv_of
  · apply zm2
    rw [Nat.or_mod_two_eq_one]
    cases p <;> simp
  · rw [Nat.or_div_two]; split <;> simp
/-! a street's row, read from the left -/
abbrev ZE : Type := List Bool × Int × Int × Int
def zcmp (fa : Nat → Int) (s nb : Int) : Bool := decide ((if fa (s / 3).toNat < nb then 0 else if fa (s / 3).toNat = nb then 1 else 2) = s % 3)
def zev1 (fa : Nat → Int) (s nb : Int) (x : ZE) : ZE :=
  if s = 18 then ((!x.1.headD false) :: x.1.tail, x.2.1, x.2.2.1, x.2.2.2)
  else if s = 19 then ((x.1.headD false && x.1.tail.headD false) :: x.1.tail.tail, x.2.1, x.2.2.1, x.2.2.2)
  else if s = 20 then ((x.1.headD false || x.1.tail.headD false) :: x.1.tail.tail, x.2.1, x.2.2.1, x.2.2.2)
  else if s = 21 then (x.1.tail, x.2.1 + (if x.1.headD false = true then 1 else 0) * nb, x.2.2.1, x.2.2.2)
  else if s = 22 then (x.1.tail, x.2.1, (if x.1.headD false = true ∧ nb < x.2.2.1 then nb else x.2.2.1), x.2.2.2)
  else if s = 23 then (x.1.tail, x.2.1, x.2.2.1, x.2.2.2 + (if x.1.headD false = true then 1 else 0) * nb)
  else (zcmp fa s nb :: x.1, x.2.1, x.2.2.1, x.2.2.2)
def zev (fa st : Nat → Int) (n k : Nat) (x : ZE) : ZE := match n with
  | 0 => x
  | n + 1 => zev fa st n (k + 1) (zev1 fa (st k / 100) (st k % 100) x)
theorem zev_s (fa st : Nat → Int) (n k : Nat) (x : ZE) : zev fa st (n + 1) k x = zev fa st n (k + 1) (zev1 fa (st k / 100) (st k % 100) x) := rfl
def zht (s : Int) (h : Nat) : Prop := if s = 18 then 1 ≤ h else if s = 19 ∨ s = 20 then 2 ≤ h else if 21 ≤ s then h = 1 else h ≤ 19
def znx (s : Int) (h : Nat) : Nat := if s = 18 then h else if s = 19 ∨ s = 20 then h - 1 else if 21 ≤ s then 0 else h + 1
def zwfs (st : Nat → Int) (n k h : Nat) : Prop := match n with
  | 0 => h = 0
  | n + 1 => (0 ≤ st k ∧ st k < 2400) ∧ zht (st k / 100) h ∧ zwfs st n (k + 1) (znx (st k / 100) h)
theorem zwfs_s (st : Nat → Int) (n k h : Nat) : zwfs st (n + 1) k h = ((0 ≤ st k ∧ st k < 2400) ∧ zht (st k / 100) h ∧ zwfs st n (k + 1) (znx (st k / 100) h)) := rfl
theorem zev1_len {fa : Nat → Int} {s nb : Int} {x : ZE} (hs : s < 24) (h : zht s x.1.length) (h1 : x.1.length ≤ 20) : (zev1 fa s nb x).1.length = znx s x.1.length ∧ (zev1 fa s nb x).1.length ≤ 20 := by
  unfold zht at h
  unfold zev1 znx
  by_cases h18 : s = 18
  · simp only [h18, if_true] at h ⊢
    simp; omega
  · simp only [h18, if_false] at h ⊢
    by_cases h19 : s = 19
    · simp only [h19, if_true, true_or] at h ⊢
      simp; omega
    · simp only [h19, if_false, false_or] at h ⊢
      by_cases h20 : s = 20
      · simp only [h20, if_true] at h ⊢
        simp; omega
      · simp only [h20, if_false] at h ⊢
        by_cases h21 : 21 ≤ s
        · simp only [h21, if_true] at h ⊢
          by_cases a : s = 21
          · simp only [a, if_true]; simp; omega
          · simp only [a, if_false]
            by_cases b : s = 22
            · simp only [b, if_true]; simp; omega
            · simp only [b, if_false]
              by_cases c : s = 23
              · simp only [c, if_true]; simp; omega
              · exfalso; omega
        · simp only [h21, if_false] at h ⊢
          have a : ¬ s = 21 := by omega
          have b : ¬ s = 22 := by omega
          have c : ¬ s = 23 := by omega
          simp only [a, b, c, if_false]
          simp; omega
