section ZSR
variable {Y : ZW} {M : ZM} {C : ZCx} {pc : Nat} {L S : List ZV} {g : ZG}
theorem zs_iadd_r {x y : Int} (hT : zat M pc = some (.iadd, 1)) (hr : -2147483648 ≤ x + y ∧ x + y < 2147483648) (k : ZVV Y M C (pc + 1) L (ZI (x + y) :: S) g) : ZVV Y M C pc L (ZI y :: ZI x :: S) g := by
  refine zs_iadd hT ?_
  rw [zw_id hr.1 hr.2]; exact k
theorem zs_isub_r {x y : Int} (hT : zat M pc = some (.isub, 1)) (hr : -2147483648 ≤ x - y ∧ x - y < 2147483648) (k : ZVV Y M C (pc + 1) L (ZI (x - y) :: S) g) : ZVV Y M C pc L (ZI y :: ZI x :: S) g := by
  refine zs_isub hT ?_
  rw [zw_id hr.1 hr.2]; exact k
theorem zs_imul_r {x y : Int} (hT : zat M pc = some (.imul, 1)) (hr : -2147483648 ≤ x * y ∧ x * y < 2147483648) (k : ZVV Y M C (pc + 1) L (ZI (x * y) :: S) g) : ZVV Y M C pc L (ZI y :: ZI x :: S) g := by
  refine zs_imul hT ?_
  rw [zw_id hr.1 hr.2]; exact k
theorem zs_iinc_r {x n : Int} {i : Nat} (hT : zat M pc = some (.iinc i n, 3)) (hi : L[i]? = some (ZI x)) (hp : ∀ r x, r + 1 = i → L[r]? ≠ some (ZJ x)) (hr : -2147483648 ≤ x + n ∧ x + n < 2147483648) (k : ZVV Y M C (pc + 3) (L.set i (ZI (x + n))) S g) : ZVV Y M C pc L S g := by
  refine zs_iinc hT hi hp ?_
  rw [zw_id hr.1 hr.2]; exact k
theorem zpvZ {x : Int} (h : 0 ≤ x ∧ x ≤ 1) : (if 0 ≤ x ∧ x ≤ 1 then some x else none) = some x := if_pos h
end ZSR
/-- the first of k, k + 1 .. below m of which P holds; -1 -/
def zfst (P : Nat → Bool) (n k : Nat) : Int := match n with
  | 0 => -1
  | n + 1 => if P k = true then k else zfst P n (k + 1)
theorem zfst_s (P : Nat → Bool) (n k : Nat) : zfst P (n + 1) k = if P k = true then (k : Int) else zfst P n (k + 1) := rfl
def zsum (f : Nat → Int) (n k : Nat) : Int := match n with
  | 0 => 0
  | n + 1 => f k + zsum f n (k + 1)
theorem zsum_s (f : Nat → Int) (n k : Nat) : zsum f (n + 1) k = f k + zsum f n (k + 1) := rfl
