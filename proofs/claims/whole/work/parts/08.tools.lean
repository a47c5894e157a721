section ZSR
variable {Y : ZW} {M : ZM} {C : ZCx} {pc : Nat} {L S : List ZV} {g : ZG}
theorem zs_iadd_r {x y : Int} (hT : zat M pc = some (.iadd, 1)) (hr : -2147483648 ≤ x + y ∧ x + y < 2147483648) (k : ZVV Y M C (pc + 1) L (ZI (x + y) :: S) g) : ZVV Y M C pc L (ZI y :: ZI x :: S) g := by
  refine zs_iadd hT ?_
  rw [zw_id hr.1 hr.2]; exact k
theorem zs_isub_r {x y : Int} (hT : zat M pc = some (.isub, 1)) (hr : -2147483648 ≤ x - y ∧ x - y < 2147483648) (k : ZVV Y M C (pc + 1) L (ZI (x - y) :: S) g) : ZVV Y M C pc L (ZI y :: ZI x :: S) g := by
  refine zs_isub hT ?_
  rw [zw_id hr.1 hr.2]; exact k
theorem zs_imul_r {x y : Int} (hT : zat M pc = some (.imul, 1)) (hr : -2147483648 ≤ x * y ∧ x * y < 2147483648) (k : ZVV Y M C (pc + 1) L (ZI (x * y) :: S) g) : ZVV Y M C pc L (ZI y :: ZI x :: S) g := by
  refine zs_imul hT ?_
  rw [zw_id hr.1 hr.2]; exact k
theorem zs_iinc_r {x n : Int} {i : Nat} (hT : zat M pc = some (.iinc i n, 3)) (hi : L[i]? = some (ZI x)) (hp : ∀ r x, r + 1 = i → L[r]? ≠ some (ZJ x)) (hr : -2147483648 ≤ x + n ∧ x + n < 2147483648) (k : ZVV Y M C (pc + 3) (L.set i (ZI (x + n))) S g) : ZVV Y M C pc L S g := by
  refine zs_iinc hT hi hp ?_
  rw [zw_id hr.1 hr.2]; exact k
theorem zs_idiv_p {x y : Int} (hT : zat M pc = some (.idiv, 1)) (hx0 : 0 ≤ x) (hy0 : 0 < y) (k : ZVV Y M C (pc + 1) L (ZI (x / y) :: S) g) : ZVV Y M C pc L (ZI y :: ZI x :: S) g := by
  refine zs_know (fun _ _ hO _ => ?_)
  have hO1 := zok_cons.mp hO
  have hO2 : -2147483648 ≤ x ∧ x < 2147483648 := (zok_cons.mp hO1.2).1
  refine zs_idiv hT (by omega) ?_
  have h1 : x.tdiv y = x / y := Int.tdiv_eq_ediv_of_nonneg hx0
  have h2 : x / y ≤ x := Int.ediv_le_self _ hx0
  have h3 : 0 ≤ x / y := Int.ediv_nonneg hx0 (by omega)
  rw [h1, zw_id (by omega) (by omega)]; exact k
theorem zs_irem_p {x y : Int} (hT : zat M pc = some (.irem, 1)) (hx0 : 0 ≤ x) (hy0 : 0 < y) (k : ZVV Y M C (pc + 1) L (ZI (x % y) :: S) g) : ZVV Y M C pc L (ZI y :: ZI x :: S) g := by
  refine zs_irem hT (by omega) ?_
  rw [Int.tmod_eq_emod_of_nonneg hx0]; exact k
theorem zs_off {x a o d : Int} {r : List (Int × Int)} (h : x ≠ a) : Op.lookupswitch.offset ((a, o) :: r) d x = Op.lookupswitch.offset r d x := by
  rw [Op.lookupswitch.offset_cons, if_neg]
  exact fun q => h q.symm
theorem zpvZ {x : Int} (h : 0 ≤ x ∧ x ≤ 1) : (if 0 ≤ x ∧ x ≤ 1 then some x else none) = some x := if_pos h
end ZSR
/-- the first of k, k + 1 .. below m of which P holds; -1 -/
def zfst (P : Nat → Bool) (n k : Nat) : Int := match n with
  | 0 => -1
  | n + 1 => if P k = true then k else zfst P n (k + 1)
theorem zfst_s (P : Nat → Bool) (n k : Nat) : zfst P (n + 1) k = if P k = true then (k : Int) else zfst P n (k + 1) := rfl
theorem zfst_f {P : Nat → Bool} {n k : Nat} (h : P k = false) : zfst P (n + 1) k = zfst P n (k + 1) := by
  rw [zfst_s, if_neg (by rw [h]; decide)]
theorem zfst_t {P : Nat → Bool} {n k : Nat} (h : P k = true) : zfst P (n + 1) k = (k : Int) := by
  rw [zfst_s, if_pos h]
theorem zup_zup (g : ZG) (f i k : Nat) (u v : Int) : zup (zup g f i k u) f i k v = zup g f i k v := by
  funext a b c; unfold zup; by_cases h : a = f ∧ c = k ∧ b = i <;> simp [h]
theorem zup_self (g : ZG) (f i k : Nat) : zup g f i k (g f i k) = g := by
  funext a b c; unfold zup; by_cases h : a = f ∧ c = k ∧ b = i
  · rw [if_pos h, h.1, h.2.1, h.2.2]
  · rw [if_neg h]
theorem zup_selfv (g : ZG) (f i k : Nat) {v : Int} (h : g f i k = v) : zup g f i k v = g := by rw [← h, zup_self]
theorem zup_eq (g : ZG) (f i k : Nat) (v : Int) : zup g f i k v f i k = v := by unfold zup; simp
theorem zup_nf (g : ZG) {f a : Nat} (i k : Nat) (v : Int) (h : a ≠ f) : zup g f i k v a = g a := by
  funext b c; unfold zup; rw [if_neg (fun z => h z.1)]
theorem zup_ni (g : ZG) {f i b : Nat} (a k : Nat) (v : Int) (h : b ≠ i) : zup g f i k v a b = g a b := by
  funext c; unfold zup; rw [if_neg (fun z => h z.2.2)]
theorem zup_nk (g : ZG) {k c : Nat} (f i a b : Nat) (v : Int) (h : c ≠ k) : zup g f i k v a b c = g a b c := by
  unfold zup; rw [if_neg (fun z => h z.2.1)]
def zsum (f : Nat → Int) (n k : Nat) : Int := match n with
  | 0 => 0
  | n + 1 => f k + zsum f n (k + 1)
theorem zsum_s (f : Nat → Int) (n k : Nat) : zsum f (n + 1) k = f k + zsum f n (k + 1) := rfl
