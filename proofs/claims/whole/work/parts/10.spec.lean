/-! the town: who is next to whom, who is where -/
def nx (n sh a b : Int) : Bool := if sh = 0 then decide (0 < (a - b).natAbs ∧ ((a - b).natAbs < 3 ∨ n - (a - b).natAbs < 3)) else if sh = 1 then decide (0 < (a - b).natAbs ∧ (a - b).natAbs < 3) else decide (0 < (a - b).natAbs ∧ (a / 4 - b / 4).natAbs ≤ 1 ∧ (a % 4 - b % 4).natAbs ≤ 1)
theorem nx_comm (n sh a b : Int) : nx n sh a b = nx n sh b a := by
  unfold nx
  have h1 : (a - b).natAbs = (b - a).natAbs := by omega
  have h2 : (a / 4 - b / 4).natAbs = (b / 4 - a / 4).natAbs := by omega
  have h3 : (a % 4 - b % 4).natAbs = (b % 4 - a % 4).natAbs := by omega
  rw [h1, h2, h3]
theorem nx_self (n sh a : Int) : nx n sh a a = false := by
  unfold nx; simp
def zwho (np : Int) (ho : Nat → Int) (h : Int) : Int := zfst (fun p => decide (ho p = h)) np.toNat 0
theorem zfst_rng (P : Nat → Bool) : ∀ n k : Nat, zfst P n k = -1 ∨ ((k : Int) ≤ zfst P n k ∧ zfst P n k < k + n ∧ P (zfst P n k).toNat = true) := by
  intro n
  induction n with
  | zero => intro k; exact Or.inl rfl
  | succ n ih =>
    intro k
    rw [zfst_s]
    by_cases h : P k = true
    · rw [if_pos h]; exact Or.inr ⟨by omega, by omega, by simpa using h⟩
    · rw [if_neg h]
      rcases ih (k + 1) with q | ⟨q1, q2, q3⟩
      · exact Or.inl q
      · exact Or.inr ⟨by omega, by omega, q3⟩
theorem zfst_none {P : Nat → Bool} : ∀ {n k : Nat}, zfst P n k = -1 ↔ ∀ j, k ≤ j → j < k + n → P j = false := by
  intro n
  induction n with
  | zero => intro k; exact ⟨fun _ j h1 h2 => by omega, fun _ => rfl⟩
  | succ n ih =>
    intro k
    rw [zfst_s]
    by_cases h : P k = true
    · rw [if_pos h]
      constructor
      · intro q; omega
      · intro q; have := q k (by omega) (by omega); rw [h] at this; cases this
    · rw [if_neg h, ih]
      constructor
      · intro q j h1 h2
        by_cases hj : j = k
        · subst hj; simpa using h
        · exact q j (by omega) (by omega)
      · intro q j h1 h2; exact q j (by omega) (by omega)
theorem zfst_cong {P P' : Nat → Bool} : ∀ {n k : Nat}, (∀ j, k ≤ j → j < k + n → P j = P' j) → zfst P n k = zfst P' n k := by
  intro n
  induction n with
  | zero => intro k h; rfl
  | succ n ih => intro k h; rw [zfst_s, zfst_s, h k (by omega) (by omega), ih (fun j h1 h2 => h j (by omega) (by omega))]
theorem zsum_cong {f f' : Nat → Int} : ∀ {n k : Nat}, (∀ j, k ≤ j → j < k + n → f j = f' j) → zsum f n k = zsum f' n k := by
  intro n
  induction n with
  | zero => intro k h; rfl
  | succ n ih => intro k h; rw [zsum_s, zsum_s, h k (by omega) (by omega), ih (fun j h1 h2 => h j (by omega) (by omega))]
theorem zsum_rng {f : Nat → Int} {a b : Int} : ∀ {n k : Nat}, (∀ j, k ≤ j → j < k + n → a ≤ f j ∧ f j ≤ b) → a * n ≤ zsum f n k ∧ zsum f n k ≤ b * n := by
  intro n
  induction n with
  | zero => intro k h; simp [zsum]
  | succ n ih =>
    intro k h
    rw [zsum_s]
    have h1 := h k (by omega) (by omega)
    have h2 := ih (k := k + 1) (fun j h1 h2 => h j (by omega) (by omega))
    have e1 : a * ((n + 1 : Nat) : Int) = a * n + a := by rw [Int.natCast_add, Int.mul_add]; simp
    have e2 : b * ((n + 1 : Nat) : Int) = b * n + b := by rw [Int.natCast_add, Int.mul_add]; simp
    omega
theorem zsum_01 {f : Nat → Int} {n k : Nat} (h : ∀ j, f j = 0 ∨ f j = 1) : 0 ≤ zsum f n k ∧ zsum f n k ≤ n := by
  have := zsum_rng (f := f) (a := 0) (b := 1) (n := n) (k := k) (fun j _ _ => by rcases h j with q | q <;> omega)
  omega
def zliv (n sh : Int) (ho : Nat → Int) (q : Nat) (h : Int) : Bool := decide (0 ≤ ho q) && nx n sh h (ho q)
def zfree (n np : Int) (ho : Nat → Int) : Nat := zmk (fun h => decide (zwho np ho h = -1)) n.toNat
def zlpb (n sh : Int) (sr ho : Nat → Int) (p : Nat) : Int := zsum (fun q => if sr q = sr p ∧ zliv n sh ho q (ho p) = true then 1 else 0) p 0
def zlp (n sh np : Int) (sr ho : Nat → Int) : Int := zsum (fun p => zlpb n sh sr ho p) (np.toNat - 1) 1
def zapb (n sh : Int) (ho : Nat → Int) (p : Nat) : Int := zsum (fun q => if zliv n sh ho q (ho p) = true then 1 else 0) p 0
def zap (n sh np : Int) (ho : Nat → Int) : Int := zsum (fun p => zapb n sh ho p) (np.toNat - 1) 1
theorem zlpb_rng (n sh : Int) (sr ho : Nat → Int) (p : Nat) : 0 ≤ zlpb n sh sr ho p ∧ zlpb n sh sr ho p ≤ p := zsum_01 (fun j => by by_cases h : sr j = sr p ∧ zliv n sh ho j (ho p) = true <;> simp [h])
theorem zapb_rng (n sh : Int) (ho : Nat → Int) (p : Nat) : 0 ≤ zapb n sh ho p ∧ zapb n sh ho p ≤ p := zsum_01 (fun j => by by_cases h : zliv n sh ho j (ho p) = true <;> simp [h])
/-- a State object is as it should be -/
def SOK (g : ZG) (q : Nat) : Prop := (3 ≤ g 2 q 0 ∧ g 2 q 0 ≤ 8) ∧ (0 ≤ g 2 q 1 ∧ g 2 q 1 ≤ 2) ∧ (0 ≤ g 2 q 3 ∧ g 2 q 3 ≤ 6) ∧ (0 ≤ g 2 q 8 ∧ g 2 q 8 ≤ 100000) ∧ (∀ h : Nat, (h : Int) < g 2 q 0 → g 14 q h = ((zmk (fun o => nx (g 2 q 0) (g 2 q 1) h o) (g 2 q 0).toNat : Nat) : Int)) ∧ (∀ p : Nat, (p : Int) < g 2 q 3 → (-1 ≤ g 18 q p ∧ g 18 q p < g 2 q 0) ∧ (0 ≤ g 17 q p ∧ g 17 q p ≤ 2) ∧ (0 ≤ g 15 q p ∧ g 15 q p ≤ 6) ∧ (0 ≤ g 16 q p ∧ g 16 q p ≤ 9))
theorem SOK.bit {g : ZG} {q : Nat} (h : SOK g q) {a b : Int} (ha : 0 ≤ a ∧ a < g 2 q 0) (hb : 0 ≤ b ∧ b < g 2 q 0) : zand (zshr (g 14 q a.toNat) b) 1 = if nx (g 2 q 0) (g 2 q 1) a b = true then 1 else 0 := by
  obtain ⟨h1, h2, h3, h4, h5, h6⟩ := h
  rw [h5 a.toNat (by omega)]
  have e1 : ((a.toNat : Nat) : Int) = a := by omega
  have e2 : ((b.toNat : Nat) : Int) = b := by omega
  rw [e1]
  have := zmk_has (fun o => nx (g 2 q 0) (g 2 q 1) a o) (n := (g 2 q 0).toNat) (k := b.toNat) (by omega) (by omega)
  rw [e2] at this
  rw [this]
  have h8 : b.toNat < (g 2 q 0).toNat := by omega
  simp [h8]
