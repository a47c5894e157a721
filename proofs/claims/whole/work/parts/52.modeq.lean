def zNear (P : Nat → Bool) (hp : Int) (n k : Nat) (best ba : Int) : Int := match n with
  | 0 => best
  | n + 1 => if (((k : Int) - hp).natAbs : Int) < ba ∧ P k = true then zNear P hp n (k + 1) k ((k : Int) - hp).natAbs else zNear P hp n (k + 1) best ba
theorem near_all : ∀ n : Nat, n < 9 → ∀ hp : Nat, hp < n → ∀ sm : Nat, sm < 2 ^ n → sm.testBit hp = false → zNear (fun k => sm.testBit k) (hp : Int) n 0 (-5) 8 = mNear (n : Int) (hp : Int) sm (n - 1) 1 := by decide +kernel
theorem zNear_cong {P P' : Nat → Bool} {hp : Int} : ∀ (n k : Nat) (best ba : Int), (∀ j, k ≤ j → j < k + n → P j = P' j) → zNear P hp n k best ba = zNear P' hp n k best ba := by
  intro n
  induction n with
  | zero => intro k best ba _; rfl
  | succ n ih =>
    intro k best ba h
    unfold zNear
    rw [h k (Nat.le_refl _) (by omega), ih (k + 1) _ _ (fun j h1 h2 => h j (by omega) (by omega)), ih (k + 1) _ _ (fun j h1 h2 => h j (by omega) (by omega))]
theorem tNear_z (t : ZT) (p : Nat) (mc : Int) : ∀ (n k : Nat) (best ba : Int), tNear t p mc n k best ba = zNear (fun h => (tFr t (h : Int) && tSu t p (h : Int)) && decide ((tWt t p (h : Int)).2.2 ≤ mc)) (tho t p) n k best ba := by
  intro n
  induction n with
  | zero => intro k best ba; rfl
  | succ n ih =>
    intro k best ba
    unfold tNear zNear
    rw [ih, ih]
    by_cases hc : (((k : Int) - tho t p).natAbs : Int) < ba ∧ (tFr t k = true ∧ tSu t p k = true) ∧ (tWt t p k).2.2 ≤ mc
    · rw [if_pos hc, if_pos ⟨hc.1, by rw [hc.2.1.1, hc.2.1.2, decide_eq_true hc.2.2]; rfl⟩]
    · rw [if_neg hc, if_neg (fun z => hc ⟨z.1, by
        have z2 := z.2
        simp only [Bool.and_eq_true, decide_eq_true_eq] at z2
        exact z2⟩)]
theorem zmk_eq_lt {P : Nat → Bool} {n k : Nat} (h : k < n) : (zmk P n).testBit k = P k := by rw [zmk_bit, decide_eq_true h, Bool.true_and]
/-- the nearest of a mask -/
theorem near_mask (P : Nat → Bool) {n : Int} {hp : Int} (hn : 3 ≤ n ∧ n ≤ 8) (hh : 0 ≤ hp ∧ hp < n) (h0 : P hp.toNat = false) : zNear P hp n.toNat 0 (-5) 8 = mNear n hp (zmk P n.toNat) (n.toNat - 1) 1 := by
  have h := near_all n.toNat (by omega) hp.toNat (by omega) (zmk P n.toNat) (zmk_lt _ _) (by rw [zmk_eq_lt (by omega)]; exact h0)
  rw [show ((n.toNat : Nat) : Int) = n by omega, show ((hp.toNat : Nat) : Int) = hp by omega] at h
  rw [← h]
  exact zNear_cong _ _ _ _ (fun j h1 h2 => (zmk_eq_lt (by omega)).symm)
theorem next_mask (t : ZT) (p : Nat) (hn : 3 ≤ tn t ∧ tn t ≤ 8) (hh : 0 ≤ tho t p ∧ tho t p < tn t) : ∀ (m d : Nat) (h : Int), 1 ≤ d → h = (tho t p + (d - 1)) % tn t → tNext t p m h = mBeh (tn t) (tho t p) (tWan t p) m d := by
  intro m
  induction m with
  | zero => intro d h _ _; rfl
  | succ m ih =>
    intro d h hd he
    have hr : 0 ≤ h ∧ h < tn t := by rw [he]; exact ⟨Int.emod_nonneg _ (by omega), Int.emod_lt_of_pos _ (by omega)⟩
    have e1 : (if tn t ≤ h + 1 then 0 else h + 1) = (tho t p + d) % tn t := by
      have e2 : (tho t p + (d : Int)) % tn t = (h + 1) % tn t := by
        rw [he, Int.emod_add_emod]
        congr 1
        omega
      rw [e2]
      by_cases hc : tn t ≤ h + 1
      · rw [if_pos hc, show h + 1 = tn t by omega, Int.emod_self]
      · rw [if_neg hc, Int.emod_eq_of_lt (by omega) (by omega)]
    have hr2 : 0 ≤ (tho t p + (d : Int)) % tn t ∧ (tho t p + (d : Int)) % tn t < tn t := ⟨Int.emod_nonneg _ (by omega), Int.emod_lt_of_pos _ (by omega)⟩
    unfold tNext mBeh
    rw [e1]
    have eb : (tWan t p).testBit ((tho t p + (d : Int)) % tn t).toNat = (tFr t ((tho t p + (d : Int)) % tn t) && tSu t p ((tho t p + (d : Int)) % tn t)) := by
      unfold tWan
      rw [zmk_eq_lt (by omega), show ((((tho t p + (d : Int)) % tn t).toNat : Nat) : Int) = (tho t p + (d : Int)) % tn t by omega]
    rw [eb, ih (d + 1) _ (by omega) (by congr 1; omega)]
    simp only [Bool.and_eq_true]
theorem least_mask (t : ZT) (p : Nat) : mLeast (tn t) (tWan t p) = tLeast t p := by
  unfold mLeast tLeast
  have e : zfst (fun h => (tWan t p).testBit h) (tn t).toNat 0 = zfst (fun h => tFr t h && tSu t p h) (tn t).toNat 0 := zfst_cong (fun j h1 h2 => by unfold tWan; rw [zmk_eq_lt (by omega)])
  rw [e]
theorem own_free (t : ZT) {p : Nat} (hp : p < (tnp t).toNat) : tFr t (tho t p) = false := by
  unfold tFr zwho
  refine decide_eq_false (fun z => ?_)
  have := zfst_none.mp z p (Nat.zero_le _) (by omega)
  simp at this
