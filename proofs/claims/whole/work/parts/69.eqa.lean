/-! lowest terms: the greatest divisor of both -/
theorem tLow_gcd {x y : Nat} (hy : 0 < y) : ∀ (m k : Nat) (c : Int), k + m = y + 1 → 1 ≤ k → (Nat.gcd x y < k → c = (Nat.gcd x y : Nat)) → tLow (x : Int) (y : Int) m k c = (Nat.gcd x y : Nat) := by
  intro m
  induction m with
  | zero =>
    intro k c hk _ h
    have := Nat.gcd_le_right x hy
    exact h (by omega)
  | succ m ih =>
    intro k c hk h1 h
    unfold tLow
    refine ih (k + 1) _ (by omega) (by omega) (fun hg => ?_)
    have hx1 := Nat.gcd_dvd_left x y
    have hx2 := Nat.gcd_dvd_right x y
    by_cases hc : (x : Int) % (k : Int) = 0 ∧ (y : Int) % (k : Int) = 0
    · rw [if_pos hc]
      have e1 : x % k = 0 := by have := hc.1; rw [← Int.natCast_emod] at this; exact Int.ofNat.inj this
      have e2 : y % k = 0 := by have := hc.2; rw [← Int.natCast_emod] at this; exact Int.ofNat.inj this
      have hd := Nat.dvd_gcd (Nat.dvd_of_mod_eq_zero e1) (Nat.dvd_of_mod_eq_zero e2)
      have := Nat.le_of_dvd (Nat.gcd_pos_of_pos_right x hy) hd
      rw [show Nat.gcd x y = k by omega]
    · rw [if_neg hc]
      refine h ?_
      by_cases hk2 : Nat.gcd x y = k
      · exfalso
        refine hc ⟨?_, ?_⟩
        · rw [← Int.natCast_emod, ← hk2, Nat.mod_eq_zero_of_dvd hx1]; rfl
        · rw [← Int.natCast_emod, ← hk2, Nat.mod_eq_zero_of_dvd hx2]; rfl
      · omega
theorem cPart_low {a n : Int} (ha : 0 ≤ a) (hn : 0 < n) (q : Int) : cPart a n q = mLow a n q := by
  have h := tLow_gcd (x := a.toNat) (y := n.toNat) (by omega) (n.toNat - 1) 2 1 (by omega) (by decide) (fun z => by
    have := Nat.gcd_pos_of_pos_right a.toNat (show 0 < n.toNat by omega)
    omega)
  rw [Int.toNat_of_nonneg ha, Int.toNat_of_nonneg (show 0 ≤ n by omega)] at h
  unfold cPart mLow
  rw [if_neg (show ¬ n ≤ 0 by omega), show (n - 1).toNat = n.toNat - 1 by omega, h]
theorem cPart_one {a q : Int} (ha : a = 0 ∨ a = 1) (hq : 0 ≤ q ∧ q ≤ 1) : cPart a 1 q = if q = 1 ∨ a = 1 then 1 else 0 := by
  have hq2 : q = 0 ∨ q = 1 := by omega
  rcases ha with rfl | rfl <;> rcases hq2 with rfl | rfl <;> decide
/-! taken for -/
theorem taken_all : ∀ a : Nat, a < 7 → ∀ k : Nat, k < 7 → tTaken (a : Int) (k : Int) 3 (a : Int) = if (k : Int) = 0 ∨ (a : Int) = k ∨ ((k : Int) = 1 ∧ (a : Int) = 4) ∨ ((k : Int) = 2 ∧ (a : Int) = 5) ∨ ((k : Int) = 3 ∧ (a : Int) = 6) then (a : Int) else -12 := by decide +kernel
theorem taken_eq {a k : Int} (ha : 0 ≤ a ∧ a ≤ 6) (hk : 0 ≤ k ∧ k ≤ 6) : tTaken a k 3 a = if k = 0 ∨ a = k ∨ (k = 1 ∧ a = 4) ∨ (k = 2 ∧ a = 5) ∨ (k = 3 ∧ a = 6) then a else -12 := by
  have h := taken_all a.toNat (by omega) k.toNat (by omega)
  rwa [Int.toNat_of_nonneg ha.1, Int.toNat_of_nonneg hk.1] at h
/-! judged -/
theorem judge_eq {t : ZT} {it : Int → Int} {jt : Nat → Int} {so ln i : Int} (h0 : so < 0 → ln ≤ 0) (h1 : ∀ j : Int, 0 ≤ j → j < ln → it j = jt j.toNat ∧ (jt j.toNat = 0 ∨ jt j.toNat = 1)) : ∀ n k : Nat, mJdg t it so ln i n k = tJudge t jt ln i n k := by
  intro n
  induction n with
  | zero => intro k; rfl
  | succ n ih =>
    intro k
    rw [tJudge_s]
    unfold mJdg
    by_cases hc : i < 0 ∨ ln - k ≤ i
    · rw [if_pos hc, if_pos (by omega)]
    · have hc2 : ¬ (so < 0 ∨ i < 0 ∨ ln - k - 1 < i) := by
        intro z
        rcases z with z | z | z
        · have := h0 z; omega
        · omega
        · omega
      rw [if_neg hc, if_neg hc2, ih]
      obtain ⟨e1, e2⟩ := h1 (i + k) (by omega) (by omega)
      rw [e1]
      by_cases hs : tSu t k (tho t k) = true
      · rw [if_pos hs]
        by_cases h01 : jt (i + k).toNat = 1
        · rw [if_pos h01, if_pos ⟨fun _ => by omega, fun _ => hs⟩]
        · rw [if_neg h01, if_neg (fun z => by have := z.mp hs; omega)]
      · rw [if_neg hs]
        by_cases h01 : jt (i + k).toNat = 0
        · rw [if_pos h01, if_pos ⟨fun z => absurd z hs, fun z => absurd h01 z⟩]
        · rw [if_neg h01, if_neg (fun z => hs (z.mpr h01))]
/-! before -/
def RBF (s : Int × Int × Int) (u : Int × Int) : Prop := u.1 = s.1 ∧ 0 ≤ s.1 ∧ (s.1 = 0 → s.2.1 = -5 ∧ s.2.2 = -5 ∧ u.2 = -5) ∧ (0 < s.1 → u.2 = 10 * s.2.1 + s.2.2 ∧ 0 ≤ s.2.1 ∧ 0 ≤ s.2.2 ∧ s.2.2 < 10)
theorem bf_step (t : ZT) (p h : Nat) (hh : h < 10) {s : Int × Int × Int} {u : Int × Int} (r : RBF s u) : RBF (tBf t p h s) (mBf t p h u) := by
  obtain ⟨r1, r2, r3, r4⟩ := r
  have e : (zwho (tnp t) (tho t) h = -1 ∧ (0 ≤ (tStep (tBk t p h (max 0 (tmv t - 1)))).1 ∧ tSame (tStep (tBk t p h (max 0 (tmv t - 1)))).2 (tho t) = true)) ↔ (tFr t (h : Int) = true ∧ mLead t p (h : Int) = true) := ⟨fun z => ⟨decide_eq_true z.1, decide_eq_true z.2⟩, fun z => ⟨of_decide_eq_true z.1, of_decide_eq_true z.2⟩⟩
  unfold tBf mBf
  by_cases hc : tFr t (h : Int) = true ∧ mLead t p (h : Int) = true
  · rw [if_pos (e.mpr hc), if_pos hc, r1]
    refine ⟨rfl, by show 0 ≤ s.1 + 1; omega, fun z => ?_, fun _ => ?_⟩
    · have z : s.1 + 1 = 0 := z
      omega
    · by_cases h0 : s.1 = 0
      · show (if s.1 = 0 then 10 * (p : Int) + h else u.2) = 10 * (if s.1 = 0 then (p : Int) else s.2.1) + (if s.1 = 0 then (h : Int) else s.2.2) ∧ 0 ≤ (if s.1 = 0 then (p : Int) else s.2.1) ∧ 0 ≤ (if s.1 = 0 then (h : Int) else s.2.2) ∧ (if s.1 = 0 then (h : Int) else s.2.2) < 10
        rw [if_pos h0, if_pos h0, if_pos h0]
        exact ⟨rfl, by omega, by omega, by omega⟩
      · show (if s.1 = 0 then 10 * (p : Int) + h else u.2) = 10 * (if s.1 = 0 then (p : Int) else s.2.1) + (if s.1 = 0 then (h : Int) else s.2.2) ∧ 0 ≤ (if s.1 = 0 then (p : Int) else s.2.1) ∧ 0 ≤ (if s.1 = 0 then (h : Int) else s.2.2) ∧ (if s.1 = 0 then (h : Int) else s.2.2) < 10
        rw [if_neg h0, if_neg h0, if_neg h0]
        exact r4 (by omega)
  · rw [if_neg (fun z => hc (e.mp z)), if_neg hc]
    exact ⟨r1, r2, r3, r4⟩
theorem bf_fold (t : ZT) (p : Nat) : ∀ (m k : Nat) (s : Int × Int × Int) (u : Int × Int), k + m ≤ 8 → RBF s u → RBF (zfold (tBf t p) m k s) (zfold (mBf t p) m k u) := by
  intro m
  induction m with
  | zero => intro k s u _ r; exact r
  | succ m ih => intro k s u hk r; exact ih (k + 1) _ _ (by omega) (bf_step t p k (by omega) r)
theorem bfs_eq (t : ZT) (hn : tn t ≤ 8) : RBF (cBef t) (mBfs t) := by
  have h : ∀ (m k : Nat) (s : Int × Int × Int) (u : Int × Int), RBF s u → RBF (zfold (fun p s => zfold (tBf t p) (tn t).toNat 0 s) m k s) (zfold (fun p s => zfold (mBf t p) (tn t).toNat 0 s) m k u) := by
    intro m
    induction m with
    | zero => intro k s u r; exact r
    | succ m ih => intro k s u r; exact ih (k + 1) _ _ (bf_fold t k (tn t).toNat 0 s u (by omega) r)
  exact h (tnp t).toNat 0 _ _ ⟨rfl, Int.le_refl 0, fun _ => ⟨rfl, rfl, rfl⟩, fun z => absurd z (by decide)⟩
theorem before_eq {t : ZT} (hn : tn t ≤ 8) {w : Int} (hw : 0 ≤ w ∧ w ≤ 2) : (if w = 0 then (mBfs t).1 else if (mBfs t).2 < 0 then -5 else if w = 1 then (mBfs t).2 / 10 else (mBfs t).2 % 10) = (if w = 0 then (cBef t).1 else if w = 1 then (cBef t).2.1 else (cBef t).2.2) := by
  obtain ⟨r1, r2, r3, r4⟩ := bfs_eq t hn
  by_cases h0 : w = 0
  · rw [if_pos h0, if_pos h0, r1]
  · rw [if_neg h0, if_neg h0]
    by_cases hz : (cBef t).1 = 0
    · have := r3 hz
      rw [if_pos (by omega)]
      by_cases h1 : w = 1
      · rw [if_pos h1]; omega
      · rw [if_neg h1]; omega
    · have := r4 (by omega)
      rw [if_neg (by omega)]
      by_cases h1 : w = 1
      · rw [if_pos h1, if_pos h1]; omega
      · rw [if_neg h1, if_neg h1]; omega
/-! holds -/
theorem holds_bits : ∀ a : Nat, a < 64 → ∀ b : Nat, b < 64 → ∀ k : Nat, k < 6 → (decide (zand (zand (a : Int) (zxor (b : Int) (-1))) (zxor (zshl 1 (k : Int)) (-1)) ≠ 0)) = ((decide (k ≠ 0) && a.testBit 0 && !b.testBit 0) || (decide (k ≠ 1) && a.testBit 1 && !b.testBit 1) || (decide (k ≠ 2) && a.testBit 2 && !b.testBit 2) || (decide (k ≠ 3) && a.testBit 3 && !b.testBit 3) || (decide (k ≠ 4) && a.testBit 4 && !b.testBit 4) || (decide (k ≠ 5) && a.testBit 5 && !b.testBit 5)) := by decide +kernel
