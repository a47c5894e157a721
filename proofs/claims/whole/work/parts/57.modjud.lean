theorem gcd_step {p q : Int} (hp : 0 ≤ p) (hq : 0 < q) : Nat.gcd q.toNat (p % q).toNat = Nat.gcd p.toNat q.toNat := by
  have e : (p % q).toNat = p.toNat % q.toNat := by
    apply Int.ofNat.inj
    show (((p % q).toNat : Nat) : Int) = ((p.toNat % q.toNat : Nat) : Int)
    rw [Int.natCast_emod, Int.toNat_of_nonneg (Int.emod_nonneg _ (by omega)), Int.toNat_of_nonneg hp, Int.toNat_of_nonneg (by omega)]
  rw [e, Nat.gcd_comm p.toNat, Nat.gcd_comm q.toNat]
  exact (Nat.gcd_rec q.toNat p.toNat).symm
theorem l_X8_divisor {Y : ZW} {Q : Option ZV → ZG → Prop} {g : ZG} {a b : Int} : ∀ (n : Nat) (p q : Int) (z5 : ZV), (∀ y, z5 ≠ ZJ y) → 0 ≤ p → 0 ≤ q → q.toNat ≤ n → Q (some (ZI ((Nat.gcd p.toNat q.toNat : Nat) : Int))) g → ZVV Y mX8_divisor (zcx Y 1 Q) 5 [ZR 8 0, ZI a, ZI b, ZI p, ZI q, z5] [] g := by
  intro n
  induction n with
  | zero =>
    intro p q z5 hz5 hp hq hn hQ
    refine zs_iload (i := 4) rfl rfl ?_
    refine zs_if_eq 26 rfl (by omega) (fun hc_7 => ?_) (fun hc_7 => ?_)
    · refine zs_iload_n (j := 3) (i := 3) rfl rfl rfl ?_
      exact zs_ireturn rfl rfl (by have hx := hQ; rw [show q.toNat = 0 by omega, Nat.gcd_zero_right, Int.toNat_of_nonneg hp] at hx; exact hx)
    · exfalso; omega
  | succ n ih =>
    intro p q z5 hz5 hp hq hn hQ
    refine zs_iload (i := 4) rfl rfl ?_
    refine zs_if_eq 26 rfl (by omega) (fun hc_7 => ?_) (fun hc_7 => ?_)
    · refine zs_iload_n (j := 3) (i := 3) rfl rfl rfl ?_
      exact zs_ireturn rfl rfl (by have hx := hQ; rw [show q.toNat = 0 by omega, Nat.gcd_zero_right, Int.toNat_of_nonneg hp] at hx; exact hx)
    · refine zs_iload_n (j := 3) (i := 3) rfl rfl rfl ?_
      refine zs_iload (i := 4) rfl rfl ?_
      refine zs_irem_p rfl (hp) (by omega) ?_
      refine zs_istore (i := 5) rfl (by decide) (by intro r x hr; have hr2 : r = 4 := (by omega); subst hr2; intro z; cases z) ?_
      show ZVV _ _ _ _ [ZR 8 0, ZI a, ZI b, ZI p, ZI q, ZI (p % q)] _ _
      refine zs_iload (i := 4) rfl rfl ?_
      refine zs_istore_n (j := 3) (i := 3) rfl rfl (by decide) (by intro r x hr; have hr2 : r = 2 := (by omega); subst hr2; intro z; cases z) ?_
      show ZVV _ _ _ _ [ZR 8 0, ZI a, ZI b, ZI q, ZI q, ZI (p % q)] _ _
      refine zs_iload (i := 5) rfl rfl ?_
      show ZVV _ _ _ 21 _ _ _
      refine zs_istore (i := 4) rfl (by decide) (by intro r x hr; have hr2 : r = 3 := (by omega); subst hr2; intro z; cases z) ?_
      show ZVV _ _ _ _ [ZR 8 0, ZI a, ZI b, ZI q, ZI (p % q), ZI (p % q)] _ _
      refine zs_goto 5 rfl (by omega) ?_
      have hm := Int.emod_lt_of_pos p (show 0 < q by omega)
      have hm0 := Int.emod_nonneg p (show q ≠ 0 by omega)
      exact ih q (p % q) _ (by intro y h; cases h) (by omega) hm0 (by omega) (by rw [gcd_step hp (by omega)]; exact hQ)
theorem c_X8_divisor (a b : Int) : ZC mX8_divisor 1 (fun av g => av = [ZR 8 0, ZI a, ZI b] ∧ 0 ≤ a ∧ 0 ≤ b) (fun _ g r g' => r = some (ZI ((Nat.gcd a.toNat b.toNat : Nat) : Int)) ∧ g' = g) := by
  refine zc_of gX8_divisor (fun av g hp => by obtain ⟨rfl, -⟩ := hp; exact Nat.le_of_ble_eq_true rfl) (fun Y av g hwf hrg hp hok => ?_)
  obtain ⟨rfl, hp⟩ := hp
  show ZVV _ _ _ 0 [ZR 8 0, ZI a, ZI b, ZX 99, ZX 99, ZX 99] [] _
  refine zs_iload_n (j := 1) (i := 1) rfl rfl rfl ?_
  refine zs_istore_n (j := 3) (i := 3) rfl rfl (by decide) (by intro r x hr; have hr2 : r = 2 := (by omega); subst hr2; intro z; cases z) ?_
  show ZVV _ _ _ _ [ZR 8 0, ZI a, ZI b, ZI a, ZX 99, ZX 99] _ _
  refine zs_iload_n (j := 2) (i := 2) rfl rfl rfl ?_
  refine zs_istore (i := 4) rfl (by decide) (by intro r x hr; have hr2 : r = 3 := (by omega); subst hr2; intro z; cases z) ?_
  show ZVV _ _ _ _ [ZR 8 0, ZI a, ZI b, ZI a, ZI b, ZX 99] _ _
  exact l_X8_divisor b.toNat a b _ (by intro y h; cases h) hp.1 hp.2 (Nat.le_refl _) ⟨rfl, rfl⟩

def mLow (a b q : Int) : Int := if q = 0 then a / ((Nat.gcd a.toNat b.toNat : Nat) : Int) else b / ((Nat.gcd a.toNat b.toNat : Nat) : Int)
theorem c_X8_lowest (a b q : Int) : ZC mX8_lowest 2 (fun av g => av = [ZR 8 0, ZI a, ZI b, ZI q] ∧ 0 ≤ a ∧ 0 < b) (fun _ g r g' => r = some (ZJ (mLow a b q)) ∧ g' = g) := by
  refine zc_of gX8_lowest (fun av g hp => by obtain ⟨rfl, -⟩ := hp; exact Nat.le_of_ble_eq_true rfl) (fun Y av g hwf hrg hp hok => ?_)
  obtain ⟨rfl, hp⟩ := hp
  show ZVV _ _ _ 0 [ZR 8 0, ZI a, ZI b, ZI q, ZX 99] [] _
  have hgp : 0 < Nat.gcd a.toNat b.toNat := Nat.gcd_pos_of_pos_right _ (by omega)
  refine zs_aload_n (j := 0) (i := 0) rfl rfl rfl ?_
  refine zs_iload_n (j := 1) (i := 1) rfl rfl rfl ?_
  refine zs_iload_n (j := 2) (i := 2) rfl rfl rfl ?_
  refine zs_callV (host := "") rfl kX8_346 vX8_divisor (c_X8_divisor a b) [ZI a, ZI b] [] rfl (zroom_of (by omega)) rfl (Nat.le_of_ble_eq_true rfl) (⟨rfl, hp.1, by omega⟩) (fun r_3 g_3 hq_3 => ?_)
  obtain ⟨hr_3, hg_3⟩ := hq_3
  rw [hr_3, hg_3]
  show ZVV _ _ _ 6 _ [ZI ((Nat.gcd a.toNat b.toNat : Nat) : Int)] _
  refine zs_istore (i := 4) rfl (by decide) (by intro r x hr; have hr2 : r = 3 := (by omega); subst hr2; intro z; cases z) ?_
  show ZVV _ _ _ _ [ZR 8 0, ZI a, ZI b, ZI q, ZI ((Nat.gcd a.toNat b.toNat : Nat) : Int)] _ _
  refine zs_iload_n (j := 3) (i := 3) rfl rfl rfl ?_
  refine zs_if_ne 20 rfl (by omega) (fun hc_9 => ?_) (fun hc_9 => ?_)
  · refine zs_iload_n (j := 2) (i := 2) rfl rfl rfl ?_
    refine zs_iload (i := 4) rfl rfl ?_
    refine zs_idiv_p rfl (by omega) (by omega) ?_
    refine zs_i2l rfl ?_
    exact zs_lreturn rfl rfl (⟨by unfold mLow; first | rw [if_pos (by omega)] | rw [if_neg (by omega)], rfl⟩)
  · refine zs_iload_n (j := 1) (i := 1) rfl rfl rfl ?_
    refine zs_iload (i := 4) rfl rfl ?_
    refine zs_idiv_p rfl (hp.1) (by omega) ?_
    refine zs_i2l rfl ?_
    refine zs_goto 25 rfl (by omega) ?_
    exact zs_lreturn rfl rfl (⟨by unfold mLow; first | rw [if_pos (by omega)] | rw [if_neg (by omega)], rfl⟩)

def mqAll (g : ZG) (q : Int) : Int := zsum (fun p => if (if g 33 0 p < g 8 0 0 / 2 then (0 : Int) else 1) = q then 1 else 0) (g 8 0 2).toNat 0
def mqOf (g : ZG) (q s : Int) : Int := zsum (fun p => if (if g 33 0 p < g 8 0 0 / 2 then (0 : Int) else 1) = q ∧ g 32 0 p = s then 1 else 0) (g 8 0 2).toNat 0
def mQuarter (g : ZG) (q s t : Int) : Int := if q < 0 ∨ 1 < q ∨ s < 0 ∨ 2 < s ∨ t < 0 ∨ 1 < t then NOJ else if mqAll g q = 0 then NOJ else mLow (mqOf g q s) (mqAll g q) t
set_option maxHeartbeats 4000000 in
theorem l_X8_quarter {Y : ZW} {Q : Option ZV → ZG → Prop} {g : ZG} {q s t : Int} (hq01 : 0 ≤ q ∧ q ≤ 1) (hn8 : 3 ≤ g 8 0 0 ∧ g 8 0 0 ≤ 8) (hn6 : 0 ≤ g 8 0 2 ∧ g 8 0 2 ≤ 6) : ∀ (m k : Nat) (x y : Int), (k : Int) + m = g 8 0 2 → (0 ≤ x ∧ x ≤ k ∧ 0 ≤ y ∧ y ≤ k) → (x + zsum (fun p => if (if g 33 0 p < g 8 0 0 / 2 then (0 : Int) else 1) = q then 1 else 0) m k = 0 → Q (some (ZJ (-9223372036854775808))) g) → (x + zsum (fun p => if (if g 33 0 p < g 8 0 0 / 2 then (0 : Int) else 1) = q then 1 else 0) m k ≠ 0 → Q (some (ZJ (mLow (y + zsum (fun p => if (if g 33 0 p < g 8 0 0 / 2 then (0 : Int) else 1) = q ∧ g 32 0 p = s then 1 else 0) m k) (x + zsum (fun p => if (if g 33 0 p < g 8 0 0 / 2 then (0 : Int) else 1) = q then 1 else 0) m k) t))) g) → ZVV Y mX8_quarter (zcx Y 3 Q) 43 [ZR 8 0, ZI q, ZI s, ZI t, ZI x, ZI y, ZI (k : Int)] [] g := by
  intro m
  induction m with
  | zero =>
    intro k x y hk hb hq1 hq2
    refine zs_iload (i := 6) rfl rfl ?_
    refine zs_aload_n (j := 0) (i := 0) rfl rfl rfl ?_
    refine zs_getfield (f := 8) (k := 2) rfl rfl (trivial) ?_
    show ZVV _ _ _ _ _ (ZI (g 8 0 2) :: _) _
    refine zs_icmp_ge 118 rfl (by omega) (fun hc_49 => ?_) (fun hc_49 => ?_)
    · refine zs_iload (i := 4) rfl rfl ?_
      refine zs_if_ne 129 rfl (by omega) (fun hc_120 => ?_) (fun hc_120 => ?_)
      · refine zs_aload_n (j := 0) (i := 0) rfl rfl rfl ?_
        refine zs_iload (i := 5) rfl rfl ?_
        refine zs_iload (i := 4) rfl rfl ?_
        refine zs_iload_n (j := 3) (i := 3) rfl rfl rfl ?_
        refine zs_callV (host := "") rfl kX8_357 vX8_lowest (c_X8_lowest y x t) [ZI y, ZI x, ZI t] [] rfl (zroom_of (by omega)) rfl (Nat.le_of_ble_eq_true rfl) (⟨rfl, by omega, by omega⟩) (fun r_135 g_135 hq_135 => ?_)
        obtain ⟨hr_135, hg_135⟩ := hq_135
        rw [hr_135, hg_135]
        show ZVV _ _ _ 138 _ [ZJ (mLow y x t)] _
        exact zs_lreturn rfl rfl (by have hx := hq2 (by rw [show x + zsum (fun p => if (if g 33 0 p < g 8 0 0 / 2 then (0 : Int) else 1) = q then 1 else 0) 0 k = x from Int.add_zero _]; omega); rw [show x + zsum (fun p => if (if g 33 0 p < g 8 0 0 / 2 then (0 : Int) else 1) = q then 1 else 0) 0 k = x from Int.add_zero _, show y + zsum (fun p => if (if g 33 0 p < g 8 0 0 / 2 then (0 : Int) else 1) = q ∧ g 32 0 p = s then 1 else 0) 0 k = y from Int.add_zero _] at hx; exact hx)
      · refine zs_ldc2 (x := (-9223372036854775808)) rfl rfl ?_
        refine zs_goto 138 rfl (by omega) ?_
        exact zs_lreturn rfl rfl (hq1 (by rw [show x + zsum (fun p => if (if g 33 0 p < g 8 0 0 / 2 then (0 : Int) else 1) = q then 1 else 0) 0 k = x from Int.add_zero _]; omega))
    · exfalso; omega
  | succ m ih =>
    intro k x y hk hb hq1 hq2
    refine zs_iload (i := 6) rfl rfl ?_
    refine zs_aload_n (j := 0) (i := 0) rfl rfl rfl ?_
    refine zs_getfield (f := 8) (k := 2) rfl rfl (trivial) ?_
    show ZVV _ _ _ _ _ (ZI (g 8 0 2) :: _) _
    refine zs_icmp_ge 118 rfl (by omega) (fun hc_49 => ?_) (fun hc_49 => ?_)
    · exfalso; omega
    · refine zs_aload_n (j := 0) (i := 0) rfl rfl rfl ?_
      refine zs_getfield (f := 8) (k := 7) rfl rfl (trivial) ?_
      show ZVV _ _ _ _ _ (ZR 33 0 :: _) _
      refine zs_iload (i := 6) rfl rfl ?_
      refine zs_iald (n := 6) rfl rfl (by omega) (by omega) ?_
      show ZVV _ _ _ _ _ (ZI (g 33 0 k) :: _) _
      refine zs_aload_n (j := 0) (i := 0) rfl rfl rfl ?_
      refine zs_getfield (f := 8) (k := 0) rfl rfl (trivial) ?_
      show ZVV _ _ _ _ _ (ZI (g 8 0 0) :: _) _
      refine zs_iconst (n := 2) rfl ⟨by omega, by omega⟩ ?_
      show ZVV _ _ _ 64 _ _ _
      refine zs_idiv_p rfl (by omega) (by omega) ?_
      refine zs_icmp_ge 72 rfl (by omega) (fun hc_65 => ?_) (fun hc_65 => ?_)
      · refine zs_iconst (n := 0) rfl ⟨by omega, by omega⟩ ?_
        refine zs_iload_n (j := 1) (i := 1) rfl rfl rfl ?_
        refine zs_if_ne 81 rfl (by omega) (fun hc_74 => ?_) (fun hc_74 => ?_)
        · refine zs_iconst (n := 0) rfl ⟨by omega, by omega⟩ ?_
          skip
          refine zs_icmp_eq 88 rfl (by omega) (fun hc_82 => ?_) (fun hc_82 => ?_)
          · refine zs_iinc_r (i := 4) rfl rfl (by intro r x hr; have hr2 : r = 3 := (by omega); subst hr2; intro z; cases z) ⟨by omega, by omega⟩ ?_
            show ZVV _ _ _ _ [ZR 8 0, ZI q, ZI s, ZI t, ZI (x + 1), ZI y, ZI (k : Int)] _ _
            refine zs_iload (i := 5) rfl rfl ?_
            refine zs_aload_n (j := 0) (i := 0) rfl rfl rfl ?_
            refine zs_getfield (f := 8) (k := 6) rfl rfl (trivial) ?_
            show ZVV _ _ _ _ _ (ZR 32 0 :: _) _
            refine zs_iload (i := 6) rfl rfl ?_
            refine zs_iald (n := 6) rfl rfl (by omega) (by omega) ?_
            show ZVV _ _ _ _ _ (ZI (g 32 0 k) :: _) _
            refine zs_iload_n (j := 2) (i := 2) rfl rfl rfl ?_
            show ZVV _ _ _ 101 _ _ _
            refine zs_icmp_ne 108 rfl (by omega) (fun hc_101 => ?_) (fun hc_101 => ?_)
            · refine zs_iconst (n := 0) rfl ⟨by omega, by omega⟩ ?_
              refine zs_iadd_r rfl ⟨by omega, by omega⟩ ?_
              refine zs_istore (i := 5) rfl (by decide) (by intro r x hr; have hr2 : r = 4 := (by omega); subst hr2; intro z; cases z) ?_
              show ZVV _ _ _ _ [ZR 8 0, ZI q, ZI s, ZI t, ZI (x + 1), ZI (y + 0), ZI (k : Int)] _ _
              refine zs_iinc_r (i := 6) rfl rfl (by intro r x hr; have hr2 : r = 5 := (by omega); subst hr2; intro z; cases z) ⟨by omega, by omega⟩ ?_
              show ZVV _ _ _ _ [ZR 8 0, ZI q, ZI s, ZI t, ZI (x + 1), ZI (y + 0), ZI ((k : Int) + 1)] _ _
              refine zs_goto 43 rfl (by omega) ?_
              have hea : (fun p => if (if g 33 0 p < g 8 0 0 / 2 then (0 : Int) else 1) = q then 1 else 0) k = (1 : Int) := by dsimp only; first | (rw [if_pos (by omega)]) | (rw [if_neg (by omega)])
              have heo : (fun p => if (if g 33 0 p < g 8 0 0 / 2 then (0 : Int) else 1) = q ∧ g 32 0 p = s then 1 else 0) k = (0 : Int) := by dsimp only; first | (rw [if_pos (by omega)]) | (rw [if_neg (by omega)])
              refine ih (k + 1) (x + 1) (y + 0) (by omega) ⟨by omega, by omega, by omega, by omega⟩ (fun h0 => ?_) (fun h0 => ?_)
              · exact hq1 (by rw [zsum_v (f := fun p => if (if g 33 0 p < g 8 0 0 / 2 then (0 : Int) else 1) = q then 1 else 0) (k := k) hea]; exact h0)
              · have hx := hq2 (by rw [zsum_v (f := fun p => if (if g 33 0 p < g 8 0 0 / 2 then (0 : Int) else 1) = q then 1 else 0) (k := k) hea]; exact h0)
                rw [zsum_v (f := fun p => if (if g 33 0 p < g 8 0 0 / 2 then (0 : Int) else 1) = q then 1 else 0) (k := k) hea, zsum_v (f := fun p => if (if g 33 0 p < g 8 0 0 / 2 then (0 : Int) else 1) = q ∧ g 32 0 p = s then 1 else 0) (k := k) heo] at hx
                exact hx
            · refine zs_iconst (n := 1) rfl ⟨by omega, by omega⟩ ?_
              refine zs_goto 109 rfl (by omega) ?_
              refine zs_iadd_r rfl ⟨by omega, by omega⟩ ?_
              refine zs_istore (i := 5) rfl (by decide) (by intro r x hr; have hr2 : r = 4 := (by omega); subst hr2; intro z; cases z) ?_
              show ZVV _ _ _ _ [ZR 8 0, ZI q, ZI s, ZI t, ZI (x + 1), ZI (y + 1), ZI (k : Int)] _ _
              refine zs_iinc_r (i := 6) rfl rfl (by intro r x hr; have hr2 : r = 5 := (by omega); subst hr2; intro z; cases z) ⟨by omega, by omega⟩ ?_
              show ZVV _ _ _ _ [ZR 8 0, ZI q, ZI s, ZI t, ZI (x + 1), ZI (y + 1), ZI ((k : Int) + 1)] _ _
              refine zs_goto 43 rfl (by omega) ?_
              have hea : (fun p => if (if g 33 0 p < g 8 0 0 / 2 then (0 : Int) else 1) = q then 1 else 0) k = (1 : Int) := by dsimp only; first | (rw [if_pos (by omega)]) | (rw [if_neg (by omega)])
              have heo : (fun p => if (if g 33 0 p < g 8 0 0 / 2 then (0 : Int) else 1) = q ∧ g 32 0 p = s then 1 else 0) k = (1 : Int) := by dsimp only; first | (rw [if_pos (by omega)]) | (rw [if_neg (by omega)])
              refine ih (k + 1) (x + 1) (y + 1) (by omega) ⟨by omega, by omega, by omega, by omega⟩ (fun h0 => ?_) (fun h0 => ?_)
              · exact hq1 (by rw [zsum_v (f := fun p => if (if g 33 0 p < g 8 0 0 / 2 then (0 : Int) else 1) = q then 1 else 0) (k := k) hea]; exact h0)
              · have hx := hq2 (by rw [zsum_v (f := fun p => if (if g 33 0 p < g 8 0 0 / 2 then (0 : Int) else 1) = q then 1 else 0) (k := k) hea]; exact h0)
                rw [zsum_v (f := fun p => if (if g 33 0 p < g 8 0 0 / 2 then (0 : Int) else 1) = q then 1 else 0) (k := k) hea, zsum_v (f := fun p => if (if g 33 0 p < g 8 0 0 / 2 then (0 : Int) else 1) = q ∧ g 32 0 p = s then 1 else 0) (k := k) heo] at hx
                exact hx
          · exfalso; omega
        · refine zs_iconst (n := 1) rfl ⟨by omega, by omega⟩ ?_
          refine zs_goto 82 rfl (by omega) ?_
          skip
          refine zs_icmp_eq 88 rfl (by omega) (fun hc_82 => ?_) (fun hc_82 => ?_)
          · exfalso; omega
          · refine zs_goto 112 rfl (by omega) ?_
            refine zs_iinc_r (i := 6) rfl rfl (by intro r x hr; have hr2 : r = 5 := (by omega); subst hr2; intro z; cases z) ⟨by omega, by omega⟩ ?_
            show ZVV _ _ _ _ [ZR 8 0, ZI q, ZI s, ZI t, ZI x, ZI y, ZI ((k : Int) + 1)] _ _
            refine zs_goto 43 rfl (by omega) ?_
            have hea : (fun p => if (if g 33 0 p < g 8 0 0 / 2 then (0 : Int) else 1) = q then 1 else 0) k = (0 : Int) := by dsimp only; first | (rw [if_pos (by omega)]) | (rw [if_neg (by omega)])
            have heo : (fun p => if (if g 33 0 p < g 8 0 0 / 2 then (0 : Int) else 1) = q ∧ g 32 0 p = s then 1 else 0) k = (0 : Int) := by dsimp only; first | (rw [if_pos (by omega)]) | (rw [if_neg (by omega)])
            refine ih (k + 1) x y (by omega) ⟨by omega, by omega, by omega, by omega⟩ (fun h0 => ?_) (fun h0 => ?_)
            · exact hq1 (by rw [zsum_v (f := fun p => if (if g 33 0 p < g 8 0 0 / 2 then (0 : Int) else 1) = q then 1 else 0) (k := k) hea, Int.add_zero]; exact h0)
            · have hx := hq2 (by rw [zsum_v (f := fun p => if (if g 33 0 p < g 8 0 0 / 2 then (0 : Int) else 1) = q then 1 else 0) (k := k) hea, Int.add_zero]; exact h0)
              rw [zsum_v (f := fun p => if (if g 33 0 p < g 8 0 0 / 2 then (0 : Int) else 1) = q then 1 else 0) (k := k) hea, zsum_v (f := fun p => if (if g 33 0 p < g 8 0 0 / 2 then (0 : Int) else 1) = q ∧ g 32 0 p = s then 1 else 0) (k := k) heo, Int.add_zero, Int.add_zero] at hx
              exact hx
      · refine zs_iconst (n := 1) rfl ⟨by omega, by omega⟩ ?_
        refine zs_goto 73 rfl (by omega) ?_
        refine zs_iload_n (j := 1) (i := 1) rfl rfl rfl ?_
        refine zs_if_ne 81 rfl (by omega) (fun hc_74 => ?_) (fun hc_74 => ?_)
        · refine zs_iconst (n := 0) rfl ⟨by omega, by omega⟩ ?_
          skip
          refine zs_icmp_eq 88 rfl (by omega) (fun hc_82 => ?_) (fun hc_82 => ?_)
          · exfalso; omega
          · refine zs_goto 112 rfl (by omega) ?_
            refine zs_iinc_r (i := 6) rfl rfl (by intro r x hr; have hr2 : r = 5 := (by omega); subst hr2; intro z; cases z) ⟨by omega, by omega⟩ ?_
            show ZVV _ _ _ _ [ZR 8 0, ZI q, ZI s, ZI t, ZI x, ZI y, ZI ((k : Int) + 1)] _ _
            refine zs_goto 43 rfl (by omega) ?_
            have hea : (fun p => if (if g 33 0 p < g 8 0 0 / 2 then (0 : Int) else 1) = q then 1 else 0) k = (0 : Int) := by dsimp only; first | (rw [if_pos (by omega)]) | (rw [if_neg (by omega)])
            have heo : (fun p => if (if g 33 0 p < g 8 0 0 / 2 then (0 : Int) else 1) = q ∧ g 32 0 p = s then 1 else 0) k = (0 : Int) := by dsimp only; first | (rw [if_pos (by omega)]) | (rw [if_neg (by omega)])
            refine ih (k + 1) x y (by omega) ⟨by omega, by omega, by omega, by omega⟩ (fun h0 => ?_) (fun h0 => ?_)
            · exact hq1 (by rw [zsum_v (f := fun p => if (if g 33 0 p < g 8 0 0 / 2 then (0 : Int) else 1) = q then 1 else 0) (k := k) hea, Int.add_zero]; exact h0)
            · have hx := hq2 (by rw [zsum_v (f := fun p => if (if g 33 0 p < g 8 0 0 / 2 then (0 : Int) else 1) = q then 1 else 0) (k := k) hea, Int.add_zero]; exact h0)
              rw [zsum_v (f := fun p => if (if g 33 0 p < g 8 0 0 / 2 then (0 : Int) else 1) = q then 1 else 0) (k := k) hea, zsum_v (f := fun p => if (if g 33 0 p < g 8 0 0 / 2 then (0 : Int) else 1) = q ∧ g 32 0 p = s then 1 else 0) (k := k) heo, Int.add_zero, Int.add_zero] at hx
              exact hx
        · refine zs_iconst (n := 1) rfl ⟨by omega, by omega⟩ ?_
          refine zs_goto 82 rfl (by omega) ?_
          skip
          refine zs_icmp_eq 88 rfl (by omega) (fun hc_82 => ?_) (fun hc_82 => ?_)
          · refine zs_iinc_r (i := 4) rfl rfl (by intro r x hr; have hr2 : r = 3 := (by omega); subst hr2; intro z; cases z) ⟨by omega, by omega⟩ ?_
            show ZVV _ _ _ _ [ZR 8 0, ZI q, ZI s, ZI t, ZI (x + 1), ZI y, ZI (k : Int)] _ _
            refine zs_iload (i := 5) rfl rfl ?_
            refine zs_aload_n (j := 0) (i := 0) rfl rfl rfl ?_
            refine zs_getfield (f := 8) (k := 6) rfl rfl (trivial) ?_
            show ZVV _ _ _ _ _ (ZR 32 0 :: _) _
            refine zs_iload (i := 6) rfl rfl ?_
            refine zs_iald (n := 6) rfl rfl (by omega) (by omega) ?_
            show ZVV _ _ _ _ _ (ZI (g 32 0 k) :: _) _
            refine zs_iload_n (j := 2) (i := 2) rfl rfl rfl ?_
            show ZVV _ _ _ 101 _ _ _
            refine zs_icmp_ne 108 rfl (by omega) (fun hc_101 => ?_) (fun hc_101 => ?_)
            · refine zs_iconst (n := 0) rfl ⟨by omega, by omega⟩ ?_
              refine zs_iadd_r rfl ⟨by omega, by omega⟩ ?_
              refine zs_istore (i := 5) rfl (by decide) (by intro r x hr; have hr2 : r = 4 := (by omega); subst hr2; intro z; cases z) ?_
              show ZVV _ _ _ _ [ZR 8 0, ZI q, ZI s, ZI t, ZI (x + 1), ZI (y + 0), ZI (k : Int)] _ _
              refine zs_iinc_r (i := 6) rfl rfl (by intro r x hr; have hr2 : r = 5 := (by omega); subst hr2; intro z; cases z) ⟨by omega, by omega⟩ ?_
              show ZVV _ _ _ _ [ZR 8 0, ZI q, ZI s, ZI t, ZI (x + 1), ZI (y + 0), ZI ((k : Int) + 1)] _ _
              refine zs_goto 43 rfl (by omega) ?_
              have hea : (fun p => if (if g 33 0 p < g 8 0 0 / 2 then (0 : Int) else 1) = q then 1 else 0) k = (1 : Int) := by dsimp only; first | (rw [if_pos (by omega)]) | (rw [if_neg (by omega)])
              have heo : (fun p => if (if g 33 0 p < g 8 0 0 / 2 then (0 : Int) else 1) = q ∧ g 32 0 p = s then 1 else 0) k = (0 : Int) := by dsimp only; first | (rw [if_pos (by omega)]) | (rw [if_neg (by omega)])
              refine ih (k + 1) (x + 1) (y + 0) (by omega) ⟨by omega, by omega, by omega, by omega⟩ (fun h0 => ?_) (fun h0 => ?_)
              · exact hq1 (by rw [zsum_v (f := fun p => if (if g 33 0 p < g 8 0 0 / 2 then (0 : Int) else 1) = q then 1 else 0) (k := k) hea]; exact h0)
              · have hx := hq2 (by rw [zsum_v (f := fun p => if (if g 33 0 p < g 8 0 0 / 2 then (0 : Int) else 1) = q then 1 else 0) (k := k) hea]; exact h0)
                rw [zsum_v (f := fun p => if (if g 33 0 p < g 8 0 0 / 2 then (0 : Int) else 1) = q then 1 else 0) (k := k) hea, zsum_v (f := fun p => if (if g 33 0 p < g 8 0 0 / 2 then (0 : Int) else 1) = q ∧ g 32 0 p = s then 1 else 0) (k := k) heo] at hx
                exact hx
            · refine zs_iconst (n := 1) rfl ⟨by omega, by omega⟩ ?_
              refine zs_goto 109 rfl (by omega) ?_
              refine zs_iadd_r rfl ⟨by omega, by omega⟩ ?_
              refine zs_istore (i := 5) rfl (by decide) (by intro r x hr; have hr2 : r = 4 := (by omega); subst hr2; intro z; cases z) ?_
              show ZVV _ _ _ _ [ZR 8 0, ZI q, ZI s, ZI t, ZI (x + 1), ZI (y + 1), ZI (k : Int)] _ _
              refine zs_iinc_r (i := 6) rfl rfl (by intro r x hr; have hr2 : r = 5 := (by omega); subst hr2; intro z; cases z) ⟨by omega, by omega⟩ ?_
              show ZVV _ _ _ _ [ZR 8 0, ZI q, ZI s, ZI t, ZI (x + 1), ZI (y + 1), ZI ((k : Int) + 1)] _ _
              refine zs_goto 43 rfl (by omega) ?_
              have hea : (fun p => if (if g 33 0 p < g 8 0 0 / 2 then (0 : Int) else 1) = q then 1 else 0) k = (1 : Int) := by dsimp only; first | (rw [if_pos (by omega)]) | (rw [if_neg (by omega)])
              have heo : (fun p => if (if g 33 0 p < g 8 0 0 / 2 then (0 : Int) else 1) = q ∧ g 32 0 p = s then 1 else 0) k = (1 : Int) := by dsimp only; first | (rw [if_pos (by omega)]) | (rw [if_neg (by omega)])
              refine ih (k + 1) (x + 1) (y + 1) (by omega) ⟨by omega, by omega, by omega, by omega⟩ (fun h0 => ?_) (fun h0 => ?_)
              · exact hq1 (by rw [zsum_v (f := fun p => if (if g 33 0 p < g 8 0 0 / 2 then (0 : Int) else 1) = q then 1 else 0) (k := k) hea]; exact h0)
              · have hx := hq2 (by rw [zsum_v (f := fun p => if (if g 33 0 p < g 8 0 0 / 2 then (0 : Int) else 1) = q then 1 else 0) (k := k) hea]; exact h0)
                rw [zsum_v (f := fun p => if (if g 33 0 p < g 8 0 0 / 2 then (0 : Int) else 1) = q then 1 else 0) (k := k) hea, zsum_v (f := fun p => if (if g 33 0 p < g 8 0 0 / 2 then (0 : Int) else 1) = q ∧ g 32 0 p = s then 1 else 0) (k := k) heo] at hx
                exact hx
          · exfalso; omega
theorem c_X8_quarter (q s t : Int) : ZC mX8_quarter 3 (fun av g => av = [ZR 8 0, ZI q, ZI s, ZI t] ∧ MPI g) (fun _ g r g' => r = some (ZJ (mQuarter g q s t)) ∧ g' = g) := by
  refine zc_of gX8_quarter (fun av g hp => by obtain ⟨rfl, -⟩ := hp; exact Nat.le_of_ble_eq_true rfl) (fun Y av g hwf hrg hp hok => ?_)
  obtain ⟨rfl, hp⟩ := hp
  show ZVV _ _ _ 0 [ZR 8 0, ZI q, ZI s, ZI t, ZX 99, ZX 99, ZX 99] [] _
  obtain ⟨hm, hh, h3, h26⟩ := hp
  have hn8 := hm.1
  have hn6 := hm.2.2.1
  refine zs_aload_n (j := 0) (i := 0) rfl rfl rfl ?_
  refine zs_iload_n (j := 1) (i := 1) rfl rfl rfl ?_
  refine zs_iconst (n := 0) rfl ⟨by omega, by omega⟩ ?_
  refine zs_iconst (n := 1) rfl ⟨by omega, by omega⟩ ?_
  refine zs_callV (host := "") rfl kX8_170 vX8_in (c_X8_in q 0 1) [ZI q, ZI 0, ZI 1] [] rfl (zroom_of (by omega)) rfl (Nat.le_of_ble_eq_true rfl) (⟨rfl, trivial⟩) (fun r_4 g_4 hq_4 => ?_)
  obtain ⟨hr_4, hg_4⟩ := hq_4
  rw [hr_4, hg_4]
  show ZVV _ _ _ 7 _ [ZI (if 0 ≤ q ∧ q ≤ 1 then 1 else 0)] _
  refine zs_if_eq 30 rfl (by omega) (fun hc_7 => ?_) (fun hc_7 => ?_)
  · refine zs_ldc2 (x := (-9223372036854775808)) rfl rfl ?_
    exact zs_lreturn rfl rfl (⟨by unfold mQuarter; rw [if_pos (by omega)]; rfl, rfl⟩)
  · refine zs_aload_n (j := 0) (i := 0) rfl rfl rfl ?_
    refine zs_iload_n (j := 2) (i := 2) rfl rfl rfl ?_
    refine zs_iconst (n := 0) rfl ⟨by omega, by omega⟩ ?_
    refine zs_iconst (n := 2) rfl ⟨by omega, by omega⟩ ?_
    refine zs_callV (host := "") rfl kX8_170 vX8_in (c_X8_in s 0 2) [ZI s, ZI 0, ZI 2] [] rfl (zroom_of (by omega)) rfl (Nat.le_of_ble_eq_true rfl) (⟨rfl, trivial⟩) (fun r_14 g_14 hq_14 => ?_)
    obtain ⟨hr_14, hg_14⟩ := hq_14
    rw [hr_14, hg_14]
    show ZVV _ _ _ 17 _ [ZI (if 0 ≤ s ∧ s ≤ 2 then 1 else 0)] _
    refine zs_if_eq 30 rfl (by omega) (fun hc_17 => ?_) (fun hc_17 => ?_)
    · refine zs_ldc2 (x := (-9223372036854775808)) rfl rfl ?_
      exact zs_lreturn rfl rfl (⟨by unfold mQuarter; rw [if_pos (by omega)]; rfl, rfl⟩)
    · refine zs_aload_n (j := 0) (i := 0) rfl rfl rfl ?_
      refine zs_iload_n (j := 3) (i := 3) rfl rfl rfl ?_
      refine zs_iconst (n := 0) rfl ⟨by omega, by omega⟩ ?_
      refine zs_iconst (n := 1) rfl ⟨by omega, by omega⟩ ?_
      refine zs_callV (host := "") rfl kX8_170 vX8_in (c_X8_in t 0 1) [ZI t, ZI 0, ZI 1] [] rfl (zroom_of (by omega)) rfl (Nat.le_of_ble_eq_true rfl) (⟨rfl, trivial⟩) (fun r_24 g_24 hq_24 => ?_)
      obtain ⟨hr_24, hg_24⟩ := hq_24
      rw [hr_24, hg_24]
      show ZVV _ _ _ 27 _ [ZI (if 0 ≤ t ∧ t ≤ 1 then 1 else 0)] _
      refine zs_if_ne 34 rfl (by omega) (fun hc_27 => ?_) (fun hc_27 => ?_)
      · refine zs_iconst (n := 0) rfl ⟨by omega, by omega⟩ ?_
        refine zs_istore (i := 4) rfl (by decide) (by intro r x hr; have hr2 : r = 3 := (by omega); subst hr2; intro z; cases z) ?_
        show ZVV _ _ _ _ [ZR 8 0, ZI q, ZI s, ZI t, ZI 0, ZX 99, ZX 99] _ _
        refine zs_iconst (n := 0) rfl ⟨by omega, by omega⟩ ?_
        refine zs_istore (i := 5) rfl (by decide) (by intro r x hr; have hr2 : r = 4 := (by omega); subst hr2; intro z; cases z) ?_
        show ZVV _ _ _ _ [ZR 8 0, ZI q, ZI s, ZI t, ZI 0, ZI 0, ZX 99] _ _
        refine zs_iconst (n := 0) rfl ⟨by omega, by omega⟩ ?_
        refine zs_istore (i := 6) rfl (by decide) (by intro r x hr; have hr2 : r = 5 := (by omega); subst hr2; intro z; cases z) ?_
        show ZVV _ _ _ _ [ZR 8 0, ZI q, ZI s, ZI t, ZI 0, ZI 0, ZI 0] _ _
        refine l_X8_quarter (by omega) hn8 hn6 (g 8 0 2).toNat 0 0 0 (by omega) ⟨by omega, by omega, by omega, by omega⟩ (fun h0 => ?_) (fun h0 => ?_)
        · rw [Int.zero_add] at h0
          exact ⟨by unfold mQuarter; rw [if_neg (by omega), if_pos (show mqAll g q = 0 from h0)]; rfl, rfl⟩
        · rw [Int.zero_add] at h0
          rw [Int.zero_add, Int.zero_add]
          exact ⟨by unfold mQuarter; rw [if_neg (by omega), if_neg (show ¬ mqAll g q = 0 from h0)]; rfl, rfl⟩
      · refine zs_ldc2 (x := (-9223372036854775808)) rfl rfl ?_
        exact zs_lreturn rfl rfl (⟨by unfold mQuarter; rw [if_pos (by omega)]; rfl, rfl⟩)

def mJdg (t : ZT) (it : Int → Int) (so ln i : Int) (n k : Nat) : Int := match n with
  | 0 => -5
  | n + 1 => if so < 0 ∨ i < 0 ∨ ln - k - 1 < i then 100 + (k : Int) else if it (i + k) = (if tSu t k (tho t k) = true then 1 else 0) then mJdg t it so ln i n (k + 1) else (k : Int)
def mJudge (g : ZG) (u i : Int) : Int := if ¬ (0 ≤ u ∧ u ≤ 5) then -1 else if 0 ≤ g 53 0 u.toNat ∧ g 53 0 u.toNat ≠ 4 then -12 else mJdg (mT g) (fun z => g 55 0 (60 * u + z).toNat) (g 53 0 u.toNat) (g 54 0 u.toNat) i (g 8 0 2).toNat 0
set_option maxHeartbeats 4000000 in
theorem l_X8_judge {Y : ZW} {Q : Option ZV → ZG → Prop} {g : ZG} {u i : Int} (hm : MOK g) (hh : MHH g) (hu : 0 ≤ u ∧ u ≤ 5) (hl : 0 ≤ g 54 0 u.toNat ∧ g 54 0 u.toNat ≤ 60) : ∀ (m k : Nat) (G : ZG), (k : Int) + m = g 8 0 2 → zP g G → (∀ M, zP g M → Q (some (ZI (mJdg (mT g) (fun z => g 55 0 (60 * u + z).toNat) (g 53 0 u.toNat) (g 54 0 u.toNat) i m k))) M) → ZVV Y mX8_judge (zcx Y 8 Q) 34 [ZR 8 0, ZI u, ZI i, ZI (k : Int)] [] G := by
  have hn8 := hm.1
  have hn6 := hm.2.2.1
  intro m
  induction m with
  | zero =>
    intro k G hk hz hq
    have e8_G : G 8 = g 8 := hz 8 (by decide)
    have e30_G : G 30 = g 30 := hz 30 (by decide)
    have e31_G : G 31 = g 31 := hz 31 (by decide)
    have e32_G : G 32 = g 32 := hz 32 (by decide)
    have e33_G : G 33 = g 33 := hz 33 (by decide)
    have e35_G : G 35 = g 35 := hz 35 (by decide)
    have e36_G : G 36 = g 36 := hz 36 (by decide)
    have e37_G : G 37 = g 37 := hz 37 (by decide)
    have e38_G : G 38 = g 38 := hz 38 (by decide)
    have e39_G : G 39 = g 39 := hz 39 (by decide)
    have e40_G : G 40 = g 40 := hz 40 (by decide)
    have e44_G : G 44 = g 44 := hz 44 (by decide)
    have e53_G : G 53 = g 53 := hz 53 (by decide)
    have e54_G : G 54 = g 54 := hz 54 (by decide)
    have e55_G : G 55 = g 55 := hz 55 (by decide)
    refine zs_iload_n (j := 3) (i := 3) rfl rfl rfl ?_
    refine zs_aload_n (j := 0) (i := 0) rfl rfl rfl ?_
    refine zs_getfield (f := 8) (k := 2) rfl rfl (trivial) ?_
    show ZVV _ _ _ _ _ (ZI (G 8 0 2) :: _) _
    rw [e8_G]
    refine zs_icmp_ge 112 rfl (by omega) (fun hc_39 => ?_) (fun hc_39 => ?_)
    · refine zs_bipush (n := (-5)) rfl ⟨by omega, by omega⟩ ?_
      exact zs_ireturn rfl rfl (hq G hz)
    · exfalso; omega
  | succ m ih =>
    intro k G hk hz hq
    have e8_G : G 8 = g 8 := hz 8 (by decide)
    have e30_G : G 30 = g 30 := hz 30 (by decide)
    have e31_G : G 31 = g 31 := hz 31 (by decide)
    have e32_G : G 32 = g 32 := hz 32 (by decide)
    have e33_G : G 33 = g 33 := hz 33 (by decide)
    have e35_G : G 35 = g 35 := hz 35 (by decide)
    have e36_G : G 36 = g 36 := hz 36 (by decide)
    have e37_G : G 37 = g 37 := hz 37 (by decide)
    have e38_G : G 38 = g 38 := hz 38 (by decide)
    have e39_G : G 39 = g 39 := hz 39 (by decide)
    have e40_G : G 40 = g 40 := hz 40 (by decide)
    have e44_G : G 44 = g 44 := hz 44 (by decide)
    have e53_G : G 53 = g 53 := hz 53 (by decide)
    have e54_G : G 54 = g 54 := hz 54 (by decide)
    have e55_G : G 55 = g 55 := hz 55 (by decide)
    refine zs_iload_n (j := 3) (i := 3) rfl rfl rfl ?_
    refine zs_aload_n (j := 0) (i := 0) rfl rfl rfl ?_
    refine zs_getfield (f := 8) (k := 2) rfl rfl (trivial) ?_
    show ZVV _ _ _ _ _ (ZI (G 8 0 2) :: _) _
    rw [e8_G]
    refine zs_icmp_ge 112 rfl (by omega) (fun hc_39 => ?_) (fun hc_39 => ?_)
    · exfalso; omega
    · refine zs_aload_n (j := 0) (i := 0) rfl rfl rfl ?_
      refine zs_getfield (f := 8) (k := 48) rfl rfl (trivial) ?_
      show ZVV _ _ _ _ _ (ZR 53 0 :: _) _
      refine zs_iload_n (j := 1) (i := 1) rfl rfl rfl ?_
      refine zs_iald (n := 6) rfl rfl (by omega) (by omega) ?_
      show ZVV _ _ _ _ _ (ZI (G 53 0 u.toNat) :: _) _
      rw [e53_G]
      refine zs_if_lt 69 rfl (by omega) (fun hc_48 => ?_) (fun hc_48 => ?_)
      · refine zs_bipush (n := 100) rfl ⟨by omega, by omega⟩ ?_
        refine zs_iload_n (j := 3) (i := 3) rfl rfl rfl ?_
        refine zs_iadd_r rfl ⟨by omega, by omega⟩ ?_
        exact zs_ireturn rfl rfl (by have hx := hq G hz; rw [show mJdg (mT g) (fun z => g 55 0 (60 * u + z).toNat) (g 53 0 u.toNat) (g 54 0 u.toNat) i (m + 1) k = 100 + (k : Int) from if_pos (show (g 53 0 u.toNat < 0 ∨ i < 0 ∨ g 54 0 u.toNat - k - 1 < i) by omega)] at hx; exact hx)
      · refine zs_iload_n (j := 2) (i := 2) rfl rfl rfl ?_
        refine zs_if_lt 69 rfl (by omega) (fun hc_52 => ?_) (fun hc_52 => ?_)
        · refine zs_bipush (n := 100) rfl ⟨by omega, by omega⟩ ?_
          refine zs_iload_n (j := 3) (i := 3) rfl rfl rfl ?_
          refine zs_iadd_r rfl ⟨by omega, by omega⟩ ?_
          exact zs_ireturn rfl rfl (by have hx := hq G hz; rw [show mJdg (mT g) (fun z => g 55 0 (60 * u + z).toNat) (g 53 0 u.toNat) (g 54 0 u.toNat) i (m + 1) k = 100 + (k : Int) from if_pos (show (g 53 0 u.toNat < 0 ∨ i < 0 ∨ g 54 0 u.toNat - k - 1 < i) by omega)] at hx; exact hx)
        · refine zs_iload_n (j := 2) (i := 2) rfl rfl rfl ?_
          refine zs_aload_n (j := 0) (i := 0) rfl rfl rfl ?_
          refine zs_getfield (f := 8) (k := 49) rfl rfl (trivial) ?_
          show ZVV _ _ _ _ _ (ZR 54 0 :: _) _
          refine zs_iload_n (j := 1) (i := 1) rfl rfl rfl ?_
          refine zs_iald (n := 6) rfl rfl (by omega) (by omega) ?_
          show ZVV _ _ _ _ _ (ZI (G 54 0 u.toNat) :: _) _
          rw [e54_G]
          refine zs_iload_n (j := 3) (i := 3) rfl rfl rfl ?_
          refine zs_isub_r rfl ⟨by omega, by omega⟩ ?_
          show ZVV _ _ _ 64 _ _ _
          refine zs_iconst (n := 1) rfl ⟨by omega, by omega⟩ ?_
          refine zs_isub_r rfl ⟨by omega, by omega⟩ ?_
          refine zs_icmp_le 74 rfl (by omega) (fun hc_66 => ?_) (fun hc_66 => ?_)
          · have hit : (60 * u + (i + k)).toNat = (60 * u + i + k).toNat := by congr 1; omega
            refine zs_aload_n (j := 0) (i := 0) rfl rfl rfl ?_
            refine zs_getfield (f := 8) (k := 50) rfl rfl (trivial) ?_
            show ZVV _ _ _ _ _ (ZR 55 0 :: _) _
            refine zs_bipush (n := 60) rfl ⟨by omega, by omega⟩ ?_
            refine zs_iload_n (j := 1) (i := 1) rfl rfl rfl ?_
            refine zs_imul_r rfl ⟨by omega, by omega⟩ ?_
            refine zs_iload_n (j := 2) (i := 2) rfl rfl rfl ?_
            refine zs_iadd_r rfl ⟨by omega, by omega⟩ ?_
            show ZVV _ _ _ 84 _ _ _
            refine zs_iload_n (j := 3) (i := 3) rfl rfl rfl ?_
            refine zs_iadd_r rfl ⟨by omega, by omega⟩ ?_
            refine zs_lald (n := 360) rfl rfl (by omega) (by omega) ?_
            show ZVV _ _ _ _ _ (ZJ (G 55 0 (((60 * u) + i) + (k : Int)).toNat) :: _) _
            rw [e55_G]
            refine zs_aload_n (j := 0) (i := 0) rfl rfl rfl ?_
            refine zs_iload_n (j := 3) (i := 3) rfl rfl rfl ?_
            refine zs_callV (host := "") rfl kX8_265 vX8_isContent (c_X8_isContent (k : Int)) [ZI (k : Int)] [ZJ (g 55 0 (((60 * u) + i) + (k : Int)).toNat)] rfl (zroom_of (by omega)) rfl (Nat.le_of_ble_eq_true rfl) ⟨rfl, hm.z hz, ⟨by omega, by rw [hz 8 (by decide)]; omega⟩, by rw [hz 33 (by decide)]; exact hh k (by omega)⟩ (fun r_89 g_89 hq_89 => ?_)
            obtain ⟨hr_89, hz1_89⟩ := hq_89
            rw [hr_89, mT_z hz, hz 33 (by decide)]
            have hz_89 := (show zP g G from hz).tr hz1_89
            have e8_89 : g_89 8 = g 8 := hz_89 8 (by decide)
            have e30_89 : g_89 30 = g 30 := hz_89 30 (by decide)
            have e31_89 : g_89 31 = g 31 := hz_89 31 (by decide)
            have e32_89 : g_89 32 = g 32 := hz_89 32 (by decide)
            have e33_89 : g_89 33 = g 33 := hz_89 33 (by decide)
            have e35_89 : g_89 35 = g 35 := hz_89 35 (by decide)
            have e36_89 : g_89 36 = g 36 := hz_89 36 (by decide)
            have e37_89 : g_89 37 = g 37 := hz_89 37 (by decide)
            have e38_89 : g_89 38 = g 38 := hz_89 38 (by decide)
            have e39_89 : g_89 39 = g 39 := hz_89 39 (by decide)
            have e40_89 : g_89 40 = g 40 := hz_89 40 (by decide)
            have e44_89 : g_89 44 = g 44 := hz_89 44 (by decide)
            show ZVV _ _ _ 92 _ [ZI (if tSu (mT g) k (g 33 0 k) = true then 1 else 0), ZJ (g 55 0 (((60 * u) + i) + (k : Int)).toNat)] g_89
            refine zs_if_eq 99 rfl (by omega) (fun hc_92 => ?_) (fun hc_92 => ?_)
            · refine zs_lconst (n := 0) rfl ?_
              show ZVV _ _ _ _ _ (ZJ 0 :: _) _
              refine zs_lcmp rfl ?_
              refine zs_if_eq 106 rfl (by omega) (fun hc_101 => ?_) (fun hc_101 => ?_)
              · refine zs_iinc_r (i := 3) rfl rfl (by intro r x hr; have hr2 : r = 2 := (by omega); subst hr2; intro z; cases z) ⟨by omega, by omega⟩ ?_
                show ZVV _ _ _ _ [ZR 8 0, ZI u, ZI i, ZI ((k : Int) + 1)] _ _
                refine zs_goto 34 rfl (by omega) ?_
                refine ih (k + 1) g_89 (by omega) hz_89 (fun M hM => ?_)
                have hx := hq M hM
                rw [show mJdg (mT g) (fun z => g 55 0 (60 * u + z).toNat) (g 53 0 u.toNat) (g 54 0 u.toNat) i (m + 1) k = mJdg (mT g) (fun z => g 55 0 (60 * u + z).toNat) (g 53 0 u.toNat) (g 54 0 u.toNat) i m (k + 1) from (if_neg (show ¬ (g 53 0 u.toNat < 0 ∨ i < 0 ∨ g 54 0 u.toNat - k - 1 < i) by omega)).trans (if_pos (by show g 55 0 (60 * u + (i + k)).toNat = if tSu (mT g) k (g 33 0 k) = true then 1 else 0; rw [hit]; first | (rw [if_pos (zif1 hc_92)]; omega) | (rw [if_neg (zif0 hc_92)]; omega)))] at hx
                exact hx
              · refine zs_iload_n (j := 3) (i := 3) rfl rfl rfl ?_
                exact zs_ireturn rfl rfl (by
        have hx := hq g_89 hz_89
        rw [show mJdg (mT g) (fun z => g 55 0 (60 * u + z).toNat) (g 53 0 u.toNat) (g 54 0 u.toNat) i (m + 1) k = (k : Int) from (if_neg (show ¬ (g 53 0 u.toNat < 0 ∨ i < 0 ∨ g 54 0 u.toNat - k - 1 < i) by omega)).trans (if_neg (fun z => by
          have z1 : g 55 0 (60 * u + (i + k)).toNat = if tSu (mT g) k (g 33 0 k) = true then 1 else 0 := z
          rw [hit] at z1
          first
          | (rw [if_pos (zif1 hc_92)] at z1; omega)
          | (rw [if_neg (zif0 hc_92)] at z1; omega)))] at hx
        exact hx)
            · refine zs_lconst (n := 1) rfl ?_
              show ZVV _ _ _ _ _ (ZJ 1 :: _) _
              refine zs_goto 100 rfl (by omega) ?_
              refine zs_lcmp rfl ?_
              refine zs_if_eq 106 rfl (by omega) (fun hc_101 => ?_) (fun hc_101 => ?_)
              · refine zs_iinc_r (i := 3) rfl rfl (by intro r x hr; have hr2 : r = 2 := (by omega); subst hr2; intro z; cases z) ⟨by omega, by omega⟩ ?_
                show ZVV _ _ _ _ [ZR 8 0, ZI u, ZI i, ZI ((k : Int) + 1)] _ _
                refine zs_goto 34 rfl (by omega) ?_
                refine ih (k + 1) g_89 (by omega) hz_89 (fun M hM => ?_)
                have hx := hq M hM
                rw [show mJdg (mT g) (fun z => g 55 0 (60 * u + z).toNat) (g 53 0 u.toNat) (g 54 0 u.toNat) i (m + 1) k = mJdg (mT g) (fun z => g 55 0 (60 * u + z).toNat) (g 53 0 u.toNat) (g 54 0 u.toNat) i m (k + 1) from (if_neg (show ¬ (g 53 0 u.toNat < 0 ∨ i < 0 ∨ g 54 0 u.toNat - k - 1 < i) by omega)).trans (if_pos (by show g 55 0 (60 * u + (i + k)).toNat = if tSu (mT g) k (g 33 0 k) = true then 1 else 0; rw [hit]; first | (rw [if_pos (zif1 hc_92)]; omega) | (rw [if_neg (zif0 hc_92)]; omega)))] at hx
                exact hx
              · refine zs_iload_n (j := 3) (i := 3) rfl rfl rfl ?_
                exact zs_ireturn rfl rfl (by
        have hx := hq g_89 hz_89
        rw [show mJdg (mT g) (fun z => g 55 0 (60 * u + z).toNat) (g 53 0 u.toNat) (g 54 0 u.toNat) i (m + 1) k = (k : Int) from (if_neg (show ¬ (g 53 0 u.toNat < 0 ∨ i < 0 ∨ g 54 0 u.toNat - k - 1 < i) by omega)).trans (if_neg (fun z => by
          have z1 : g 55 0 (60 * u + (i + k)).toNat = if tSu (mT g) k (g 33 0 k) = true then 1 else 0 := z
          rw [hit] at z1
          first
          | (rw [if_pos (zif1 hc_92)] at z1; omega)
          | (rw [if_neg (zif0 hc_92)] at z1; omega)))] at hx
        exact hx)
          · refine zs_bipush (n := 100) rfl ⟨by omega, by omega⟩ ?_
            refine zs_iload_n (j := 3) (i := 3) rfl rfl rfl ?_
            refine zs_iadd_r rfl ⟨by omega, by omega⟩ ?_
            exact zs_ireturn rfl rfl (by have hx := hq G hz; rw [show mJdg (mT g) (fun z => g 55 0 (60 * u + z).toNat) (g 53 0 u.toNat) (g 54 0 u.toNat) i (m + 1) k = 100 + (k : Int) from if_pos (show (g 53 0 u.toNat < 0 ∨ i < 0 ∨ g 54 0 u.toNat - k - 1 < i) by omega)] at hx; exact hx)
theorem c_X8_judge (u i : Int) : ZC mX8_judge 8 (fun av g => av = [ZR 8 0, ZI u, ZI i] ∧ MPI g ∧ (∀ q : Nat, q < 6 → 0 ≤ g 54 0 q ∧ g 54 0 q ≤ 60)) (fun _ g r g' => r = some (ZI (mJudge g u i)) ∧ zA g g') := by
  refine zc_of gX8_judge (fun av g hp => by obtain ⟨rfl, -⟩ := hp; exact Nat.le_of_ble_eq_true rfl) (fun Y av g hwf hrg hp hok => ?_)
  obtain ⟨rfl, hp⟩ := hp
  show ZVV _ _ _ 0 [ZR 8 0, ZI u, ZI i, ZX 99] [] _
  obtain ⟨⟨hm, hh, h3, h26⟩, hl⟩ := hp
  have hn6 := hm.2.2.1
  refine zs_aload_n (j := 0) (i := 0) rfl rfl rfl ?_
  refine zs_iload_n (j := 1) (i := 1) rfl rfl rfl ?_
  refine zs_callV (host := "") rfl kX8_364 vX8_isTape (c_X8_isTape u) [ZI u] [] rfl (zroom_of (by omega)) rfl (Nat.le_of_ble_eq_true rfl) (⟨rfl, trivial⟩) (fun r_2 g_2 hq_2 => ?_)
  obtain ⟨hr_2, hg_2⟩ := hq_2
  rw [hr_2, hg_2]
  show ZVV _ _ _ 5 _ [ZI (if 0 ≤ u ∧ u ≤ 5 then 1 else 0)] _
  refine zs_if_ne 10 rfl (by omega) (fun hc_5 => ?_) (fun hc_5 => ?_)
  · refine zs_aload_n (j := 0) (i := 0) rfl rfl rfl ?_
    refine zs_getfield (f := 8) (k := 48) rfl rfl (trivial) ?_
    show ZVV _ _ _ _ _ (ZR 53 0 :: _) _
    refine zs_iload_n (j := 1) (i := 1) rfl rfl rfl ?_
    refine zs_iald (n := 6) rfl rfl (by omega) (by omega) ?_
    refine zs_if_lt 32 rfl (by omega) (fun hc_16 => ?_) (fun hc_16 => ?_)
    · refine zs_iconst (n := 0) rfl ⟨by omega, by omega⟩ ?_
      refine zs_istore_n (j := 3) (i := 3) rfl rfl (by decide) (by intro r x hr; have hr2 : r = 2 := (by omega); subst hr2; intro z; cases z) ?_
      show ZVV _ _ _ _ [ZR 8 0, ZI u, ZI i, ZI 0] _ _
      exact l_X8_judge hm hh (by omega) (hl u.toNat (by omega)) (g 8 0 2).toNat 0 g (by omega) (zP.rf g) (fun M hM => ⟨by unfold mJudge; rw [if_neg (by omega), if_neg (by omega)], hM.a⟩)
    · refine zs_aload_n (j := 0) (i := 0) rfl rfl rfl ?_
      refine zs_getfield (f := 8) (k := 48) rfl rfl (trivial) ?_
      show ZVV _ _ _ _ _ (ZR 53 0 :: _) _
      refine zs_iload_n (j := 1) (i := 1) rfl rfl rfl ?_
      refine zs_iald (n := 6) rfl rfl (by omega) (by omega) ?_
      refine zs_iconst (n := 4) rfl ⟨by omega, by omega⟩ ?_
      refine zs_icmp_eq 32 rfl (by omega) (fun hc_26 => ?_) (fun hc_26 => ?_)
      · refine zs_iconst (n := 0) rfl ⟨by omega, by omega⟩ ?_
        refine zs_istore_n (j := 3) (i := 3) rfl rfl (by decide) (by intro r x hr; have hr2 : r = 2 := (by omega); subst hr2; intro z; cases z) ?_
        show ZVV _ _ _ _ [ZR 8 0, ZI u, ZI i, ZI 0] _ _
        exact l_X8_judge hm hh (by omega) (hl u.toNat (by omega)) (g 8 0 2).toNat 0 g (by omega) (zP.rf g) (fun M hM => ⟨by unfold mJudge; rw [if_neg (by omega), if_neg (by omega)], hM.a⟩)
      · refine zs_bipush (n := (-12)) rfl ⟨by omega, by omega⟩ ?_
        exact zs_ireturn rfl rfl (⟨by unfold mJudge; rw [if_neg (by omega), if_pos (by omega)], zA.rf g⟩)
  · refine zs_iconst (n := (-1)) rfl ⟨by omega, by omega⟩ ?_
    exact zs_ireturn rfl rfl (⟨by unfold mJudge; rw [if_pos (by omega)], zA.rf g⟩)

