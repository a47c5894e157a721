def tLow (a n : Int) (m k : Nat) (c : Int) : Int := match m with
  | 0 => c
  | m + 1 => tLow a n m (k + 1) (if a % k = 0 ∧ n % k = 0 then (k : Int) else c)
theorem tLow_s (a n : Int) (m k : Nat) (c : Int) : tLow a n (m + 1) k c = tLow a n m (k + 1) (if a % k = 0 ∧ n % k = 0 then (k : Int) else c) := rfl
theorem tLow_rng {a n : Int} : ∀ (m k : Nat) (c : Int), 1 ≤ k → 1 ≤ c → 1 ≤ tLow a n m k c := by
  intro m
  induction m with
  | zero => intro k c h1 h2; exact h2
  | succ m ih =>
    intro k c h1 h2
    rw [tLow_s]
    refine ih (k + 1) _ (by omega) ?_
    split <;> omega
def NOJ : Int := -9223372036854775808
def cPart (a n part : Int) : Int := if n ≤ 0 then NOJ else if part = 0 then a / tLow a n (n - 1).toNat 2 1 else n / tLow a n (n - 1).toNat 2 1
theorem l_X7_part {Y : ZW} {Q : Option ZV → ZG → Prop} {g : ZG} {a n q : Int} (ha : 0 ≤ a ∧ a ≤ 100000) (hn : 1 ≤ n ∧ n ≤ 100000) : ∀ (m k : Nat) (c : Int), (k : Int) + m = n + 1 → 2 ≤ k → (1 ≤ c ∧ c ≤ 100000) → (∀ z, z = tLow a n m k c → Q (some (ZJ (if q = 0 then a / z else n / z))) g) → ZVV Y mX7_partInLowestTerms (zcx Y 1 Q) 13 [ZI a, ZI n, ZI q, ZI c, ZI (k : Int)] [] g := by
  intro m
  induction m with
  | zero =>
    intro k c hk h2 hc hq
    refine zs_iload (i := 4) rfl rfl ?_
    refine zs_iload_n (j := 1) (i := 1) rfl rfl rfl ?_
    refine zs_icmp_gt 42 rfl (by omega) (fun hc_16 => ?_) (fun hc_16 => ?_)
    · refine zs_iload_n (j := 2) (i := 2) rfl rfl rfl ?_
      refine zs_if_ne 53 rfl (by omega) (fun hc_43 => ?_) (fun hc_43 => ?_)
      · refine zs_iload_n (j := 1) (i := 1) rfl rfl rfl ?_
        refine zs_iload_n (j := 3) (i := 3) rfl rfl rfl ?_
        refine zs_idiv_p rfl (by omega) (by omega) ?_
        refine zs_i2l rfl ?_
        exact zs_lreturn rfl rfl (by have := hq c rfl; first | (rw [if_pos (by omega)] at this; exact this) | (rw [if_neg (by omega)] at this; exact this))
      · refine zs_iload_n (j := 0) (i := 0) rfl rfl rfl ?_
        refine zs_iload_n (j := 3) (i := 3) rfl rfl rfl ?_
        refine zs_idiv_p rfl (by omega) (by omega) ?_
        refine zs_i2l rfl ?_
        refine zs_goto 57 rfl (by omega) ?_
        exact zs_lreturn rfl rfl (by have := hq c rfl; first | (rw [if_pos (by omega)] at this; exact this) | (rw [if_neg (by omega)] at this; exact this))
    · exfalso; omega
  | succ m ih =>
    intro k c hk h2 hc hq
    refine zs_iload (i := 4) rfl rfl ?_
    refine zs_iload_n (j := 1) (i := 1) rfl rfl rfl ?_
    refine zs_icmp_gt 42 rfl (by omega) (fun hc_16 => ?_) (fun hc_16 => ?_)
    · exfalso; omega
    · refine zs_iload_n (j := 0) (i := 0) rfl rfl rfl ?_
      refine zs_iload (i := 4) rfl rfl ?_
      refine zs_irem_p rfl (by omega) (by omega) ?_
      refine zs_if_ne 36 rfl (by omega) (fun hc_23 => ?_) (fun hc_23 => ?_)
      · refine zs_iinc_r (i := 4) rfl rfl (by intro r x hr; have hr2 : r = 3 := (by omega); subst hr2; intro z; cases z) ⟨by omega, by omega⟩ ?_
        show ZVV _ _ _ _ [ZI a, ZI n, ZI q, ZI c, ZI ((k : Int) + 1)] _ _
        refine zs_goto 13 rfl (by omega) ?_
        exact ih (k + 1) c (by omega) (by omega) hc (fun z hz => hq z (by rw [hz, tLow_s, if_neg (by omega)]))
      · refine zs_iload_n (j := 1) (i := 1) rfl rfl rfl ?_
        refine zs_iload (i := 4) rfl rfl ?_
        refine zs_irem_p rfl (by omega) (by omega) ?_
        refine zs_if_ne 36 rfl (by omega) (fun hc_30 => ?_) (fun hc_30 => ?_)
        · refine zs_iinc_r (i := 4) rfl rfl (by intro r x hr; have hr2 : r = 3 := (by omega); subst hr2; intro z; cases z) ⟨by omega, by omega⟩ ?_
          show ZVV _ _ _ _ [ZI a, ZI n, ZI q, ZI c, ZI ((k : Int) + 1)] _ _
          refine zs_goto 13 rfl (by omega) ?_
          exact ih (k + 1) c (by omega) (by omega) hc (fun z hz => hq z (by rw [hz, tLow_s, if_neg (by omega)]))
        · refine zs_iload (i := 4) rfl rfl ?_
          refine zs_istore_n (j := 3) (i := 3) rfl rfl (by decide) (by intro r x hr; have hr2 : r = 2 := (by omega); subst hr2; intro z; cases z) ?_
          show ZVV _ _ _ _ [ZI a, ZI n, ZI q, ZI (k : Int), ZI (k : Int)] _ _
          refine zs_iinc_r (i := 4) rfl rfl (by intro r x hr; have hr2 : r = 3 := (by omega); subst hr2; intro z; cases z) ⟨by omega, by omega⟩ ?_
          show ZVV _ _ _ _ [ZI a, ZI n, ZI q, ZI (k : Int), ZI ((k : Int) + 1)] _ _
          refine zs_goto 13 rfl (by omega) ?_
          exact ih (k + 1) _ (by omega) (by omega) ⟨by omega, by omega⟩ (fun z hz => hq z (by rw [hz, tLow_s, if_pos ⟨by omega, by omega⟩]))
theorem c_X7_partInLowestTerms (a n q : Int) : ZC mX7_partInLowestTerms 1 (fun av g => av = [ZI a, ZI n, ZI q] ∧ (0 ≤ a ∧ a ≤ 100000) ∧ n ≤ 100000) (fun _ g r g' => r = some (ZJ (cPart a n q)) ∧ g' = g) := by
  refine zc_of gX7_partInLowestTerms (fun av g hp => by obtain ⟨rfl, -⟩ := hp; exact Nat.le_of_ble_eq_true rfl) (fun Y av g hwf hrg hp hok => ?_)
  obtain ⟨rfl, hp⟩ := hp
  show ZVV _ _ _ 0 [ZI a, ZI n, ZI q, ZX 99, ZX 99] [] _
  refine zs_iload_n (j := 1) (i := 1) rfl rfl rfl ?_
  refine zs_if_gt 8 rfl (by omega) (fun hc_1 => ?_) (fun hc_1 => ?_)
  · refine zs_iconst (n := 1) rfl ⟨by omega, by omega⟩ ?_
    refine zs_istore_n (j := 3) (i := 3) rfl rfl (by decide) (by intro r x hr; have hr2 : r = 2 := (by omega); subst hr2; intro z; cases z) ?_
    show ZVV _ _ _ _ [ZI a, ZI n, ZI q, ZI 1, ZX 99] _ _
    refine zs_iconst (n := 2) rfl ⟨by omega, by omega⟩ ?_
    refine zs_istore (i := 4) rfl (by decide) (by intro r x hr; have hr2 : r = 3 := (by omega); subst hr2; intro z; cases z) ?_
    show ZVV _ _ _ _ [ZI a, ZI n, ZI q, ZI 1, ZI 2] _ _
    exact l_X7_part hp.1 ⟨by omega, hp.2⟩ (n - 1).toNat 2 1 (by omega) (by omega) ⟨by omega, by omega⟩ (fun z hz => ⟨by unfold cPart; rw [if_neg (show ¬ n ≤ 0 by omega), hz], rfl⟩)
  · refine zs_ldc2 (x := (-9223372036854775808)) rfl rfl ?_
    exact zs_lreturn rfl rfl (⟨by unfold cPart; rw [if_pos (by omega)]; rfl, rfl⟩)

def qAll (g : ZG) (q : Int) : Int := zsum (fun p => if (if g 18 0 p < g 2 0 0 / 2 then (0 : Int) else 1) = q then 1 else 0) (g 2 0 3).toNat 0
def qOf (g : ZG) (q s : Int) : Int := zsum (fun p => if (if g 18 0 p < g 2 0 0 / 2 then (0 : Int) else 1) = q ∧ g 17 0 p = s then 1 else 0) (g 2 0 3).toNat 0
def cQuarter (g : ZG) (q s part : Int) : Int := if q < 0 ∨ 1 < q ∨ s < 0 ∨ 2 < s ∨ part < 0 ∨ 1 < part then NOJ else cPart (qOf g q s) (qAll g q) part
theorem l_X7_quarter {Y : ZW} {Q : Option ZV → ZG → Prop} {g : ZG} {q s t : Int} (hn8 : 3 ≤ g 2 0 0 ∧ g 2 0 0 ≤ 8) (hn6 : 0 ≤ g 2 0 3 ∧ g 2 0 3 ≤ 6) : ∀ (m k : Nat) (x y : Int) (z7 : ZV), (∀ w, z7 ≠ ZJ w) → (k : Int) + m = g 2 0 3 → (0 ≤ x ∧ x ≤ k) → (0 ≤ y ∧ y ≤ k) → Q (some (ZJ (cPart (y + zsum (fun p => if (if g 18 0 p < g 2 0 0 / 2 then (0 : Int) else 1) = q ∧ g 17 0 p = s then (1 : Int) else 0) m k) (x + zsum (fun p => if (if g 18 0 p < g 2 0 0 / 2 then (0 : Int) else 1) = q then (1 : Int) else 0) m k) t))) g → ZVV Y mX7_quarter (zcx Y 2 Q) 40 [ZR 7 0, ZI q, ZI s, ZI t, ZI x, ZI y, ZI (k : Int), z7] [] g := by
  intro m
  induction m with
  | zero =>
    intro k x y z7 hz7 hk hx hy hq
    have hprt : (0 ≤ y ∧ y ≤ 100000) ∧ x ≤ 100000 := by omega
    rw [show y + zsum (fun p => if (if g 18 0 p < g 2 0 0 / 2 then (0 : Int) else 1) = q ∧ g 17 0 p = s then (1 : Int) else 0) 0 k = y from Int.add_zero y, show x + zsum (fun p => if (if g 18 0 p < g 2 0 0 / 2 then (0 : Int) else 1) = q then (1 : Int) else 0) 0 k = x from Int.add_zero x] at hq
    refine zs_iload (i := 6) rfl rfl ?_
    refine zs_aload_n (j := 0) (i := 0) rfl rfl rfl ?_
    refine zs_getfield (f := 7) (k := 5) rfl rfl (trivial) ?_
    show ZVV _ _ _ _ _ (ZR 2 0 :: _) _
    refine zs_getfield (f := 2) (k := 3) rfl rfl (trivial) ?_
    show ZVV _ _ _ _ _ (ZI (g 2 0 3) :: _) _
    refine zs_icmp_ge 120 rfl (by omega) (fun hc_49 => ?_) (fun hc_49 => ?_)
    · refine zs_iload (i := 5) rfl rfl ?_
      refine zs_iload (i := 4) rfl rfl ?_
      refine zs_iload_n (j := 3) (i := 3) rfl rfl rfl ?_
      refine zs_callS (host := "") rfl kX7_199 sX7_partInLowestTerms (c_X7_partInLowestTerms y x t) [ZI y, ZI x, ZI t] [] rfl (zroom_of (by omega)) rfl (Nat.le_of_ble_eq_true rfl) (⟨rfl, hprt⟩) (fun r_125 g_125 hq_125 => ?_)
      obtain ⟨hr_125, hg_125⟩ := hq_125
      rw [hr_125, hg_125]
      show ZVV _ _ _ 128 _ [ZJ (cPart y x t)] _
      exact zs_lreturn rfl rfl (hq)
    · exfalso; omega
  | succ m ih =>
    intro k x y z7 hz7 hk hx hy hq
    rw [zsum_s, zsum_s] at hq
    refine zs_iload (i := 6) rfl rfl ?_
    refine zs_aload_n (j := 0) (i := 0) rfl rfl rfl ?_
    refine zs_getfield (f := 7) (k := 5) rfl rfl (trivial) ?_
    show ZVV _ _ _ _ _ (ZR 2 0 :: _) _
    refine zs_getfield (f := 2) (k := 3) rfl rfl (trivial) ?_
    show ZVV _ _ _ _ _ (ZI (g 2 0 3) :: _) _
    refine zs_icmp_ge 120 rfl (by omega) (fun hc_49 => ?_) (fun hc_49 => ?_)
    · exfalso; omega
    · refine zs_aload_n (j := 0) (i := 0) rfl rfl rfl ?_
      refine zs_getfield (f := 7) (k := 5) rfl rfl (trivial) ?_
      show ZVV _ _ _ _ _ (ZR 2 0 :: _) _
      refine zs_getfield (f := 2) (k := 7) rfl rfl (trivial) ?_
      show ZVV _ _ _ _ _ (ZR 18 0 :: _) _
      refine zs_iload (i := 6) rfl rfl ?_
      refine zs_iald (n := 6) rfl rfl (by omega) (by omega) ?_
      show ZVV _ _ _ _ _ (ZI (g 18 0 k) :: _) _
      refine zs_aload_n (j := 0) (i := 0) rfl rfl rfl ?_
      refine zs_getfield (f := 7) (k := 5) rfl rfl (trivial) ?_
      show ZVV _ _ _ _ _ (ZR 2 0 :: _) _
      show ZVV _ _ _ 66 _ _ _
      refine zs_getfield (f := 2) (k := 0) rfl rfl (trivial) ?_
      show ZVV _ _ _ _ _ (ZI (g 2 0 0) :: _) _
      refine zs_iconst (n := 2) rfl ⟨by omega, by omega⟩ ?_
      refine zs_idiv_p rfl (by omega) (by omega) ?_
      refine zs_icmp_ge 78 rfl (by omega) (fun hc_71 => ?_) (fun hc_71 => ?_)
      · refine zs_iconst (n := 1) rfl ⟨by omega, by omega⟩ ?_
        refine zs_istore (i := 7) rfl (by decide) (by intro r x hr; have hr2 : r = 6 := (by omega); subst hr2; intro z; cases z) ?_
        show ZVV _ _ _ _ [ZR 7 0, ZI q, ZI s, ZI t, ZI x, ZI y, ZI (k : Int), ZI 1] _ _
        refine zs_iload (i := 7) rfl rfl ?_
        refine zs_iload_n (j := 1) (i := 1) rfl rfl rfl ?_
        refine zs_icmp_ne 114 rfl (by omega) (fun hc_84 => ?_) (fun hc_84 => ?_)
        · refine zs_iinc_r (i := 6) rfl rfl (by intro r x hr; have hr2 : r = 5 := (by omega); subst hr2; intro z; cases z) ⟨by omega, by omega⟩ ?_
          show ZVV _ _ _ _ [ZR 7 0, ZI q, ZI s, ZI t, ZI x, ZI y, ZI ((k : Int) + 1), ZI 1] _ _
          refine zs_goto 40 rfl (by omega) ?_
          have hz9 : (if g 18 0 k < g 2 0 0 / 2 then (0 : Int) else 1) = 1 := if_neg (by omega)
          have ea : (if (if g 18 0 k < g 2 0 0 / 2 then (0 : Int) else 1) = q then (1 : Int) else 0) = 0 := (by rw [hz9]; exact if_neg (fun z => by omega))
          have eo : (if (if g 18 0 k < g 2 0 0 / 2 then (0 : Int) else 1) = q ∧ g 17 0 k = s then (1 : Int) else 0) = 0 := (by rw [hz9]; exact if_neg (fun z => by omega))
          refine ih (k + 1) _ _ _ (by intro y h; cases h) (by omega) (by omega) (by omega) ?_
          rw [ea, eo] at hq
          rw [show y + (0 + zsum (fun p => if (if g 18 0 p < g 2 0 0 / 2 then (0 : Int) else 1) = q ∧ g 17 0 p = s then (1 : Int) else 0) m (k + 1)) = y + zsum (fun p => if (if g 18 0 p < g 2 0 0 / 2 then (0 : Int) else 1) = q ∧ g 17 0 p = s then (1 : Int) else 0) m (k + 1) by omega, show x + (0 + zsum (fun p => if (if g 18 0 p < g 2 0 0 / 2 then (0 : Int) else 1) = q then (1 : Int) else 0) m (k + 1)) = x + zsum (fun p => if (if g 18 0 p < g 2 0 0 / 2 then (0 : Int) else 1) = q then (1 : Int) else 0) m (k + 1) by omega] at hq
          exact hq
        · refine zs_iinc_r (i := 4) rfl rfl (by intro r x hr; have hr2 : r = 3 := (by omega); subst hr2; intro z; cases z) ⟨by omega, by omega⟩ ?_
          show ZVV _ _ _ _ [ZR 7 0, ZI q, ZI s, ZI t, ZI (x + 1), ZI y, ZI (k : Int), ZI 1] _ _
          refine zs_iload (i := 5) rfl rfl ?_
          refine zs_aload_n (j := 0) (i := 0) rfl rfl rfl ?_
          refine zs_getfield (f := 7) (k := 5) rfl rfl (trivial) ?_
          show ZVV _ _ _ _ _ (ZR 2 0 :: _) _
          refine zs_getfield (f := 2) (k := 6) rfl rfl (trivial) ?_
          show ZVV _ _ _ _ _ (ZR 17 0 :: _) _
          refine zs_iload (i := 6) rfl rfl ?_
          refine zs_iald (n := 6) rfl rfl (by omega) (by omega) ?_
          show ZVV _ _ _ _ _ (ZI (g 17 0 k) :: _) _
          show ZVV _ _ _ 102 _ _ _
          refine zs_iload_n (j := 2) (i := 2) rfl rfl rfl ?_
          refine zs_icmp_ne 110 rfl (by omega) (fun hc_103 => ?_) (fun hc_103 => ?_)
          · refine zs_iconst (n := 0) rfl ⟨by omega, by omega⟩ ?_
            refine zs_iadd_r rfl ⟨by omega, by omega⟩ ?_
            refine zs_istore (i := 5) rfl (by decide) (by intro r x hr; have hr2 : r = 4 := (by omega); subst hr2; intro z; cases z) ?_
            show ZVV _ _ _ _ [ZR 7 0, ZI q, ZI s, ZI t, ZI (x + 1), ZI (y + 0), ZI (k : Int), ZI 1] _ _
            refine zs_iinc_r (i := 6) rfl rfl (by intro r x hr; have hr2 : r = 5 := (by omega); subst hr2; intro z; cases z) ⟨by omega, by omega⟩ ?_
            show ZVV _ _ _ _ [ZR 7 0, ZI q, ZI s, ZI t, ZI (x + 1), ZI (y + 0), ZI ((k : Int) + 1), ZI 1] _ _
            refine zs_goto 40 rfl (by omega) ?_
            have hz9 : (if g 18 0 k < g 2 0 0 / 2 then (0 : Int) else 1) = 1 := if_neg (by omega)
            have ea : (if (if g 18 0 k < g 2 0 0 / 2 then (0 : Int) else 1) = q then (1 : Int) else 0) = 1 := (by rw [hz9]; exact if_pos (by omega))
            have eo : (if (if g 18 0 k < g 2 0 0 / 2 then (0 : Int) else 1) = q ∧ g 17 0 k = s then (1 : Int) else 0) = 0 := (by rw [hz9]; exact if_neg (fun z => by omega))
            refine ih (k + 1) _ _ _ (by intro y h; cases h) (by omega) (by omega) (by omega) ?_
            rw [ea, eo] at hq
            rw [show y + (0 + zsum (fun p => if (if g 18 0 p < g 2 0 0 / 2 then (0 : Int) else 1) = q ∧ g 17 0 p = s then (1 : Int) else 0) m (k + 1)) = (y + 0) + zsum (fun p => if (if g 18 0 p < g 2 0 0 / 2 then (0 : Int) else 1) = q ∧ g 17 0 p = s then (1 : Int) else 0) m (k + 1) by omega, show x + (1 + zsum (fun p => if (if g 18 0 p < g 2 0 0 / 2 then (0 : Int) else 1) = q then (1 : Int) else 0) m (k + 1)) = (x + 1) + zsum (fun p => if (if g 18 0 p < g 2 0 0 / 2 then (0 : Int) else 1) = q then (1 : Int) else 0) m (k + 1) by omega] at hq
            exact hq
          · refine zs_iconst (n := 1) rfl ⟨by omega, by omega⟩ ?_
            refine zs_goto 111 rfl (by omega) ?_
            refine zs_iadd_r rfl ⟨by omega, by omega⟩ ?_
            refine zs_istore (i := 5) rfl (by decide) (by intro r x hr; have hr2 : r = 4 := (by omega); subst hr2; intro z; cases z) ?_
            show ZVV _ _ _ _ [ZR 7 0, ZI q, ZI s, ZI t, ZI (x + 1), ZI (y + 1), ZI (k : Int), ZI 1] _ _
            refine zs_iinc_r (i := 6) rfl rfl (by intro r x hr; have hr2 : r = 5 := (by omega); subst hr2; intro z; cases z) ⟨by omega, by omega⟩ ?_
            show ZVV _ _ _ _ [ZR 7 0, ZI q, ZI s, ZI t, ZI (x + 1), ZI (y + 1), ZI ((k : Int) + 1), ZI 1] _ _
            refine zs_goto 40 rfl (by omega) ?_
            have hz9 : (if g 18 0 k < g 2 0 0 / 2 then (0 : Int) else 1) = 1 := if_neg (by omega)
            have ea : (if (if g 18 0 k < g 2 0 0 / 2 then (0 : Int) else 1) = q then (1 : Int) else 0) = 1 := (by rw [hz9]; exact if_pos (by omega))
            have eo : (if (if g 18 0 k < g 2 0 0 / 2 then (0 : Int) else 1) = q ∧ g 17 0 k = s then (1 : Int) else 0) = 1 := (by rw [hz9]; exact if_pos ⟨by omega, by omega⟩)
            refine ih (k + 1) _ _ _ (by intro y h; cases h) (by omega) (by omega) (by omega) ?_
            rw [ea, eo] at hq
            rw [show y + (1 + zsum (fun p => if (if g 18 0 p < g 2 0 0 / 2 then (0 : Int) else 1) = q ∧ g 17 0 p = s then (1 : Int) else 0) m (k + 1)) = (y + 1) + zsum (fun p => if (if g 18 0 p < g 2 0 0 / 2 then (0 : Int) else 1) = q ∧ g 17 0 p = s then (1 : Int) else 0) m (k + 1) by omega, show x + (1 + zsum (fun p => if (if g 18 0 p < g 2 0 0 / 2 then (0 : Int) else 1) = q then (1 : Int) else 0) m (k + 1)) = (x + 1) + zsum (fun p => if (if g 18 0 p < g 2 0 0 / 2 then (0 : Int) else 1) = q then (1 : Int) else 0) m (k + 1) by omega] at hq
            exact hq
      · refine zs_iconst (n := 0) rfl ⟨by omega, by omega⟩ ?_
        refine zs_goto 79 rfl (by omega) ?_
        refine zs_istore (i := 7) rfl (by decide) (by intro r x hr; have hr2 : r = 6 := (by omega); subst hr2; intro z; cases z) ?_
        show ZVV _ _ _ _ [ZR 7 0, ZI q, ZI s, ZI t, ZI x, ZI y, ZI (k : Int), ZI 0] _ _
        refine zs_iload (i := 7) rfl rfl ?_
        refine zs_iload_n (j := 1) (i := 1) rfl rfl rfl ?_
        refine zs_icmp_ne 114 rfl (by omega) (fun hc_84 => ?_) (fun hc_84 => ?_)
        · refine zs_iinc_r (i := 6) rfl rfl (by intro r x hr; have hr2 : r = 5 := (by omega); subst hr2; intro z; cases z) ⟨by omega, by omega⟩ ?_
          show ZVV _ _ _ _ [ZR 7 0, ZI q, ZI s, ZI t, ZI x, ZI y, ZI ((k : Int) + 1), ZI 0] _ _
          refine zs_goto 40 rfl (by omega) ?_
          have hz9 : (if g 18 0 k < g 2 0 0 / 2 then (0 : Int) else 1) = 0 := if_pos (by omega)
          have ea : (if (if g 18 0 k < g 2 0 0 / 2 then (0 : Int) else 1) = q then (1 : Int) else 0) = 0 := (by rw [hz9]; exact if_neg (fun z => by omega))
          have eo : (if (if g 18 0 k < g 2 0 0 / 2 then (0 : Int) else 1) = q ∧ g 17 0 k = s then (1 : Int) else 0) = 0 := (by rw [hz9]; exact if_neg (fun z => by omega))
          refine ih (k + 1) _ _ _ (by intro y h; cases h) (by omega) (by omega) (by omega) ?_
          rw [ea, eo] at hq
          rw [show y + (0 + zsum (fun p => if (if g 18 0 p < g 2 0 0 / 2 then (0 : Int) else 1) = q ∧ g 17 0 p = s then (1 : Int) else 0) m (k + 1)) = y + zsum (fun p => if (if g 18 0 p < g 2 0 0 / 2 then (0 : Int) else 1) = q ∧ g 17 0 p = s then (1 : Int) else 0) m (k + 1) by omega, show x + (0 + zsum (fun p => if (if g 18 0 p < g 2 0 0 / 2 then (0 : Int) else 1) = q then (1 : Int) else 0) m (k + 1)) = x + zsum (fun p => if (if g 18 0 p < g 2 0 0 / 2 then (0 : Int) else 1) = q then (1 : Int) else 0) m (k + 1) by omega] at hq
          exact hq
        · refine zs_iinc_r (i := 4) rfl rfl (by intro r x hr; have hr2 : r = 3 := (by omega); subst hr2; intro z; cases z) ⟨by omega, by omega⟩ ?_
          show ZVV _ _ _ _ [ZR 7 0, ZI q, ZI s, ZI t, ZI (x + 1), ZI y, ZI (k : Int), ZI 0] _ _
          refine zs_iload (i := 5) rfl rfl ?_
          refine zs_aload_n (j := 0) (i := 0) rfl rfl rfl ?_
          refine zs_getfield (f := 7) (k := 5) rfl rfl (trivial) ?_
          show ZVV _ _ _ _ _ (ZR 2 0 :: _) _
          refine zs_getfield (f := 2) (k := 6) rfl rfl (trivial) ?_
          show ZVV _ _ _ _ _ (ZR 17 0 :: _) _
          refine zs_iload (i := 6) rfl rfl ?_
          refine zs_iald (n := 6) rfl rfl (by omega) (by omega) ?_
          show ZVV _ _ _ _ _ (ZI (g 17 0 k) :: _) _
          show ZVV _ _ _ 102 _ _ _
          refine zs_iload_n (j := 2) (i := 2) rfl rfl rfl ?_
          refine zs_icmp_ne 110 rfl (by omega) (fun hc_103 => ?_) (fun hc_103 => ?_)
          · refine zs_iconst (n := 0) rfl ⟨by omega, by omega⟩ ?_
            refine zs_iadd_r rfl ⟨by omega, by omega⟩ ?_
            refine zs_istore (i := 5) rfl (by decide) (by intro r x hr; have hr2 : r = 4 := (by omega); subst hr2; intro z; cases z) ?_
            show ZVV _ _ _ _ [ZR 7 0, ZI q, ZI s, ZI t, ZI (x + 1), ZI (y + 0), ZI (k : Int), ZI 0] _ _
            refine zs_iinc_r (i := 6) rfl rfl (by intro r x hr; have hr2 : r = 5 := (by omega); subst hr2; intro z; cases z) ⟨by omega, by omega⟩ ?_
            show ZVV _ _ _ _ [ZR 7 0, ZI q, ZI s, ZI t, ZI (x + 1), ZI (y + 0), ZI ((k : Int) + 1), ZI 0] _ _
            refine zs_goto 40 rfl (by omega) ?_
            have hz9 : (if g 18 0 k < g 2 0 0 / 2 then (0 : Int) else 1) = 0 := if_pos (by omega)
            have ea : (if (if g 18 0 k < g 2 0 0 / 2 then (0 : Int) else 1) = q then (1 : Int) else 0) = 1 := (by rw [hz9]; exact if_pos (by omega))
            have eo : (if (if g 18 0 k < g 2 0 0 / 2 then (0 : Int) else 1) = q ∧ g 17 0 k = s then (1 : Int) else 0) = 0 := (by rw [hz9]; exact if_neg (fun z => by omega))
            refine ih (k + 1) _ _ _ (by intro y h; cases h) (by omega) (by omega) (by omega) ?_
            rw [ea, eo] at hq
            rw [show y + (0 + zsum (fun p => if (if g 18 0 p < g 2 0 0 / 2 then (0 : Int) else 1) = q ∧ g 17 0 p = s then (1 : Int) else 0) m (k + 1)) = (y + 0) + zsum (fun p => if (if g 18 0 p < g 2 0 0 / 2 then (0 : Int) else 1) = q ∧ g 17 0 p = s then (1 : Int) else 0) m (k + 1) by omega, show x + (1 + zsum (fun p => if (if g 18 0 p < g 2 0 0 / 2 then (0 : Int) else 1) = q then (1 : Int) else 0) m (k + 1)) = (x + 1) + zsum (fun p => if (if g 18 0 p < g 2 0 0 / 2 then (0 : Int) else 1) = q then (1 : Int) else 0) m (k + 1) by omega] at hq
            exact hq
          · refine zs_iconst (n := 1) rfl ⟨by omega, by omega⟩ ?_
            refine zs_goto 111 rfl (by omega) ?_
            refine zs_iadd_r rfl ⟨by omega, by omega⟩ ?_
            refine zs_istore (i := 5) rfl (by decide) (by intro r x hr; have hr2 : r = 4 := (by omega); subst hr2; intro z; cases z) ?_
            show ZVV _ _ _ _ [ZR 7 0, ZI q, ZI s, ZI t, ZI (x + 1), ZI (y + 1), ZI (k : Int), ZI 0] _ _
            refine zs_iinc_r (i := 6) rfl rfl (by intro r x hr; have hr2 : r = 5 := (by omega); subst hr2; intro z; cases z) ⟨by omega, by omega⟩ ?_
            show ZVV _ _ _ _ [ZR 7 0, ZI q, ZI s, ZI t, ZI (x + 1), ZI (y + 1), ZI ((k : Int) + 1), ZI 0] _ _
            refine zs_goto 40 rfl (by omega) ?_
            have hz9 : (if g 18 0 k < g 2 0 0 / 2 then (0 : Int) else 1) = 0 := if_pos (by omega)
            have ea : (if (if g 18 0 k < g 2 0 0 / 2 then (0 : Int) else 1) = q then (1 : Int) else 0) = 1 := (by rw [hz9]; exact if_pos (by omega))
            have eo : (if (if g 18 0 k < g 2 0 0 / 2 then (0 : Int) else 1) = q ∧ g 17 0 k = s then (1 : Int) else 0) = 1 := (by rw [hz9]; exact if_pos ⟨by omega, by omega⟩)
            refine ih (k + 1) _ _ _ (by intro y h; cases h) (by omega) (by omega) (by omega) ?_
            rw [ea, eo] at hq
            rw [show y + (1 + zsum (fun p => if (if g 18 0 p < g 2 0 0 / 2 then (0 : Int) else 1) = q ∧ g 17 0 p = s then (1 : Int) else 0) m (k + 1)) = (y + 1) + zsum (fun p => if (if g 18 0 p < g 2 0 0 / 2 then (0 : Int) else 1) = q ∧ g 17 0 p = s then (1 : Int) else 0) m (k + 1) by omega, show x + (1 + zsum (fun p => if (if g 18 0 p < g 2 0 0 / 2 then (0 : Int) else 1) = q then (1 : Int) else 0) m (k + 1)) = (x + 1) + zsum (fun p => if (if g 18 0 p < g 2 0 0 / 2 then (0 : Int) else 1) = q then (1 : Int) else 0) m (k + 1) by omega] at hq
            exact hq
theorem c_X7_quarter (q s t : Int) : ZC mX7_quarter 2 (fun av g => av = [ZR 7 0, ZI q, ZI s, ZI t] ∧ COK g ∧ True) (fun _ g r g' => r = some (ZJ (cQuarter g q s t)) ∧ g' = g) := by
  refine zc_of gX7_quarter (fun av g hp => by obtain ⟨rfl, -⟩ := hp; exact Nat.le_of_ble_eq_true rfl) (fun Y av g hwf hrg hp hok => ?_)
  obtain ⟨rfl, hp⟩ := hp
  show ZVV _ _ _ 0 [ZR 7 0, ZI q, ZI s, ZI t, ZX 99, ZX 99, ZX 99, ZX 99] [] _
  refine zs_iload_n (j := 1) (i := 1) rfl rfl rfl ?_
  refine zs_if_lt 27 rfl (by omega) (fun hc_1 => ?_) (fun hc_1 => ?_)
  · refine zs_ldc2 (x := (-9223372036854775808)) rfl rfl ?_
    exact zs_lreturn rfl rfl (⟨by unfold cQuarter; rw [if_pos (by omega)]; rfl, rfl⟩)
  · refine zs_iload_n (j := 1) (i := 1) rfl rfl rfl ?_
    refine zs_iconst (n := 1) rfl ⟨by omega, by omega⟩ ?_
    refine zs_icmp_gt 27 rfl (by omega) (fun hc_6 => ?_) (fun hc_6 => ?_)
    · refine zs_ldc2 (x := (-9223372036854775808)) rfl rfl ?_
      exact zs_lreturn rfl rfl (⟨by unfold cQuarter; rw [if_pos (by omega)]; rfl, rfl⟩)
    · refine zs_iload_n (j := 2) (i := 2) rfl rfl rfl ?_
      refine zs_if_lt 27 rfl (by omega) (fun hc_10 => ?_) (fun hc_10 => ?_)
      · refine zs_ldc2 (x := (-9223372036854775808)) rfl rfl ?_
        exact zs_lreturn rfl rfl (⟨by unfold cQuarter; rw [if_pos (by omega)]; rfl, rfl⟩)
      · refine zs_iload_n (j := 2) (i := 2) rfl rfl rfl ?_
        refine zs_iconst (n := 2) rfl ⟨by omega, by omega⟩ ?_
        refine zs_icmp_gt 27 rfl (by omega) (fun hc_15 => ?_) (fun hc_15 => ?_)
        · refine zs_ldc2 (x := (-9223372036854775808)) rfl rfl ?_
          exact zs_lreturn rfl rfl (⟨by unfold cQuarter; rw [if_pos (by omega)]; rfl, rfl⟩)
        · refine zs_iload_n (j := 3) (i := 3) rfl rfl rfl ?_
          refine zs_if_lt 27 rfl (by omega) (fun hc_19 => ?_) (fun hc_19 => ?_)
          · refine zs_ldc2 (x := (-9223372036854775808)) rfl rfl ?_
            exact zs_lreturn rfl rfl (⟨by unfold cQuarter; rw [if_pos (by omega)]; rfl, rfl⟩)
          · refine zs_iload_n (j := 3) (i := 3) rfl rfl rfl ?_
            refine zs_iconst (n := 1) rfl ⟨by omega, by omega⟩ ?_
            refine zs_icmp_le 31 rfl (by omega) (fun hc_24 => ?_) (fun hc_24 => ?_)
            · refine zs_iconst (n := 0) rfl ⟨by omega, by omega⟩ ?_
              refine zs_istore (i := 4) rfl (by decide) (by intro r x hr; have hr2 : r = 3 := (by omega); subst hr2; intro z; cases z) ?_
              show ZVV _ _ _ _ [ZR 7 0, ZI q, ZI s, ZI t, ZI 0, ZX 99, ZX 99, ZX 99] _ _
              refine zs_iconst (n := 0) rfl ⟨by omega, by omega⟩ ?_
              refine zs_istore (i := 5) rfl (by decide) (by intro r x hr; have hr2 : r = 4 := (by omega); subst hr2; intro z; cases z) ?_
              show ZVV _ _ _ _ [ZR 7 0, ZI q, ZI s, ZI t, ZI 0, ZI 0, ZX 99, ZX 99] _ _
              refine zs_iconst (n := 0) rfl ⟨by omega, by omega⟩ ?_
              refine zs_istore (i := 6) rfl (by decide) (by intro r x hr; have hr2 : r = 5 := (by omega); subst hr2; intro z; cases z) ?_
              show ZVV _ _ _ _ [ZR 7 0, ZI q, ZI s, ZI t, ZI 0, ZI 0, ZI 0, ZX 99] _ _
              refine l_X7_quarter hp.1.1.1 hp.1.1.2.2.1 (g 2 0 3).toNat 0 0 0 _ (by intro y h; cases h) (by have := hp.1.1.2.2.1; omega) (by omega) (by omega) ⟨?_, rfl⟩
              unfold cQuarter qAll qOf
              rw [if_neg (by omega), Int.zero_add, Int.zero_add]
            · refine zs_ldc2 (x := (-9223372036854775808)) rfl rfl ?_
              exact zs_lreturn rfl rfl (⟨by unfold cQuarter; rw [if_pos (by omega)]; rfl, rfl⟩)

theorem prod_rng {a b : Int} (ha : 0 ≤ a ∧ a ≤ 6) (hb : -6 ≤ b ∧ b ≤ 8) : -36 ≤ a * b ∧ a * b ≤ 48 := by
  have : a = 0 ∨ a = 1 ∨ a = 2 ∨ a = 3 ∨ a = 4 ∨ a = 5 ∨ a = 6 := by omega
  rcases this with h | h | h | h | h | h | h <;> subst h <;> omega
theorem sq_rng {a : Int} (ha : -36 ≤ a ∧ a ≤ 48) : 0 ≤ a * a ∧ a * a ≤ 2304 := by
  have h1 : a.natAbs * a.natAbs ≤ 48 * 48 := Nat.mul_le_mul (by omega) (by omega)
  have h2 : ((a.natAbs * a.natAbs : Nat) : Int) = a * a := Int.natAbs_mul_self
  omega
theorem c_X1_cbi (n : Int) (hn : 0 ≤ n ∧ n ≤ 2) : ZC mX1_contentBehind (5 + n.toNat) (fun av g => av = [ZR 1 0, ZI n] ∧ LOK g ∧ LHH g) (fun _ g r g' => r = some (ZI (tCB (zTL g) n.toNat)) ∧ zSL g g' ∧ LOK g') := by
  have h := c_X1_cb n.toNat (by omega)
  have e : ((n.toNat : Nat) : Int) = n := by omega
  rw [e] at h
  exact h
def zpw (x : Int) (n : Nat) : Int := match n with
  | 0 => 1
  | n + 1 => zpw x n * x
def cOdds (g : ZG) (n part : Int) : Int := if n < 0 ∨ 2 < n ∨ part < 0 ∨ 1 < part then NOJ else if g 2 0 3 * (g 2 0 0 - g 2 0 3) = 0 then cPart (tCB (cT g) 0) 1 part else cPart (tCB (cT g) n.toNat) (zpw (g 2 0 3 * (g 2 0 0 - g 2 0 3)) n.toNat) part
theorem c_X7_odds (n t : Int) : ZC mX7_odds 9 (fun av g => av = [ZR 7 0, ZI n, ZI t] ∧ CP g) (fun _ g r g' => r = some (ZJ (cOdds g n t)) ∧ zQR 1 g g') := by
  refine zc_of gX7_odds (fun av g hp => by obtain ⟨rfl, -⟩ := hp; exact Nat.le_of_ble_eq_true rfl) (fun Y av g hwf hrg hp hok => ?_)
  obtain ⟨rfl, hp⟩ := hp
  show ZVV _ _ _ 0 [ZR 7 0, ZI n, ZI t, ZX 99, ZX 99, ZX 99, ZX 99] [] _
  have hn6 := hp.1.1.2.2.1
  have hn8 := hp.1.1.1
  have hpr := prod_rng hn6 (b := g 2 0 0 - g 2 0 3) (by omega)
  have hsq : 0 ≤ 1 * (g 2 0 3 * (g 2 0 0 - g 2 0 3)) * (g 2 0 3 * (g 2 0 0 - g 2 0 3)) ∧ 1 * (g 2 0 3 * (g 2 0 0 - g 2 0 3)) * (g 2 0 3 * (g 2 0 0 - g 2 0 3)) ≤ 2304 := by rw [Int.one_mul]; exact sq_rng hpr
  refine zs_iload_n (j := 1) (i := 1) rfl rfl rfl ?_
  refine zs_if_lt 18 rfl (by omega) (fun hc_1 => ?_) (fun hc_1 => ?_)
  · refine zs_ldc2 (x := (-9223372036854775808)) rfl rfl ?_
    exact zs_lreturn rfl rfl (⟨by unfold cOdds; rw [if_pos (by omega)]; rfl, ⟨zVS.rf g, hp.2.1, by omega⟩⟩)
  · refine zs_iload_n (j := 1) (i := 1) rfl rfl rfl ?_
    refine zs_iconst (n := 2) rfl ⟨by omega, by omega⟩ ?_
    refine zs_icmp_gt 18 rfl (by omega) (fun hc_6 => ?_) (fun hc_6 => ?_)
    · refine zs_ldc2 (x := (-9223372036854775808)) rfl rfl ?_
      exact zs_lreturn rfl rfl (⟨by unfold cOdds; rw [if_pos (by omega)]; rfl, ⟨zVS.rf g, hp.2.1, by omega⟩⟩)
    · refine zs_iload_n (j := 2) (i := 2) rfl rfl rfl ?_
      refine zs_if_lt 18 rfl (by omega) (fun hc_10 => ?_) (fun hc_10 => ?_)
      · refine zs_ldc2 (x := (-9223372036854775808)) rfl rfl ?_
        exact zs_lreturn rfl rfl (⟨by unfold cOdds; rw [if_pos (by omega)]; rfl, ⟨zVS.rf g, hp.2.1, by omega⟩⟩)
      · refine zs_iload_n (j := 2) (i := 2) rfl rfl rfl ?_
        refine zs_iconst (n := 1) rfl ⟨by omega, by omega⟩ ?_
        refine zs_icmp_le 22 rfl (by omega) (fun hc_15 => ?_) (fun hc_15 => ?_)
        · refine zs_aload_n (j := 0) (i := 0) rfl rfl rfl ?_
          refine zs_getfield (f := 7) (k := 7) rfl rfl (trivial) ?_
          show ZVV _ _ _ _ _ (ZR 1 0 :: _) _
          refine zs_aload_n (j := 0) (i := 0) rfl rfl rfl ?_
          refine zs_getfield (f := 7) (k := 5) rfl rfl (trivial) ?_
          show ZVV _ _ _ _ _ (ZR 2 0 :: _) _
          refine zs_callV (host := "") rfl kX7_98 vX1_startFrom (c_X1_startFrom 0) [ZR 2 0] [] rfl (zroom_of (by omega)) rfl (Nat.le_of_ble_eq_true rfl) ⟨rfl, ⟨by decide, hp.2.1.2.1, Int.le_trans hp.2.2 (by decide)⟩, hp.1.2.1.1.1⟩ (fun r_30 g_30 hq_30 => ?_)
          obtain ⟨hr_30, hg_30⟩ := hq_30
          rw [hr_30]
          obtain ⟨hL30, hH30, hT30, hV30, hB30, hs30, eL18_30, eL3_30, eL0_30, eL8_30⟩ := start_okx hp hg_30
          have e2_30 : g_30 2 0 = g 2 0 := hV30 2 0 rfl
          have e15_30 : g_30 15 0 = g 15 0 := hV30 15 0 rfl
          have e16_30 : g_30 16 0 = g 16 0 := hV30 16 0 rfl
          have e17_30 : g_30 17 0 = g 17 0 := hV30 17 0 rfl
          have e18_30 : g_30 18 0 = g 18 0 := hV30 18 0 rfl
          have e19_30 : g_30 19 0 = g 19 0 := hV30 19 0 rfl
          show ZVV _ _ _ 33 _ [] g_30
          refine zs_aload_n (j := 0) (i := 0) rfl rfl rfl ?_
          refine zs_getfield (f := 7) (k := 5) rfl rfl (trivial) ?_
          show ZVV _ _ _ _ _ (ZR 2 0 :: _) _
          show ZVV _ _ _ 37 _ _ _
          refine zs_getfield (f := 2) (k := 3) rfl rfl (trivial) ?_
          show ZVV _ _ _ _ _ (ZI (g_30 2 0 3) :: _) _
          rw [e2_30]
          refine zs_aload_n (j := 0) (i := 0) rfl rfl rfl ?_
          refine zs_getfield (f := 7) (k := 5) rfl rfl (trivial) ?_
          show ZVV _ _ _ _ _ (ZR 2 0 :: _) _
          refine zs_getfield (f := 2) (k := 0) rfl rfl (trivial) ?_
          show ZVV _ _ _ _ _ (ZI (g_30 2 0 0) :: _) _
          rw [e2_30]
          refine zs_aload_n (j := 0) (i := 0) rfl rfl rfl ?_
          refine zs_getfield (f := 7) (k := 5) rfl rfl (trivial) ?_
          show ZVV _ _ _ _ _ (ZR 2 0 :: _) _
          refine zs_getfield (f := 2) (k := 3) rfl rfl (trivial) ?_
          show ZVV _ _ _ _ _ (ZI (g_30 2 0 3) :: _) _
          rw [e2_30]
          refine zs_isub_r rfl ⟨by omega, by omega⟩ ?_
          show ZVV _ _ _ 55 _ _ _
          refine zs_imul_r rfl ⟨by omega, by omega⟩ ?_
          refine zs_istore_n (j := 3) (i := 3) rfl rfl (by decide) (by intro r x hr; have hr2 : r = 2 := (by omega); subst hr2; intro z; cases z) ?_
          show ZVV _ _ _ _ [ZR 7 0, ZI n, ZI t, ZI ((g 2 0 3) * ((g 2 0 0) - (g 2 0 3))), ZX 99, ZX 99, ZX 99] _ _
          refine zs_iload_n (j := 3) (i := 3) rfl rfl rfl ?_
          refine zs_if_ne 65 rfl (by omega) (fun hc_58 => ?_) (fun hc_58 => ?_)
          · refine zs_iload_n (j := 1) (i := 1) rfl rfl rfl ?_
            refine zs_istore (i := 4) rfl (by decide) (by intro r x hr; have hr2 : r = 3 := (by omega); subst hr2; intro z; cases z) ?_
            show ZVV _ _ _ _ [ZR 7 0, ZI n, ZI t, ZI ((g 2 0 3) * ((g 2 0 0) - (g 2 0 3))), ZI n, ZX 99, ZX 99] _ _
            refine zs_iconst (n := 1) rfl ⟨by omega, by omega⟩ ?_
            refine zs_istore (i := 5) rfl (by decide) (by intro r x hr; have hr2 : r = 4 := (by omega); subst hr2; intro z; cases z) ?_
            show ZVV _ _ _ _ [ZR 7 0, ZI n, ZI t, ZI ((g 2 0 3) * ((g 2 0 0) - (g 2 0 3))), ZI n, ZI 1, ZX 99] _ _
            refine zs_iconst (n := 0) rfl ⟨by omega, by omega⟩ ?_
            refine zs_istore (i := 6) rfl (by decide) (by intro r x hr; have hr2 : r = 5 := (by omega); subst hr2; intro z; cases z) ?_
            show ZVV _ _ _ _ [ZR 7 0, ZI n, ZI t, ZI ((g 2 0 3) * ((g 2 0 0) - (g 2 0 3))), ZI n, ZI 1, ZI 0] _ _
            refine zs_iload (i := 6) rfl rfl ?_
            show ZVV _ _ _ 76 _ _ _
            refine zs_iload (i := 4) rfl rfl ?_
            refine zs_icmp_ge 93 rfl (by omega) (fun hc_78 => ?_) (fun hc_78 => ?_)
            · refine zs_aload_n (j := 0) (i := 0) rfl rfl rfl ?_
              refine zs_getfield (f := 7) (k := 7) rfl rfl (trivial) ?_
              show ZVV _ _ _ _ _ (ZR 1 0 :: _) _
              refine zs_iload (i := 4) rfl rfl ?_
              have hcr := tCB_rng (n : Int).toNat (cT g) hn8.2 hn6.2
              have hcb : ((48 ^ ((n : Int).toNat) : Nat) : Int) ≤ 2304 := by
                have h2 : ((n : Int).toNat) = 0 ∨ ((n : Int).toNat) = 1 ∨ ((n : Int).toNat) = 2 := by omega
                rcases h2 with h | h | h <;> rw [h] <;> decide
              refine zs_callSN rfl kX7_195 sX1_contentBehind (c_X1_cbi n (by omega)) [ZR 1 0, ZI n] [] rfl (zroom_of (by omega)) rfl (Nat.le_of_ble_eq_true rfl) ⟨rfl, hL30, hH30⟩ (fun r_97 g_97 hq_97 => ?_)
              obtain ⟨hr_97, hS_97, hL_97⟩ := hq_97
              rw [hr_97, hT30]
              show ZVV _ _ _ 102 _ [ZI (tCB (cT g) (n : Int).toNat)] _
              refine zs_iload (i := 5) rfl rfl ?_
              refine zs_iload_n (j := 2) (i := 2) rfl rfl rfl ?_
              have hprt : (0 ≤ tCB (cT g) (n : Int).toNat ∧ tCB (cT g) (n : Int).toNat ≤ 100000) ∧ (1 : Int) ≤ 100000 := by refine ⟨⟨hcr.1, by omega⟩, by omega⟩
              refine zs_callS (host := "") rfl kX7_199 sX7_partInLowestTerms (c_X7_partInLowestTerms (tCB (cT g) (n : Int).toNat) 1 t) [ZI (tCB (cT g) (n : Int).toNat), ZI 1, ZI t] [] rfl (zroom_of (by omega)) rfl (Nat.le_of_ble_eq_true rfl) (⟨rfl, hprt⟩) (fun r_105 g_105 hq_105 => ?_)
              obtain ⟨hr_105, hg_105⟩ := hq_105
              rw [hr_105, hg_105]
              show ZVV _ _ _ 108 _ [ZJ (cPart (tCB (cT g) (n : Int).toNat) 1 t)] _
              show ZVV _ _ _ 108 _ _ _
              exact zs_lreturn rfl rfl (⟨by
      have hnk : n = 0 := by omega
      subst hnk
      unfold cOdds
      rw [if_neg (by omega), if_neg (by omega)]
      rfl, q_sl hV30 hB30 hs30 hS_97 hL_97⟩)
            · refine zs_iload (i := 5) rfl rfl ?_
              refine zs_iload_n (j := 3) (i := 3) rfl rfl rfl ?_
              refine zs_imul_r rfl ⟨by omega, by omega⟩ ?_
              refine zs_istore (i := 5) rfl (by decide) (by intro r x hr; have hr2 : r = 4 := (by omega); subst hr2; intro z; cases z) ?_
              show ZVV _ _ _ _ [ZR 7 0, ZI n, ZI t, ZI ((g 2 0 3) * ((g 2 0 0) - (g 2 0 3))), ZI n, ZI (1 * ((g 2 0 3) * ((g 2 0 0) - (g 2 0 3)))), ZI 0] _ _
              refine zs_iinc_r (i := 6) rfl rfl (by intro r x hr; have hr2 : r = 5 := (by omega); subst hr2; intro z; cases z) ⟨by omega, by omega⟩ ?_
              show ZVV _ _ _ _ [ZR 7 0, ZI n, ZI t, ZI ((g 2 0 3) * ((g 2 0 0) - (g 2 0 3))), ZI n, ZI (1 * ((g 2 0 3) * ((g 2 0 0) - (g 2 0 3)))), ZI (0 + 1)] _ _
              refine zs_goto 74 rfl (by omega) ?_
              refine zs_iload (i := 6) rfl rfl ?_
              show ZVV _ _ _ 76 _ _ _
              refine zs_iload (i := 4) rfl rfl ?_
              refine zs_icmp_ge 93 rfl (by omega) (fun hc_78 => ?_) (fun hc_78 => ?_)
              · refine zs_aload_n (j := 0) (i := 0) rfl rfl rfl ?_
                refine zs_getfield (f := 7) (k := 7) rfl rfl (trivial) ?_
                show ZVV _ _ _ _ _ (ZR 1 0 :: _) _
                refine zs_iload (i := 4) rfl rfl ?_
                have hcr := tCB_rng (n : Int).toNat (cT g) hn8.2 hn6.2
                have hcb : ((48 ^ ((n : Int).toNat) : Nat) : Int) ≤ 2304 := by
                  have h2 : ((n : Int).toNat) = 0 ∨ ((n : Int).toNat) = 1 ∨ ((n : Int).toNat) = 2 := by omega
                  rcases h2 with h | h | h <;> rw [h] <;> decide
                refine zs_callSN rfl kX7_195 sX1_contentBehind (c_X1_cbi n (by omega)) [ZR 1 0, ZI n] [] rfl (zroom_of (by omega)) rfl (Nat.le_of_ble_eq_true rfl) ⟨rfl, hL30, hH30⟩ (fun r_97 g_97 hq_97 => ?_)
                obtain ⟨hr_97, hS_97, hL_97⟩ := hq_97
                rw [hr_97, hT30]
                show ZVV _ _ _ 102 _ [ZI (tCB (cT g) (n : Int).toNat)] _
                refine zs_iload (i := 5) rfl rfl ?_
                refine zs_iload_n (j := 2) (i := 2) rfl rfl rfl ?_
                have hprt : (0 ≤ tCB (cT g) (n : Int).toNat ∧ tCB (cT g) (n : Int).toNat ≤ 100000) ∧ (1 * ((g 2 0 3) * ((g 2 0 0) - (g 2 0 3))) : Int) ≤ 100000 := by refine ⟨⟨hcr.1, by omega⟩, by omega⟩
                refine zs_callS (host := "") rfl kX7_199 sX7_partInLowestTerms (c_X7_partInLowestTerms (tCB (cT g) (n : Int).toNat) (1 * ((g 2 0 3) * ((g 2 0 0) - (g 2 0 3)))) t) [ZI (tCB (cT g) (n : Int).toNat), ZI (1 * ((g 2 0 3) * ((g 2 0 0) - (g 2 0 3)))), ZI t] [] rfl (zroom_of (by omega)) rfl (Nat.le_of_ble_eq_true rfl) (⟨rfl, hprt⟩) (fun r_105 g_105 hq_105 => ?_)
                obtain ⟨hr_105, hg_105⟩ := hq_105
                rw [hr_105, hg_105]
                show ZVV _ _ _ 108 _ [ZJ (cPart (tCB (cT g) (n : Int).toNat) (1 * ((g 2 0 3) * ((g 2 0 0) - (g 2 0 3)))) t)] _
                show ZVV _ _ _ 108 _ _ _
                exact zs_lreturn rfl rfl (⟨by
      have hnk : n = 1 := by omega
      subst hnk
      unfold cOdds
      rw [if_neg (by omega), if_neg (by omega)]
      rfl, q_sl hV30 hB30 hs30 hS_97 hL_97⟩)
              · refine zs_iload (i := 5) rfl rfl ?_
                refine zs_iload_n (j := 3) (i := 3) rfl rfl rfl ?_
                refine zs_imul_r rfl ⟨by omega, by omega⟩ ?_
                refine zs_istore (i := 5) rfl (by decide) (by intro r x hr; have hr2 : r = 4 := (by omega); subst hr2; intro z; cases z) ?_
                show ZVV _ _ _ _ [ZR 7 0, ZI n, ZI t, ZI ((g 2 0 3) * ((g 2 0 0) - (g 2 0 3))), ZI n, ZI ((1 * ((g 2 0 3) * ((g 2 0 0) - (g 2 0 3)))) * ((g 2 0 3) * ((g 2 0 0) - (g 2 0 3)))), ZI (0 + 1)] _ _
                refine zs_iinc_r (i := 6) rfl rfl (by intro r x hr; have hr2 : r = 5 := (by omega); subst hr2; intro z; cases z) ⟨by omega, by omega⟩ ?_
                show ZVV _ _ _ _ [ZR 7 0, ZI n, ZI t, ZI ((g 2 0 3) * ((g 2 0 0) - (g 2 0 3))), ZI n, ZI ((1 * ((g 2 0 3) * ((g 2 0 0) - (g 2 0 3)))) * ((g 2 0 3) * ((g 2 0 0) - (g 2 0 3)))), ZI (0 + 1 + 1)] _ _
                refine zs_goto 74 rfl (by omega) ?_
                refine zs_iload (i := 6) rfl rfl ?_
                show ZVV _ _ _ 76 _ _ _
                refine zs_iload (i := 4) rfl rfl ?_
                refine zs_icmp_ge 93 rfl (by omega) (fun hc_78 => ?_) (fun hc_78 => ?_)
                · refine zs_aload_n (j := 0) (i := 0) rfl rfl rfl ?_
                  refine zs_getfield (f := 7) (k := 7) rfl rfl (trivial) ?_
                  show ZVV _ _ _ _ _ (ZR 1 0 :: _) _
                  refine zs_iload (i := 4) rfl rfl ?_
                  have hcr := tCB_rng (n : Int).toNat (cT g) hn8.2 hn6.2
                  have hcb : ((48 ^ ((n : Int).toNat) : Nat) : Int) ≤ 2304 := by
                    have h2 : ((n : Int).toNat) = 0 ∨ ((n : Int).toNat) = 1 ∨ ((n : Int).toNat) = 2 := by omega
                    rcases h2 with h | h | h <;> rw [h] <;> decide
                  refine zs_callSN rfl kX7_195 sX1_contentBehind (c_X1_cbi n (by omega)) [ZR 1 0, ZI n] [] rfl (zroom_of (by omega)) rfl (Nat.le_of_ble_eq_true rfl) ⟨rfl, hL30, hH30⟩ (fun r_97 g_97 hq_97 => ?_)
                  obtain ⟨hr_97, hS_97, hL_97⟩ := hq_97
                  rw [hr_97, hT30]
                  show ZVV _ _ _ 102 _ [ZI (tCB (cT g) (n : Int).toNat)] _
                  refine zs_iload (i := 5) rfl rfl ?_
                  refine zs_iload_n (j := 2) (i := 2) rfl rfl rfl ?_
                  have hprt : (0 ≤ tCB (cT g) (n : Int).toNat ∧ tCB (cT g) (n : Int).toNat ≤ 100000) ∧ ((1 * ((g 2 0 3) * ((g 2 0 0) - (g 2 0 3)))) * ((g 2 0 3) * ((g 2 0 0) - (g 2 0 3))) : Int) ≤ 100000 := by refine ⟨⟨hcr.1, by omega⟩, by omega⟩
                  refine zs_callS (host := "") rfl kX7_199 sX7_partInLowestTerms (c_X7_partInLowestTerms (tCB (cT g) (n : Int).toNat) ((1 * ((g 2 0 3) * ((g 2 0 0) - (g 2 0 3)))) * ((g 2 0 3) * ((g 2 0 0) - (g 2 0 3)))) t) [ZI (tCB (cT g) (n : Int).toNat), ZI ((1 * ((g 2 0 3) * ((g 2 0 0) - (g 2 0 3)))) * ((g 2 0 3) * ((g 2 0 0) - (g 2 0 3)))), ZI t] [] rfl (zroom_of (by omega)) rfl (Nat.le_of_ble_eq_true rfl) (⟨rfl, hprt⟩) (fun r_105 g_105 hq_105 => ?_)
                  obtain ⟨hr_105, hg_105⟩ := hq_105
                  rw [hr_105, hg_105]
                  show ZVV _ _ _ 108 _ [ZJ (cPart (tCB (cT g) (n : Int).toNat) ((1 * ((g 2 0 3) * ((g 2 0 0) - (g 2 0 3)))) * ((g 2 0 3) * ((g 2 0 0) - (g 2 0 3)))) t)] _
                  show ZVV _ _ _ 108 _ _ _
                  exact zs_lreturn rfl rfl (⟨by
      have hnk : n = 2 := by omega
      subst hnk
      unfold cOdds
      rw [if_neg (by omega), if_neg (by omega)]
      rfl, q_sl hV30 hB30 hs30 hS_97 hL_97⟩)
                · exfalso; omega
          · refine zs_iconst (n := 0) rfl ⟨by omega, by omega⟩ ?_
            refine zs_goto 66 rfl (by omega) ?_
            refine zs_istore (i := 4) rfl (by decide) (by intro r x hr; have hr2 : r = 3 := (by omega); subst hr2; intro z; cases z) ?_
            show ZVV _ _ _ _ [ZR 7 0, ZI n, ZI t, ZI ((g 2 0 3) * ((g 2 0 0) - (g 2 0 3))), ZI 0, ZX 99, ZX 99] _ _
            refine zs_iconst (n := 1) rfl ⟨by omega, by omega⟩ ?_
            refine zs_istore (i := 5) rfl (by decide) (by intro r x hr; have hr2 : r = 4 := (by omega); subst hr2; intro z; cases z) ?_
            show ZVV _ _ _ _ [ZR 7 0, ZI n, ZI t, ZI ((g 2 0 3) * ((g 2 0 0) - (g 2 0 3))), ZI 0, ZI 1, ZX 99] _ _
            refine zs_iconst (n := 0) rfl ⟨by omega, by omega⟩ ?_
            refine zs_istore (i := 6) rfl (by decide) (by intro r x hr; have hr2 : r = 5 := (by omega); subst hr2; intro z; cases z) ?_
            show ZVV _ _ _ _ [ZR 7 0, ZI n, ZI t, ZI ((g 2 0 3) * ((g 2 0 0) - (g 2 0 3))), ZI 0, ZI 1, ZI 0] _ _
            show ZVV _ _ _ 74 _ _ _
            refine zs_iload (i := 6) rfl rfl ?_
            refine zs_iload (i := 4) rfl rfl ?_
            refine zs_icmp_ge 93 rfl (by omega) (fun hc_78 => ?_) (fun hc_78 => ?_)
            · refine zs_aload_n (j := 0) (i := 0) rfl rfl rfl ?_
              refine zs_getfield (f := 7) (k := 7) rfl rfl (trivial) ?_
              show ZVV _ _ _ _ _ (ZR 1 0 :: _) _
              refine zs_iload (i := 4) rfl rfl ?_
              have hcr := tCB_rng (0 : Int).toNat (cT g) hn8.2 hn6.2
              have hcb : ((48 ^ ((0 : Int).toNat) : Nat) : Int) ≤ 2304 := by
                have h2 : ((0 : Int).toNat) = 0 ∨ ((0 : Int).toNat) = 1 ∨ ((0 : Int).toNat) = 2 := by omega
                rcases h2 with h | h | h <;> rw [h] <;> decide
              refine zs_callSN rfl kX7_195 sX1_contentBehind (c_X1_cbi 0 (by omega)) [ZR 1 0, ZI 0] [] rfl (zroom_of (by omega)) rfl (Nat.le_of_ble_eq_true rfl) ⟨rfl, hL30, hH30⟩ (fun r_97 g_97 hq_97 => ?_)
              obtain ⟨hr_97, hS_97, hL_97⟩ := hq_97
              rw [hr_97, hT30]
              show ZVV _ _ _ 102 _ [ZI (tCB (cT g) (0 : Int).toNat)] _
              refine zs_iload (i := 5) rfl rfl ?_
              refine zs_iload_n (j := 2) (i := 2) rfl rfl rfl ?_
              have hprt : (0 ≤ tCB (cT g) (0 : Int).toNat ∧ tCB (cT g) (0 : Int).toNat ≤ 100000) ∧ (1 : Int) ≤ 100000 := by refine ⟨⟨hcr.1, by omega⟩, by omega⟩
              refine zs_callS (host := "") rfl kX7_199 sX7_partInLowestTerms (c_X7_partInLowestTerms (tCB (cT g) (0 : Int).toNat) 1 t) [ZI (tCB (cT g) (0 : Int).toNat), ZI 1, ZI t] [] rfl (zroom_of (by omega)) rfl (Nat.le_of_ble_eq_true rfl) (⟨rfl, hprt⟩) (fun r_105 g_105 hq_105 => ?_)
              obtain ⟨hr_105, hg_105⟩ := hq_105
              rw [hr_105, hg_105]
              show ZVV _ _ _ 108 _ [ZJ (cPart (tCB (cT g) (0 : Int).toNat) 1 t)] _
              show ZVV _ _ _ 108 _ _ _
              exact zs_lreturn rfl rfl (⟨by unfold cOdds; rw [if_neg (by omega), if_pos (by omega)]; rfl, q_sl hV30 hB30 hs30 hS_97 hL_97⟩)
            · exfalso; omega
        · refine zs_ldc2 (x := (-9223372036854775808)) rfl rfl ?_
          exact zs_lreturn rfl rfl (⟨by unfold cOdds; rw [if_pos (by omega)]; rfl, ⟨zVS.rf g, hp.2.1, by omega⟩⟩)

