def tFr (t : ZT) (h : Int) : Bool := decide (zwho (tnp t) (tho t) h = -1)
def tAll (t : ZT) : Bool := decide (zfst (fun p => !tSu t p (tho t p)) (tnp t).toNat 0 = -1)
def tHap (t : ZT) : Nat := zmk (fun p => decide (0 ≤ tho t p) && tSu t p (tho t p)) (tnp t).toNat
def tLeast (t : ZT) (p : Nat) : Int := if zfst (fun h => tFr t h && tSu t p h) (tn t).toNat 0 = -1 then -5 else zfst (fun h => tFr t h && tSu t p h) (tn t).toNat 0
/-- all live in houses -/
def LHH (g : ZG) : Prop := ∀ p : Nat, (p : Int) < g 2 2 3 → 0 ≤ g 18 2 p
theorem l_X1_allSuit {Y : ZW} {Q : Option ZV → ZG → Prop} {g : ZG} (hg : LOK g) (hh : LHH g) : ∀ (n k : Nat) (G : ZG), (k : Int) + n = g 2 2 3 → zSL g G → LOK G → (∀ G', zSL g G' → LOK G' → Q (some (ZI (if zfst (fun p => !tSu (zTL g) p (g 18 2 p)) n k = -1 then 1 else 0))) G') → ZVV Y mX1_allSuit (zcx Y 4 Q) 2 [ZR 1 0, ZI (k : Int)] [] G := by
  have hn6 := hg.1.2.2.1
  intro n
  induction n with
  | zero =>
    intro k G hk hS hL hq
    have e2 : G 2 = g 2 := hS.1 2 (by decide) (by decide) (by decide) (by decide)
    have e15 : G 15 = g 15 := hS.1 15 (by decide) (by decide) (by decide) (by decide)
    have e16 : G 16 = g 16 := hS.1 16 (by decide) (by decide) (by decide) (by decide)
    have e17 : G 17 = g 17 := hS.1 17 (by decide) (by decide) (by decide) (by decide)
    have e18 : G 18 = g 18 := hS.1 18 (by decide) (by decide) (by decide) (by decide)
    refine zs_iload_n (j := 1) (i := 1) rfl rfl rfl ?_
    refine zs_aload_n (j := 0) (i := 0) rfl rfl rfl ?_
    refine zs_getfield (f := 1) (k := 0) rfl rfl (trivial) ?_
    show ZVV _ _ _ _ _ (ZR 2 2 :: _) _
    refine zs_getfield (f := 2) (k := 3) rfl rfl (trivial) ?_
    show ZVV _ _ _ _ _ (ZI (G 2 2 3) :: _) _
    rw [e2]
    refine zs_icmp_ge 38 rfl (by omega) (fun hc_10 => ?_) (fun hc_10 => ?_)
    · refine zs_iconst (n := 1) rfl ⟨by omega, by omega⟩ ?_
      exact zs_zreturn rfl rfl (by omega) (hq G hS hL)
    · exfalso; omega
  | succ n ih =>
    intro k G hk hS hL hq
    have e2 : G 2 = g 2 := hS.1 2 (by decide) (by decide) (by decide) (by decide)
    have e15 : G 15 = g 15 := hS.1 15 (by decide) (by decide) (by decide) (by decide)
    have e16 : G 16 = g 16 := hS.1 16 (by decide) (by decide) (by decide) (by decide)
    have e17 : G 17 = g 17 := hS.1 17 (by decide) (by decide) (by decide) (by decide)
    have e18 : G 18 = g 18 := hS.1 18 (by decide) (by decide) (by decide) (by decide)
    have h6k : 0 ≤ g 18 2 k ∧ g 18 2 k < g 2 2 0 := ⟨hh k (by omega), (hg.1.2.2.2.2.2 k (by omega)).1.2⟩
    refine zs_iload_n (j := 1) (i := 1) rfl rfl rfl ?_
    refine zs_aload_n (j := 0) (i := 0) rfl rfl rfl ?_
    refine zs_getfield (f := 1) (k := 0) rfl rfl (trivial) ?_
    show ZVV _ _ _ _ _ (ZR 2 2 :: _) _
    refine zs_getfield (f := 2) (k := 3) rfl rfl (trivial) ?_
    show ZVV _ _ _ _ _ (ZI (G 2 2 3) :: _) _
    rw [e2]
    refine zs_icmp_ge 38 rfl (by omega) (fun hc_10 => ?_) (fun hc_10 => ?_)
    · exfalso; omega
    · refine zs_aload_n (j := 0) (i := 0) rfl rfl rfl ?_
      refine zs_iload_n (j := 1) (i := 1) rfl rfl rfl ?_
      refine zs_aload_n (j := 0) (i := 0) rfl rfl rfl ?_
      refine zs_getfield (f := 1) (k := 0) rfl rfl (trivial) ?_
      show ZVV _ _ _ _ _ (ZR 2 2 :: _) _
      refine zs_getfield (f := 2) (k := 7) rfl rfl (trivial) ?_
      show ZVV _ _ _ _ _ (ZR 18 2 :: _) _
      refine zs_iload_n (j := 1) (i := 1) rfl rfl rfl ?_
      refine zs_iald (n := 6) rfl rfl (by omega) (by omega) ?_
      show ZVV _ _ _ _ _ (ZI (G 18 2 k) :: _) _
      rw [e18]
      show ZVV _ _ _ 24 _ _ _
      refine zs_callV (host := "") rfl kX1_82 vX1_suits (c_X1_suits (k : Int) (g 18 2 k)) [ZI (k : Int), ZI (g 18 2 k)] [] rfl (zroom_of (by omega)) rfl (Nat.le_of_ble_eq_true rfl) ⟨rfl, hL, (⟨by omega, by rw [e2]; omega⟩ : 0 ≤ (k : Int) ∧ (k : Int) < G 2 2 3), (by rw [e2]; exact h6k : 0 ≤ g 18 2 k ∧ g 18 2 k < G 2 2 0)⟩ (fun r_24 g_24 hq_24 => ?_)
      obtain ⟨hr_24, hS1_24, hL_24, hw_24, hk_24⟩ := hq_24
      rw [hr_24, hS.townL]
      have hS_24 := hS.tr hS1_24
      have e2_24 : g_24 2 = g 2 := hS_24.1 2 (by decide) (by decide) (by decide) (by decide)
      have e15_24 : g_24 15 = g 15 := hS_24.1 15 (by decide) (by decide) (by decide) (by decide)
      have e16_24 : g_24 16 = g 16 := hS_24.1 16 (by decide) (by decide) (by decide) (by decide)
      have e17_24 : g_24 17 = g 17 := hS_24.1 17 (by decide) (by decide) (by decide) (by decide)
      have e18_24 : g_24 18 = g 18 := hS_24.1 18 (by decide) (by decide) (by decide) (by decide)
      show ZVV _ _ _ 27 _ [ZI (if tSu (zTL g) k (g 18 2 k) = true then 1 else 0)] g_24
      refine zs_if_ne 32 rfl (by omega) (fun hc_27 => ?_) (fun hc_27 => ?_)
      · refine zs_iinc_r (i := 1) rfl rfl (by intro r x hr; have hr2 : r = 0 := (by omega); subst hr2; intro z; cases z) ⟨by omega, by omega⟩ ?_
        show ZVV _ _ _ _ [ZR 1 0, ZI ((k : Int) + 1)] _ _
        refine zs_goto 2 rfl (by omega) ?_
        have hz : (!tSu (zTL g) k (g 18 2 k)) = false := by
          by_cases hz : tSu (zTL g) k (g 18 2 k) = true
          · simp [hz]
          · rw [if_neg hz] at hc_27; omega
        exact ih (k + 1) g_24 (by omega) hS_24 hL_24 (fun G' a b => by have := hq G' a b; rw [zfst_f (P := fun p => !tSu (zTL g) p (g 18 2 p)) hz] at this; exact this)
      · refine zs_iconst (n := 0) rfl ⟨by omega, by omega⟩ ?_
        exact zs_zreturn rfl rfl (by omega) (by
      have hz : (!tSu (zTL g) k (g 18 2 k)) = true := by
        by_cases hz : tSu (zTL g) k (g 18 2 k) = true
        · rw [if_pos hz] at hc_27; omega
        · simp [hz]
      have := hq g_24 hS_24 hL_24
      rw [zfst_t (P := fun p => !tSu (zTL g) p (g 18 2 p)) hz, if_neg (by omega)] at this
      exact this)
theorem c_X1_allSuit  : ZC mX1_allSuit 4 (fun av g => av = [ZR 1 0] ∧ LOK g ∧ LHH g) (fun _ g r g' => r = some (ZI (if tAll (zTL g) = true then 1 else 0)) ∧ zSL g g' ∧ LOK g') := by
  refine zc_of gX1_allSuit (fun av g hp => by obtain ⟨rfl, -⟩ := hp; exact Nat.le_of_ble_eq_true rfl) (fun Y av g hwf hrg hp hok => ?_)
  obtain ⟨rfl, hp⟩ := hp
  show ZVV _ _ _ 0 [ZR 1 0, ZX 99] [] _
  refine zs_iconst (n := 0) rfl ⟨by omega, by omega⟩ ?_
  refine zs_istore_n (j := 1) (i := 1) rfl rfl (by decide) (by intro r x hr; have hr2 : r = 0 := (by omega); subst hr2; intro z; cases z) ?_
  show ZVV _ _ _ _ [ZR 1 0, ZI 0] _ _
  refine l_X1_allSuit hp.1 hp.2 (g 2 2 3).toNat 0 g (by have := hp.1.1.2.2.1; omega) (zSL.rf g) hp.1 (fun G' a b => ⟨?_, a, b⟩)
  have : tAll (zTL g) = decide (zfst (fun p => !tSu (zTL g) p (g 18 2 p)) (g 2 2 3).toNat 0 = -1) := rfl
  rw [this]
  by_cases hz : zfst (fun p => !tSu (zTL g) p (g 18 2 p)) (g 2 2 3).toNat 0 = -1
  · rw [if_pos hz, if_pos (by simpa using hz)]
  · rw [if_neg hz, if_neg (by simpa using hz)]

theorem l_X1_happy {Y : ZW} {Q : Option ZV → ZG → Prop} {g : ZG} (hg : LOK g) : ∀ (n k : Nat) (G : ZG), (k : Int) + n = g 2 2 3 → zSL g G → LOK G → (∀ G', zSL g G' → LOK G' → Q (some (ZI (tHap (zTL g) : Nat))) G') → ZVV Y mX1_happy (zcx Y 4 Q) 4 [ZR 1 0, ZI ((zmk (fun p => decide (0 ≤ g 18 2 p) && tSu (zTL g) p (g 18 2 p)) k : Nat) : Int), ZI (k : Int)] [] G := by
  have hn6 := hg.1.2.2.1
  intro n
  induction n with
  | zero =>
    intro k G hk hS hL hq
    have e2 : G 2 = g 2 := hS.1 2 (by decide) (by decide) (by decide) (by decide)
    have e15 : G 15 = g 15 := hS.1 15 (by decide) (by decide) (by decide) (by decide)
    have e16 : G 16 = g 16 := hS.1 16 (by decide) (by decide) (by decide) (by decide)
    have e17 : G 17 = g 17 := hS.1 17 (by decide) (by decide) (by decide) (by decide)
    have e18 : G 18 = g 18 := hS.1 18 (by decide) (by decide) (by decide) (by decide)
    have hz : tHap (zTL g) = zmk (fun p => decide (0 ≤ g 18 2 p) && tSu (zTL g) p (g 18 2 p)) k := by
      show zmk _ (g 2 2 3).toNat = _
      rw [show (g 2 2 3).toNat = k by omega]; rfl
    rw [hz] at hq
    refine zs_iload_n (j := 2) (i := 2) rfl rfl rfl ?_
    refine zs_aload_n (j := 0) (i := 0) rfl rfl rfl ?_
    refine zs_getfield (f := 1) (k := 0) rfl rfl (trivial) ?_
    show ZVV _ _ _ _ _ (ZR 2 2 :: _) _
    refine zs_getfield (f := 2) (k := 3) rfl rfl (trivial) ?_
    show ZVV _ _ _ _ _ (ZI (G 2 2 3) :: _) _
    rw [e2]
    refine zs_icmp_ge 56 rfl (by omega) (fun hc_12 => ?_) (fun hc_12 => ?_)
    · refine zs_iload_n (j := 1) (i := 1) rfl rfl rfl ?_
      exact zs_ireturn rfl rfl (hq G hS hL)
    · exfalso; omega
  | succ n ih =>
    intro k G hk hS hL hq
    have e2 : G 2 = g 2 := hS.1 2 (by decide) (by decide) (by decide) (by decide)
    have e15 : G 15 = g 15 := hS.1 15 (by decide) (by decide) (by decide) (by decide)
    have e16 : G 16 = g 16 := hS.1 16 (by decide) (by decide) (by decide) (by decide)
    have e17 : G 17 = g 17 := hS.1 17 (by decide) (by decide) (by decide) (by decide)
    have e18 : G 18 = g 18 := hS.1 18 (by decide) (by decide) (by decide) (by decide)
    have h6k : g 18 2 k < g 2 2 0 := (hg.1.2.2.2.2.2 k (by omega)).1.2
    refine zs_iload_n (j := 2) (i := 2) rfl rfl rfl ?_
    refine zs_aload_n (j := 0) (i := 0) rfl rfl rfl ?_
    refine zs_getfield (f := 1) (k := 0) rfl rfl (trivial) ?_
    show ZVV _ _ _ _ _ (ZR 2 2 :: _) _
    refine zs_getfield (f := 2) (k := 3) rfl rfl (trivial) ?_
    show ZVV _ _ _ _ _ (ZI (G 2 2 3) :: _) _
    rw [e2]
    refine zs_icmp_ge 56 rfl (by omega) (fun hc_12 => ?_) (fun hc_12 => ?_)
    · exfalso; omega
    · refine zs_aload_n (j := 0) (i := 0) rfl rfl rfl ?_
      refine zs_getfield (f := 1) (k := 0) rfl rfl (trivial) ?_
      show ZVV _ _ _ _ _ (ZR 2 2 :: _) _
      refine zs_getfield (f := 2) (k := 7) rfl rfl (trivial) ?_
      show ZVV _ _ _ _ _ (ZR 18 2 :: _) _
      refine zs_iload_n (j := 2) (i := 2) rfl rfl rfl ?_
      refine zs_iald (n := 6) rfl rfl (by omega) (by omega) ?_
      show ZVV _ _ _ _ _ (ZI (G 18 2 k) :: _) _
      rw [e18]
      refine zs_if_lt 50 rfl (by omega) (fun hc_24 => ?_) (fun hc_24 => ?_)
      · refine zs_iinc_r (i := 2) rfl rfl (by intro r x hr; have hr2 : r = 1 := (by omega); subst hr2; intro z; cases z) ⟨by omega, by omega⟩ ?_
        show ZVV _ _ _ _ [ZR 1 0, ZI ((zmk (fun p => decide (0 ≤ g 18 2 p) && tSu (zTL g) p (g 18 2 p)) k : Nat) : Int), ZI ((k : Int) + 1)] _ _
        refine zs_goto 4 rfl (by omega) ?_
        have hz : (decide (0 ≤ g 18 2 k) && tSu (zTL g) k (g 18 2 k)) = false := by
          rw [decide_eq_false (by omega)]; rfl
        rw [← zmk_add0 (P := fun p => decide (0 ≤ g 18 2 p) && tSu (zTL g) p (g 18 2 p)) hz]
        exact ih (k + 1) G (by omega) hS hL hq
      · refine zs_aload_n (j := 0) (i := 0) rfl rfl rfl ?_
        refine zs_iload_n (j := 2) (i := 2) rfl rfl rfl ?_
        refine zs_aload_n (j := 0) (i := 0) rfl rfl rfl ?_
        refine zs_getfield (f := 1) (k := 0) rfl rfl (trivial) ?_
        show ZVV _ _ _ _ _ (ZR 2 2 :: _) _
        refine zs_getfield (f := 2) (k := 7) rfl rfl (trivial) ?_
        show ZVV _ _ _ _ _ (ZR 18 2 :: _) _
        refine zs_iload_n (j := 2) (i := 2) rfl rfl rfl ?_
        refine zs_iald (n := 6) rfl rfl (by omega) (by omega) ?_
        show ZVV _ _ _ _ _ (ZI (G 18 2 k) :: _) _
        rw [e18]
        show ZVV _ _ _ 38 _ _ _
        refine zs_callV (host := "") rfl kX1_82 vX1_suits (c_X1_suits (k : Int) (g 18 2 k)) [ZI (k : Int), ZI (g 18 2 k)] [] rfl (zroom_of (by omega)) rfl (Nat.le_of_ble_eq_true rfl) ⟨rfl, hL, (⟨by omega, by rw [e2]; omega⟩ : 0 ≤ (k : Int) ∧ (k : Int) < G 2 2 3), (by rw [e2]; exact ⟨by omega, h6k⟩ : 0 ≤ g 18 2 k ∧ g 18 2 k < G 2 2 0)⟩ (fun r_38 g_38 hq_38 => ?_)
        obtain ⟨hr_38, hS1_38, hL_38, hw_38, hk_38⟩ := hq_38
        rw [hr_38, hS.townL]
        have hS_38 := hS.tr hS1_38
        have e2_38 : g_38 2 = g 2 := hS_38.1 2 (by decide) (by decide) (by decide) (by decide)
        have e15_38 : g_38 15 = g 15 := hS_38.1 15 (by decide) (by decide) (by decide) (by decide)
        have e16_38 : g_38 16 = g 16 := hS_38.1 16 (by decide) (by decide) (by decide) (by decide)
        have e17_38 : g_38 17 = g 17 := hS_38.1 17 (by decide) (by decide) (by decide) (by decide)
        have e18_38 : g_38 18 = g 18 := hS_38.1 18 (by decide) (by decide) (by decide) (by decide)
        show ZVV _ _ _ 41 _ [ZI (if tSu (zTL g) k (g 18 2 k) = true then 1 else 0)] g_38
        refine zs_if_eq 50 rfl (by omega) (fun hc_41 => ?_) (fun hc_41 => ?_)
        · refine zs_iinc_r (i := 2) rfl rfl (by intro r x hr; have hr2 : r = 1 := (by omega); subst hr2; intro z; cases z) ⟨by omega, by omega⟩ ?_
          show ZVV _ _ _ _ [ZR 1 0, ZI ((zmk (fun p => decide (0 ≤ g 18 2 p) && tSu (zTL g) p (g 18 2 p)) k : Nat) : Int), ZI ((k : Int) + 1)] _ _
          refine zs_goto 4 rfl (by omega) ?_
          have hz : (decide (0 ≤ g 18 2 k) && tSu (zTL g) k (g 18 2 k)) = false := by
            by_cases hz : tSu (zTL g) k (g 18 2 k) = true
            · rw [if_pos hz] at hc_41; omega
            · simp [hz]
          rw [← zmk_add0 (P := fun p => decide (0 ≤ g 18 2 p) && tSu (zTL g) p (g 18 2 p)) hz]
          exact ih (k + 1) g_38 (by omega) hS_38 hL_38 hq
        · refine zs_iload_n (j := 1) (i := 1) rfl rfl rfl ?_
          refine zs_iconst (n := 1) rfl ⟨by omega, by omega⟩ ?_
          refine zs_iload_n (j := 2) (i := 2) rfl rfl rfl ?_
          refine zs_ishl rfl ?_
          refine zs_ior rfl ?_
          refine zs_istore_n (j := 1) (i := 1) rfl rfl (by decide) (by intro r x hr; have hr2 : r = 0 := (by omega); subst hr2; intro z; cases z) ?_
          show ZVV _ _ _ _ [ZR 1 0, ZI (zor ((zmk (fun p => decide (0 ≤ g 18 2 p) && tSu (zTL g) p (g 18 2 p)) k : Nat) : Int) (zshl 1 (k : Int))), ZI (k : Int)] _ _
          refine zs_iinc_r (i := 2) rfl rfl (by intro r x hr; have hr2 : r = 1 := (by omega); subst hr2; intro z; cases z) ⟨by omega, by omega⟩ ?_
          show ZVV _ _ _ _ [ZR 1 0, ZI (zor ((zmk (fun p => decide (0 ≤ g 18 2 p) && tSu (zTL g) p (g 18 2 p)) k : Nat) : Int) (zshl 1 (k : Int))), ZI ((k : Int) + 1)] _ _
          show ZVV _ _ _ 53 _ _ _
          refine zs_goto 4 rfl (by omega) ?_
          have hz : (decide (0 ≤ g 18 2 k) && tSu (zTL g) k (g 18 2 k)) = true := by
            by_cases hz : tSu (zTL g) k (g 18 2 k) = true
            · rw [hz]; simp; omega
            · rw [if_neg hz] at hc_41; omega
          rw [zmk_add (P := fun p => decide (0 ≤ g 18 2 p) && tSu (zTL g) p (g 18 2 p)) (by omega) hz]
          exact ih (k + 1) g_38 (by omega) hS_38 hL_38 hq
theorem c_X1_happy  : ZC mX1_happy 4 (fun av g => av = [ZR 1 0] ∧ LOK g) (fun _ g r g' => r = some (ZI (tHap (zTL g) : Nat)) ∧ zSL g g' ∧ LOK g') := by
  refine zc_of gX1_happy (fun av g hp => by obtain ⟨rfl, -⟩ := hp; exact Nat.le_of_ble_eq_true rfl) (fun Y av g hwf hrg hp hok => ?_)
  obtain ⟨rfl, hp⟩ := hp
  show ZVV _ _ _ 0 [ZR 1 0, ZX 99, ZX 99] [] _
  refine zs_iconst (n := 0) rfl ⟨by omega, by omega⟩ ?_
  refine zs_istore_n (j := 1) (i := 1) rfl rfl (by decide) (by intro r x hr; have hr2 : r = 0 := (by omega); subst hr2; intro z; cases z) ?_
  show ZVV _ _ _ _ [ZR 1 0, ZI 0, ZX 99] _ _
  refine zs_iconst (n := 0) rfl ⟨by omega, by omega⟩ ?_
  refine zs_istore_n (j := 2) (i := 2) rfl rfl (by decide) (by intro r x hr; have hr2 : r = 1 := (by omega); subst hr2; intro z; cases z) ?_
  show ZVV _ _ _ _ [ZR 1 0, ZI 0, ZI 0] _ _
  exact l_X1_happy hp (g 2 2 3).toNat 0 g (by have := hp.1.2.2.1; omega) (zSL.rf g) hp (fun G' a b => ⟨rfl, a, b⟩)

theorem l_X1_least {Y : ZW} {Q : Option ZV → ZG → Prop} {g : ZG} {p : Int} (hg : LOK g) (hpp : 0 ≤ p ∧ p < g 2 2 3) : ∀ (n k : Nat) (G : ZG), (k : Int) + n = g 2 2 0 → zSL g G → LOK G → (∀ G', zSL g G' → LOK G' → Q (some (ZI (if zfst (fun h => tFr (zTL g) h && tSu (zTL g) p.toNat h) n k = -1 then -5 else zfst (fun h => tFr (zTL g) h && tSu (zTL g) p.toNat h) n k))) G') → ZVV Y mX1_least (zcx Y 4 Q) 2 [ZR 1 0, ZI p, ZI (k : Int)] [] G := by
  have hn6 := hg.1.2.2.1
  have hn8 := hg.1.1
  intro n
  induction n with
  | zero =>
    intro k G hk hS hL hq
    have e2 : G 2 = g 2 := hS.1 2 (by decide) (by decide) (by decide) (by decide)
    have e15 : G 15 = g 15 := hS.1 15 (by decide) (by decide) (by decide) (by decide)
    have e16 : G 16 = g 16 := hS.1 16 (by decide) (by decide) (by decide) (by decide)
    have e17 : G 17 = g 17 := hS.1 17 (by decide) (by decide) (by decide) (by decide)
    have e18 : G 18 = g 18 := hS.1 18 (by decide) (by decide) (by decide) (by decide)
    refine zs_iload_n (j := 2) (i := 2) rfl rfl rfl ?_
    refine zs_aload_n (j := 0) (i := 0) rfl rfl rfl ?_
    refine zs_getfield (f := 1) (k := 0) rfl rfl (trivial) ?_
    show ZVV _ _ _ _ _ (ZR 2 2 :: _) _
    refine zs_getfield (f := 2) (k := 0) rfl rfl (trivial) ?_
    show ZVV _ _ _ _ _ (ZI (G 2 2 0) :: _) _
    rw [e2]
    refine zs_icmp_ge 42 rfl (by omega) (fun hc_10 => ?_) (fun hc_10 => ?_)
    · refine zs_bipush (n := (-5)) rfl ⟨by omega, by omega⟩ ?_
      exact zs_ireturn rfl rfl (hq G hS hL)
    · exfalso; omega
  | succ n ih =>
    intro k G hk hS hL hq
    have e2 : G 2 = g 2 := hS.1 2 (by decide) (by decide) (by decide) (by decide)
    have e15 : G 15 = g 15 := hS.1 15 (by decide) (by decide) (by decide) (by decide)
    have e16 : G 16 = g 16 := hS.1 16 (by decide) (by decide) (by decide) (by decide)
    have e17 : G 17 = g 17 := hS.1 17 (by decide) (by decide) (by decide) (by decide)
    have e18 : G 18 = g 18 := hS.1 18 (by decide) (by decide) (by decide) (by decide)
    refine zs_iload_n (j := 2) (i := 2) rfl rfl rfl ?_
    refine zs_aload_n (j := 0) (i := 0) rfl rfl rfl ?_
    refine zs_getfield (f := 1) (k := 0) rfl rfl (trivial) ?_
    show ZVV _ _ _ _ _ (ZR 2 2 :: _) _
    refine zs_getfield (f := 2) (k := 0) rfl rfl (trivial) ?_
    show ZVV _ _ _ _ _ (ZI (G 2 2 0) :: _) _
    rw [e2]
    refine zs_icmp_ge 42 rfl (by omega) (fun hc_10 => ?_) (fun hc_10 => ?_)
    · exfalso; omega
    · refine zs_aload_n (j := 0) (i := 0) rfl rfl rfl ?_
      refine zs_getfield (f := 1) (k := 0) rfl rfl (trivial) ?_
      show ZVV _ _ _ _ _ (ZR 2 2 :: _) _
      refine zs_iload_n (j := 2) (i := 2) rfl rfl rfl ?_
      refine zs_callV (host := "") rfl kX1_99 vX2_whoIn (c_X2_whoIn 2 (k : Int)) [ZI (k : Int)] [] rfl (zroom_of (by omega)) rfl (Nat.le_of_ble_eq_true rfl) ⟨rfl, (by rw [e2]; exact hn6 : 0 ≤ G 2 2 3 ∧ G 2 2 3 ≤ 6)⟩ (fun r_18 g_18 hq_18 => ?_)
      obtain ⟨hr_18, hg_18⟩ := hq_18
      rw [hr_18, hg_18, e2, e18]
      show ZVV _ _ _ 21 _ [ZI (zwho (g 2 2 3) (g 18 2) (k : Int))] _
      refine zs_iconst (n := (-1)) rfl ⟨by omega, by omega⟩ ?_
      refine zs_icmp_ne 36 rfl (by omega) (fun hc_22 => ?_) (fun hc_22 => ?_)
      · refine zs_iinc_r (i := 2) rfl rfl (by intro r x hr; have hr2 : r = 1 := (by omega); subst hr2; intro z; cases z) ⟨by omega, by omega⟩ ?_
        show ZVV _ _ _ _ [ZR 1 0, ZI p, ZI ((k : Int) + 1)] _ _
        refine zs_goto 2 rfl (by omega) ?_
        have hz : (tFr (zTL g) k && tSu (zTL g) p.toNat k) = false := by
          have : tFr (zTL g) k = false := decide_eq_false hc_22
          rw [this]; rfl
        exact ih (k + 1) G (by omega) hS hL (fun G' a b => by have := hq G' a b; rw [zfst_f (P := fun h => tFr (zTL g) h && tSu (zTL g) p.toNat h) hz] at this; exact this)
      · refine zs_aload_n (j := 0) (i := 0) rfl rfl rfl ?_
        refine zs_iload_n (j := 1) (i := 1) rfl rfl rfl ?_
        refine zs_iload_n (j := 2) (i := 2) rfl rfl rfl ?_
        refine zs_callV (host := "") rfl kX1_82 vX1_suits (c_X1_suits p (k : Int)) [ZI p, ZI (k : Int)] [] rfl (zroom_of (by omega)) rfl (Nat.le_of_ble_eq_true rfl) ⟨rfl, hL, (by rw [e2]; exact hpp : 0 ≤ p ∧ p < G 2 2 3), (by rw [e2]; exact ⟨by omega, by omega⟩ : 0 ≤ (k : Int) ∧ (k : Int) < G 2 2 0)⟩ (fun r_28 g_28 hq_28 => ?_)
        obtain ⟨hr_28, hS1_28, hL_28, hw_28, hk_28⟩ := hq_28
        rw [hr_28, hS.townL]
        have hS_28 := hS.tr hS1_28
        have e2_28 : g_28 2 = g 2 := hS_28.1 2 (by decide) (by decide) (by decide) (by decide)
        have e15_28 : g_28 15 = g 15 := hS_28.1 15 (by decide) (by decide) (by decide) (by decide)
        have e16_28 : g_28 16 = g 16 := hS_28.1 16 (by decide) (by decide) (by decide) (by decide)
        have e17_28 : g_28 17 = g 17 := hS_28.1 17 (by decide) (by decide) (by decide) (by decide)
        have e18_28 : g_28 18 = g 18 := hS_28.1 18 (by decide) (by decide) (by decide) (by decide)
        show ZVV _ _ _ 31 _ [ZI (if tSu (zTL g) p.toNat (k : Int) = true then 1 else 0)] g_28
        refine zs_if_eq 36 rfl (by omega) (fun hc_31 => ?_) (fun hc_31 => ?_)
        · refine zs_iinc_r (i := 2) rfl rfl (by intro r x hr; have hr2 : r = 1 := (by omega); subst hr2; intro z; cases z) ⟨by omega, by omega⟩ ?_
          show ZVV _ _ _ _ [ZR 1 0, ZI p, ZI ((k : Int) + 1)] _ _
          refine zs_goto 2 rfl (by omega) ?_
          have hz : (tFr (zTL g) k && tSu (zTL g) p.toNat k) = false := by
            by_cases hz : tSu (zTL g) p.toNat k = true
            · rw [if_pos hz] at hc_31; omega
            · simp [hz]
          exact ih (k + 1) g_28 (by omega) hS_28 hL_28 (fun G' a b => by have := hq G' a b; rw [zfst_f (P := fun h => tFr (zTL g) h && tSu (zTL g) p.toNat h) hz] at this; exact this)
        · refine zs_iload_n (j := 2) (i := 2) rfl rfl rfl ?_
          exact zs_ireturn rfl rfl (by
      have hz : (tFr (zTL g) k && tSu (zTL g) p.toNat k) = true := by
        have h1 : tFr (zTL g) k = true := decide_eq_true (Classical.not_not.mp hc_22)
        by_cases hz : tSu (zTL g) p.toNat k = true
        · rw [h1, hz]; rfl
        · rw [if_neg hz] at hc_31; omega
      have := hq g_28 hS_28 hL_28
      rw [zfst_t (P := fun h => tFr (zTL g) h && tSu (zTL g) p.toNat h) hz, if_neg (by omega)] at this
      exact this)
theorem c_X1_least (p : Int) : ZC mX1_least 4 (fun av g => av = [ZR 1 0, ZI p] ∧ LOK g ∧ 0 ≤ p ∧ p < g 2 2 3) (fun _ g r g' => r = some (ZI (tLeast (zTL g) p.toNat)) ∧ zSL g g' ∧ LOK g') := by
  refine zc_of gX1_least (fun av g hp => by obtain ⟨rfl, -⟩ := hp; exact Nat.le_of_ble_eq_true rfl) (fun Y av g hwf hrg hp hok => ?_)
  obtain ⟨rfl, hp⟩ := hp
  show ZVV _ _ _ 0 [ZR 1 0, ZI p, ZX 99] [] _
  refine zs_iconst (n := 0) rfl ⟨by omega, by omega⟩ ?_
  refine zs_istore_n (j := 2) (i := 2) rfl rfl (by decide) (by intro r x hr; have hr2 : r = 1 := (by omega); subst hr2; intro z; cases z) ?_
  show ZVV _ _ _ _ [ZR 1 0, ZI p, ZI 0] _ _
  exact l_X1_least hp.1 hp.2 (g 2 2 0).toNat 0 g (by have := hp.1.1.1; omega) (zSL.rf g) hp.1 (fun G' a b => ⟨rfl, a, b⟩)

