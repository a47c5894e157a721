def MHH (g : ZG) : Prop := ∀ p : Nat, (p : Int) < g 8 0 2 → 0 ≤ g 33 0 p
theorem MHH.z {g G : ZG} (k : MHH g) (h : zP g G) : MHH G := by unfold MHH; rw [h 8 (by decide), h 33 (by decide)]; exact k
theorem pfl_t2 {b : Bool} (h : (if b = true then (1 : Int) else 0) ≠ 0) : b = true := by
  cases b
  · exact absurd rfl h
  · rfl
theorem l_X8_areAll {Y : ZW} {Q : Option ZV → ZG → Prop} {g : ZG} (hm : MOK g) (hh : MHH g) : ∀ (m k : Nat) (G : ZG), (k : Int) + m = g 8 0 2 → zP g G → (∀ M, zP g M → Q (some (ZI (if decide (zfst (fun p => !tSu (mT g) p (tho (mT g) p)) m k = -1) = true then 1 else 0))) M) → ZVV Y mX8_areAll (zcx Y 7 Q) 2 [ZR 8 0, ZI (k : Int)] [] G := by
  have hn8 := hm.1
  have hn6 := hm.2.2.1
  intro m
  induction m with
  | zero =>
    intro k G hk hz hq
    have e8_G : G 8 = g 8 := hz 8 (by decide)
    have e30_G : G 30 = g 30 := hz 30 (by decide)
    have e31_G : G 31 = g 31 := hz 31 (by decide)
    have e32_G : G 32 = g 32 := hz 32 (by decide)
    have e33_G : G 33 = g 33 := hz 33 (by decide)
    have e35_G : G 35 = g 35 := hz 35 (by decide)
    have e36_G : G 36 = g 36 := hz 36 (by decide)
    have e37_G : G 37 = g 37 := hz 37 (by decide)
    have e38_G : G 38 = g 38 := hz 38 (by decide)
    have e39_G : G 39 = g 39 := hz 39 (by decide)
    have e40_G : G 40 = g 40 := hz 40 (by decide)
    have e44_G : G 44 = g 44 := hz 44 (by decide)
    refine zs_iload_n (j := 1) (i := 1) rfl rfl rfl ?_
    refine zs_aload_n (j := 0) (i := 0) rfl rfl rfl ?_
    refine zs_getfield (f := 8) (k := 2) rfl rfl (trivial) ?_
    show ZVV _ _ _ _ _ (ZI (G 8 0 2) :: _) _
    rw [e8_G]
    refine zs_icmp_ge 26 rfl (by omega) (fun hc_7 => ?_) (fun hc_7 => ?_)
    · refine zs_iconst (n := 1) rfl ⟨by omega, by omega⟩ ?_
      exact zs_zreturn rfl rfl (by omega) (hq G hz)
    · exfalso; omega
  | succ m ih =>
    intro k G hk hz hq
    have e8_G : G 8 = g 8 := hz 8 (by decide)
    have e30_G : G 30 = g 30 := hz 30 (by decide)
    have e31_G : G 31 = g 31 := hz 31 (by decide)
    have e32_G : G 32 = g 32 := hz 32 (by decide)
    have e33_G : G 33 = g 33 := hz 33 (by decide)
    have e35_G : G 35 = g 35 := hz 35 (by decide)
    have e36_G : G 36 = g 36 := hz 36 (by decide)
    have e37_G : G 37 = g 37 := hz 37 (by decide)
    have e38_G : G 38 = g 38 := hz 38 (by decide)
    have e39_G : G 39 = g 39 := hz 39 (by decide)
    have e40_G : G 40 = g 40 := hz 40 (by decide)
    have e44_G : G 44 = g 44 := hz 44 (by decide)
    refine zs_iload_n (j := 1) (i := 1) rfl rfl rfl ?_
    refine zs_aload_n (j := 0) (i := 0) rfl rfl rfl ?_
    refine zs_getfield (f := 8) (k := 2) rfl rfl (trivial) ?_
    show ZVV _ _ _ _ _ (ZI (G 8 0 2) :: _) _
    rw [e8_G]
    refine zs_icmp_ge 26 rfl (by omega) (fun hc_7 => ?_) (fun hc_7 => ?_)
    · exfalso; omega
    · refine zs_aload_n (j := 0) (i := 0) rfl rfl rfl ?_
      refine zs_iload_n (j := 1) (i := 1) rfl rfl rfl ?_
      refine zs_callV (host := "") rfl kX8_265 vX8_isContent (c_X8_isContent (k : Int)) [ZI (k : Int)] [] rfl (zroom_of (by omega)) rfl (Nat.le_of_ble_eq_true rfl) ⟨rfl, hm.z hz, ⟨by omega, by rw [hz 8 (by decide)]; omega⟩, by rw [hz 33 (by decide)]; exact hh k (by omega)⟩ (fun r_12 g_12 hq_12 => ?_)
      obtain ⟨hr_12, hz1_12⟩ := hq_12
      rw [hr_12, mT_z hz, hz 33 (by decide)]
      have hz_12 := (show zP g G from hz).tr hz1_12
      have e8_12 : g_12 8 = g 8 := hz_12 8 (by decide)
      have e30_12 : g_12 30 = g 30 := hz_12 30 (by decide)
      have e31_12 : g_12 31 = g 31 := hz_12 31 (by decide)
      have e32_12 : g_12 32 = g 32 := hz_12 32 (by decide)
      have e33_12 : g_12 33 = g 33 := hz_12 33 (by decide)
      have e35_12 : g_12 35 = g 35 := hz_12 35 (by decide)
      have e36_12 : g_12 36 = g 36 := hz_12 36 (by decide)
      have e37_12 : g_12 37 = g 37 := hz_12 37 (by decide)
      have e38_12 : g_12 38 = g 38 := hz_12 38 (by decide)
      have e39_12 : g_12 39 = g 39 := hz_12 39 (by decide)
      have e40_12 : g_12 40 = g 40 := hz_12 40 (by decide)
      have e44_12 : g_12 44 = g 44 := hz_12 44 (by decide)
      show ZVV _ _ _ 15 _ [ZI (if tSu (mT g) k (g 33 0 k) = true then 1 else 0)] g_12
      refine zs_if_ne 20 rfl (by omega) (fun hc_15 => ?_) (fun hc_15 => ?_)
      · refine zs_iinc_r (i := 1) rfl rfl (by intro r x hr; have hr2 : r = 0 := (by omega); subst hr2; intro z; cases z) ⟨by omega, by omega⟩ ?_
        show ZVV _ _ _ _ [ZR 8 0, ZI ((k : Int) + 1)] _ _
        refine zs_goto 2 rfl (by omega) ?_
        refine ih (k + 1) g_12 (by omega) hz_12 (fun M hM => ?_)
        have hx := hq M hM
        rw [zfst_f (P := fun p => !tSu (mT g) p (tho (mT g) p)) (show (!tSu (mT g) k (g 33 0 k)) = false by rw [pfl_t2 hc_15]; rfl)] at hx
        exact hx
      · refine zs_iconst (n := 0) rfl ⟨by omega, by omega⟩ ?_
        exact zs_zreturn rfl rfl (by omega) (by have hx := hq g_12 hz_12; rw [zfst_t (P := fun p => !tSu (mT g) p (tho (mT g) p)) (show (!tSu (mT g) k (g 33 0 k)) = true by rw [pfl_f hc_15]; rfl), show decide ((k : Int) = -1) = false from decide_eq_false (by omega)] at hx; exact hx)
theorem c_X8_areAll  : ZC mX8_areAll 7 (fun av g => av = [ZR 8 0] ∧ MOK g ∧ MHH g) (fun _ g r g' => r = some (ZI (if tAll (mT g) = true then 1 else 0)) ∧ zP g g') := by
  refine zc_of gX8_areAll (fun av g hp => by obtain ⟨rfl, -⟩ := hp; exact Nat.le_of_ble_eq_true rfl) (fun Y av g hwf hrg hp hok => ?_)
  obtain ⟨rfl, hp⟩ := hp
  show ZVV _ _ _ 0 [ZR 8 0, ZX 99] [] _
  have hn6 := hp.1.2.2.1
  refine zs_iconst (n := 0) rfl ⟨by omega, by omega⟩ ?_
  refine zs_istore_n (j := 1) (i := 1) rfl rfl (by decide) (by intro r x hr; have hr2 : r = 0 := (by omega); subst hr2; intro z; cases z) ?_
  show ZVV _ _ _ _ [ZR 8 0, ZI 0] _ _
  exact l_X8_areAll hp.1 hp.2 (g 8 0 2).toNat 0 g (by omega) (zP.rf g) (fun M hM => ⟨rfl, hM⟩)

theorem l_X8_happy {Y : ZW} {Q : Option ZV → ZG → Prop} {g : ZG} (hm : MOK g) (hh : MHH g) : ∀ (m k : Nat) (G : ZG), (k : Int) + m = g 8 0 2 → zP g G → (∀ M, zP g M → Q (some (ZI ((zmk (fun p => decide (0 ≤ tho (mT g) p) && tSu (mT g) p (tho (mT g) p)) (g 8 0 2).toNat : Nat) : Int))) M) → ZVV Y mX8_happy (zcx Y 7 Q) 4 [ZR 8 0, ZI ((zmk (fun p => decide (0 ≤ tho (mT g) p) && tSu (mT g) p (tho (mT g) p)) k : Nat) : Int), ZI (k : Int)] [] G := by
  have hn8 := hm.1
  have hn6 := hm.2.2.1
  intro m
  induction m with
  | zero =>
    intro k G hk hz hq
    have e8_G : G 8 = g 8 := hz 8 (by decide)
    have e30_G : G 30 = g 30 := hz 30 (by decide)
    have e31_G : G 31 = g 31 := hz 31 (by decide)
    have e32_G : G 32 = g 32 := hz 32 (by decide)
    have e33_G : G 33 = g 33 := hz 33 (by decide)
    have e35_G : G 35 = g 35 := hz 35 (by decide)
    have e36_G : G 36 = g 36 := hz 36 (by decide)
    have e37_G : G 37 = g 37 := hz 37 (by decide)
    have e38_G : G 38 = g 38 := hz 38 (by decide)
    have e39_G : G 39 = g 39 := hz 39 (by decide)
    have e40_G : G 40 = g 40 := hz 40 (by decide)
    have e44_G : G 44 = g 44 := hz 44 (by decide)
    refine zs_iload_n (j := 2) (i := 2) rfl rfl rfl ?_
    refine zs_aload_n (j := 0) (i := 0) rfl rfl rfl ?_
    refine zs_getfield (f := 8) (k := 2) rfl rfl (trivial) ?_
    show ZVV _ _ _ _ _ (ZI (G 8 0 2) :: _) _
    rw [e8_G]
    refine zs_icmp_ge 36 rfl (by omega) (fun hc_9 => ?_) (fun hc_9 => ?_)
    · refine zs_iload_n (j := 1) (i := 1) rfl rfl rfl ?_
      exact zs_ireturn rfl rfl (by have hx := hq G hz; rw [show (g 8 0 2).toNat = k by omega] at hx; exact hx)
    · exfalso; omega
  | succ m ih =>
    intro k G hk hz hq
    have e8_G : G 8 = g 8 := hz 8 (by decide)
    have e30_G : G 30 = g 30 := hz 30 (by decide)
    have e31_G : G 31 = g 31 := hz 31 (by decide)
    have e32_G : G 32 = g 32 := hz 32 (by decide)
    have e33_G : G 33 = g 33 := hz 33 (by decide)
    have e35_G : G 35 = g 35 := hz 35 (by decide)
    have e36_G : G 36 = g 36 := hz 36 (by decide)
    have e37_G : G 37 = g 37 := hz 37 (by decide)
    have e38_G : G 38 = g 38 := hz 38 (by decide)
    have e39_G : G 39 = g 39 := hz 39 (by decide)
    have e40_G : G 40 = g 40 := hz 40 (by decide)
    have e44_G : G 44 = g 44 := hz 44 (by decide)
    refine zs_iload_n (j := 2) (i := 2) rfl rfl rfl ?_
    refine zs_aload_n (j := 0) (i := 0) rfl rfl rfl ?_
    refine zs_getfield (f := 8) (k := 2) rfl rfl (trivial) ?_
    show ZVV _ _ _ _ _ (ZI (G 8 0 2) :: _) _
    rw [e8_G]
    refine zs_icmp_ge 36 rfl (by omega) (fun hc_9 => ?_) (fun hc_9 => ?_)
    · exfalso; omega
    · refine zs_iload_n (j := 1) (i := 1) rfl rfl rfl ?_
      refine zs_aload_n (j := 0) (i := 0) rfl rfl rfl ?_
      refine zs_iload_n (j := 2) (i := 2) rfl rfl rfl ?_
      refine zs_callV (host := "") rfl kX8_265 vX8_isContent (c_X8_isContent (k : Int)) [ZI (k : Int)] [ZI ((zmk (fun p => decide (0 ≤ tho (mT g) p) && tSu (mT g) p (tho (mT g) p)) k : Nat) : Int)] rfl (zroom_of (by omega)) rfl (Nat.le_of_ble_eq_true rfl) ⟨rfl, hm.z hz, ⟨by omega, by rw [hz 8 (by decide)]; omega⟩, by rw [hz 33 (by decide)]; exact hh k (by omega)⟩ (fun r_15 g_15 hq_15 => ?_)
      obtain ⟨hr_15, hz1_15⟩ := hq_15
      rw [hr_15, mT_z hz, hz 33 (by decide)]
      have hz_15 := (show zP g G from hz).tr hz1_15
      have e8_15 : g_15 8 = g 8 := hz_15 8 (by decide)
      have e30_15 : g_15 30 = g 30 := hz_15 30 (by decide)
      have e31_15 : g_15 31 = g 31 := hz_15 31 (by decide)
      have e32_15 : g_15 32 = g 32 := hz_15 32 (by decide)
      have e33_15 : g_15 33 = g 33 := hz_15 33 (by decide)
      have e35_15 : g_15 35 = g 35 := hz_15 35 (by decide)
      have e36_15 : g_15 36 = g 36 := hz_15 36 (by decide)
      have e37_15 : g_15 37 = g 37 := hz_15 37 (by decide)
      have e38_15 : g_15 38 = g 38 := hz_15 38 (by decide)
      have e39_15 : g_15 39 = g 39 := hz_15 39 (by decide)
      have e40_15 : g_15 40 = g 40 := hz_15 40 (by decide)
      have e44_15 : g_15 44 = g 44 := hz_15 44 (by decide)
      show ZVV _ _ _ 18 _ [ZI (if tSu (mT g) k (g 33 0 k) = true then 1 else 0), ZI ((zmk (fun p => decide (0 ≤ tho (mT g) p) && tSu (mT g) p (tho (mT g) p)) k : Nat) : Int)] g_15
      refine zs_if_eq 27 rfl (by omega) (fun hc_18 => ?_) (fun hc_18 => ?_)
      · refine zs_iconst (n := 0) rfl ⟨by omega, by omega⟩ ?_
        refine zs_ior rfl ?_
        refine zs_istore_n (j := 1) (i := 1) rfl rfl (by decide) (by intro r x hr; have hr2 : r = 0 := (by omega); subst hr2; intro z; cases z) ?_
        show ZVV _ _ _ _ [ZR 8 0, ZI (zor ((zmk (fun p => decide (0 ≤ tho (mT g) p) && tSu (mT g) p (tho (mT g) p)) k : Nat) : Int) 0), ZI (k : Int)] _ _
        refine zs_iinc_r (i := 2) rfl rfl (by intro r x hr; have hr2 : r = 1 := (by omega); subst hr2; intro z; cases z) ⟨by omega, by omega⟩ ?_
        show ZVV _ _ _ _ [ZR 8 0, ZI (zor ((zmk (fun p => decide (0 ≤ tho (mT g) p) && tSu (mT g) p (tho (mT g) p)) k : Nat) : Int) 0), ZI ((k : Int) + 1)] _ _
        refine zs_goto 4 rfl (by omega) ?_
        have hb : (fun p => decide (0 ≤ tho (mT g) p) && tSu (mT g) p (tho (mT g) p)) k = false := by show (decide (0 ≤ g 33 0 k) && tSu (mT g) k (g 33 0 k)) = false; rw [Bool.eq_false_iff.mpr (zif0 hc_18)]; exact Bool.and_false _
        rw [zor_0 (zmk_lt31 _ (by omega)), ← zmk_add0 (P := fun p => decide (0 ≤ tho (mT g) p) && tSu (mT g) p (tho (mT g) p)) (n := k) hb]
        exact ih (k + 1) g_15 (by omega) hz_15 hq
      · refine zs_iconst (n := 1) rfl ⟨by omega, by omega⟩ ?_
        refine zs_iload_n (j := 2) (i := 2) rfl rfl rfl ?_
        refine zs_ishl rfl ?_
        refine zs_goto 28 rfl (by omega) ?_
        refine zs_ior rfl ?_
        refine zs_istore_n (j := 1) (i := 1) rfl rfl (by decide) (by intro r x hr; have hr2 : r = 0 := (by omega); subst hr2; intro z; cases z) ?_
        show ZVV _ _ _ _ [ZR 8 0, ZI (zor ((zmk (fun p => decide (0 ≤ tho (mT g) p) && tSu (mT g) p (tho (mT g) p)) k : Nat) : Int) (zshl 1 (k : Int))), ZI (k : Int)] _ _
        refine zs_iinc_r (i := 2) rfl rfl (by intro r x hr; have hr2 : r = 1 := (by omega); subst hr2; intro z; cases z) ⟨by omega, by omega⟩ ?_
        show ZVV _ _ _ _ [ZR 8 0, ZI (zor ((zmk (fun p => decide (0 ≤ tho (mT g) p) && tSu (mT g) p (tho (mT g) p)) k : Nat) : Int) (zshl 1 (k : Int))), ZI ((k : Int) + 1)] _ _
        show ZVV _ _ _ 33 _ _ _
        refine zs_goto 4 rfl (by omega) ?_
        have hb : (fun p => decide (0 ≤ tho (mT g) p) && tSu (mT g) p (tho (mT g) p)) k = true := by show (decide (0 ≤ g 33 0 k) && tSu (mT g) k (g 33 0 k)) = true; rw [decide_eq_true (hh k (by omega)), zif1 hc_18]; rfl
        rw [zmk_add (P := fun p => decide (0 ≤ tho (mT g) p) && tSu (mT g) p (tho (mT g) p)) (n := k) (by omega) hb]
        exact ih (k + 1) g_15 (by omega) hz_15 hq
theorem c_X8_happy  : ZC mX8_happy 7 (fun av g => av = [ZR 8 0] ∧ MOK g ∧ MHH g) (fun _ g r g' => r = some (ZI ((tHap (mT g) : Nat) : Int)) ∧ zP g g') := by
  refine zc_of gX8_happy (fun av g hp => by obtain ⟨rfl, -⟩ := hp; exact Nat.le_of_ble_eq_true rfl) (fun Y av g hwf hrg hp hok => ?_)
  obtain ⟨rfl, hp⟩ := hp
  show ZVV _ _ _ 0 [ZR 8 0, ZX 99, ZX 99] [] _
  have hn6 := hp.1.2.2.1
  refine zs_iconst (n := 0) rfl ⟨by omega, by omega⟩ ?_
  refine zs_istore_n (j := 1) (i := 1) rfl rfl (by decide) (by intro r x hr; have hr2 : r = 0 := (by omega); subst hr2; intro z; cases z) ?_
  show ZVV _ _ _ _ [ZR 8 0, ZI 0, ZX 99] _ _
  refine zs_iconst (n := 0) rfl ⟨by omega, by omega⟩ ?_
  refine zs_istore_n (j := 2) (i := 2) rfl rfl (by decide) (by intro r x hr; have hr2 : r = 1 := (by omega); subst hr2; intro z; cases z) ?_
  show ZVV _ _ _ _ [ZR 8 0, ZI 0, ZI 0] _ _
  exact l_X8_happy hp.1 hp.2 (g 8 0 2).toNat 0 g (by omega) (zP.rf g) (fun M hM => ⟨rfl, hM⟩)

theorem zfree_bit {g : ZG} {k : Nat} (hk : (k : Int) < g 8 0 0) : (zfree (g 8 0 0) (g 8 0 2) (g 33 0)).testBit k = tFr (mT g) (k : Int) := by
  unfold zfree
  rw [zmk_bit, decide_eq_true (show k < (g 8 0 0).toNat by omega), Bool.true_and]
  rfl
theorem zfree_lt {g : ZG} (h : g 8 0 0 ≤ 8) : zfree (g 8 0 0) (g 8 0 2) (g 33 0) < 2147483648 := zmk_lt31 _ (by omega)
theorem l_X8_wanted {Y : ZW} {Q : Option ZV → ZG → Prop} {g : ZG} {p : Int} (hm : MOK g) (hpp : 0 ≤ p ∧ p < g 8 0 2) : ∀ (m k : Nat) (G : ZG), (k : Int) + m = g 8 0 0 → zP g G → (∀ M, zP g M → Q (some (ZI ((zmk (fun h => tFr (mT g) (h : Int) && tSu (mT g) p.toNat (h : Int)) (g 8 0 0).toNat : Nat) : Int))) M) → ZVV Y mX8_wanted (zcx Y 6 Q) 10 [ZR 8 0, ZI p, ZI ((zfree (g 8 0 0) (g 8 0 2) (g 33 0) : Nat) : Int), ZI ((zmk (fun h => tFr (mT g) (h : Int) && tSu (mT g) p.toNat (h : Int)) k : Nat) : Int), ZI (k : Int)] [] G := by
  have hn8 := hm.1
  have hn6 := hm.2.2.1
  intro m
  induction m with
  | zero =>
    intro k G hk hz hq
    have e8_G : G 8 = g 8 := hz 8 (by decide)
    have e30_G : G 30 = g 30 := hz 30 (by decide)
    have e31_G : G 31 = g 31 := hz 31 (by decide)
    have e32_G : G 32 = g 32 := hz 32 (by decide)
    have e33_G : G 33 = g 33 := hz 33 (by decide)
    have e35_G : G 35 = g 35 := hz 35 (by decide)
    have e36_G : G 36 = g 36 := hz 36 (by decide)
    have e37_G : G 37 = g 37 := hz 37 (by decide)
    have e38_G : G 38 = g 38 := hz 38 (by decide)
    have e39_G : G 39 = g 39 := hz 39 (by decide)
    have e40_G : G 40 = g 40 := hz 40 (by decide)
    have e44_G : G 44 = g 44 := hz 44 (by decide)
    refine zs_iload (i := 4) rfl rfl ?_
    refine zs_aload_n (j := 0) (i := 0) rfl rfl rfl ?_
    refine zs_getfield (f := 8) (k := 0) rfl rfl (trivial) ?_
    show ZVV _ _ _ _ _ (ZI (G 8 0 0) :: _) _
    rw [e8_G]
    refine zs_icmp_ge 56 rfl (by omega) (fun hc_16 => ?_) (fun hc_16 => ?_)
    · refine zs_iload_n (j := 3) (i := 3) rfl rfl rfl ?_
      exact zs_ireturn rfl rfl (by have hx := hq G hz; rw [show (g 8 0 0).toNat = k by omega] at hx; exact hx)
    · exfalso; omega
  | succ m ih =>
    intro k G hk hz hq
    have e8_G : G 8 = g 8 := hz 8 (by decide)
    have e30_G : G 30 = g 30 := hz 30 (by decide)
    have e31_G : G 31 = g 31 := hz 31 (by decide)
    have e32_G : G 32 = g 32 := hz 32 (by decide)
    have e33_G : G 33 = g 33 := hz 33 (by decide)
    have e35_G : G 35 = g 35 := hz 35 (by decide)
    have e36_G : G 36 = g 36 := hz 36 (by decide)
    have e37_G : G 37 = g 37 := hz 37 (by decide)
    have e38_G : G 38 = g 38 := hz 38 (by decide)
    have e39_G : G 39 = g 39 := hz 39 (by decide)
    have e40_G : G 40 = g 40 := hz 40 (by decide)
    have e44_G : G 44 = g 44 := hz 44 (by decide)
    refine zs_iload (i := 4) rfl rfl ?_
    refine zs_aload_n (j := 0) (i := 0) rfl rfl rfl ?_
    refine zs_getfield (f := 8) (k := 0) rfl rfl (trivial) ?_
    show ZVV _ _ _ _ _ (ZI (G 8 0 0) :: _) _
    rw [e8_G]
    refine zs_icmp_ge 56 rfl (by omega) (fun hc_16 => ?_) (fun hc_16 => ?_)
    · exfalso; omega
    · refine zs_iload_n (j := 3) (i := 3) rfl rfl rfl ?_
      refine zs_aload_n (j := 0) (i := 0) rfl rfl rfl ?_
      refine zs_iload_n (j := 2) (i := 2) rfl rfl rfl ?_
      refine zs_iload (i := 4) rfl rfl ?_
      refine zs_callV (host := "") rfl kX8_271 vX8_has (c_X8_has (zfree (g 8 0 0) (g 8 0 2) (g 33 0)) (k : Int)) [ZI ((zfree (g 8 0 0) (g 8 0 2) (g 33 0) : Nat) : Int), ZI (k : Int)] [ZI ((zmk (fun h => tFr (mT g) (h : Int) && tSu (mT g) p.toNat (h : Int)) k : Nat) : Int)] rfl (zroom_of (by omega)) rfl (Nat.le_of_ble_eq_true rfl) (⟨rfl, zfree_lt hm.1.2, by omega, by omega⟩) (fun r_24 g_24 hq_24 => ?_)
      obtain ⟨hr_24, hg_24⟩ := hq_24
      rw [hr_24, hg_24]
      show ZVV _ _ _ 27 _ [ZI (if Nat.testBit (zfree (g 8 0 0) (g 8 0 2) (g 33 0)) k = true then 1 else 0), ZI ((zmk (fun h => tFr (mT g) (h : Int) && tSu (mT g) p.toNat (h : Int)) k : Nat) : Int)] _
      rw [zfree_bit (by omega)]
      refine zs_if_eq 47 rfl (by omega) (fun hc_27 => ?_) (fun hc_27 => ?_)
      · refine zs_iconst (n := 0) rfl ⟨by omega, by omega⟩ ?_
        refine zs_ior rfl ?_
        refine zs_istore_n (j := 3) (i := 3) rfl rfl (by decide) (by intro r x hr; have hr2 : r = 2 := (by omega); subst hr2; intro z; cases z) ?_
        show ZVV _ _ _ _ [ZR 8 0, ZI p, ZI ((zfree (g 8 0 0) (g 8 0 2) (g 33 0) : Nat) : Int), ZI (zor ((zmk (fun h => tFr (mT g) (h : Int) && tSu (mT g) p.toNat (h : Int)) k : Nat) : Int) 0), ZI (k : Int)] _ _
        refine zs_iinc_r (i := 4) rfl rfl (by intro r x hr; have hr2 : r = 3 := (by omega); subst hr2; intro z; cases z) ⟨by omega, by omega⟩ ?_
        show ZVV _ _ _ _ [ZR 8 0, ZI p, ZI ((zfree (g 8 0 0) (g 8 0 2) (g 33 0) : Nat) : Int), ZI (zor ((zmk (fun h => tFr (mT g) (h : Int) && tSu (mT g) p.toNat (h : Int)) k : Nat) : Int) 0), ZI ((k : Int) + 1)] _ _
        refine zs_goto 10 rfl (by omega) ?_
        have hb : (fun h => tFr (mT g) (h : Int) && tSu (mT g) p.toNat (h : Int)) k = false := by show (tFr (mT g) (k : Int) && tSu (mT g) p.toNat (k : Int)) = false; first | (rw [Bool.eq_false_iff.mpr (zif0 hc_27)]; rfl) | (rw [Bool.eq_false_iff.mpr (zif0 hc_37)]; exact Bool.and_false _)
        rw [zor_0 (zmk_lt31 _ (by omega)), ← zmk_add0 (P := fun h => tFr (mT g) (h : Int) && tSu (mT g) p.toNat (h : Int)) (n := k) hb]
        exact ih (k + 1) G (by omega) hz hq
      · refine zs_aload_n (j := 0) (i := 0) rfl rfl rfl ?_
        refine zs_iload_n (j := 1) (i := 1) rfl rfl rfl ?_
        refine zs_iload (i := 4) rfl rfl ?_
        refine zs_callV (host := "") rfl kX8_262 vX8_isContentIn (c_X8_isContentIn p (k : Int)) [ZI p, ZI (k : Int)] [ZI ((zmk (fun h => tFr (mT g) (h : Int) && tSu (mT g) p.toNat (h : Int)) k : Nat) : Int)] rfl (zroom_of (by omega)) rfl (Nat.le_of_ble_eq_true rfl) ⟨rfl, hm.z hz, ⟨by omega, by rw [hz 8 (by decide)]; omega⟩, ⟨by omega, by omega⟩⟩ (fun r_34 g_34 hq_34 => ?_)
        obtain ⟨hr_34, hz1_34⟩ := hq_34
        rw [hr_34, mT_z hz]
        have hz_34 := (show zP g G from hz).tr hz1_34
        have e8_34 : g_34 8 = g 8 := hz_34 8 (by decide)
        have e30_34 : g_34 30 = g 30 := hz_34 30 (by decide)
        have e31_34 : g_34 31 = g 31 := hz_34 31 (by decide)
        have e32_34 : g_34 32 = g 32 := hz_34 32 (by decide)
        have e33_34 : g_34 33 = g 33 := hz_34 33 (by decide)
        have e35_34 : g_34 35 = g 35 := hz_34 35 (by decide)
        have e36_34 : g_34 36 = g 36 := hz_34 36 (by decide)
        have e37_34 : g_34 37 = g 37 := hz_34 37 (by decide)
        have e38_34 : g_34 38 = g 38 := hz_34 38 (by decide)
        have e39_34 : g_34 39 = g 39 := hz_34 39 (by decide)
        have e40_34 : g_34 40 = g 40 := hz_34 40 (by decide)
        have e44_34 : g_34 44 = g 44 := hz_34 44 (by decide)
        show ZVV _ _ _ 37 _ [ZI (if tSu (mT g) p.toNat (k : Int) = true then 1 else 0), ZI ((zmk (fun h => tFr (mT g) (h : Int) && tSu (mT g) p.toNat (h : Int)) k : Nat) : Int)] g_34
        refine zs_if_eq 47 rfl (by omega) (fun hc_37 => ?_) (fun hc_37 => ?_)
        · refine zs_iconst (n := 0) rfl ⟨by omega, by omega⟩ ?_
          refine zs_ior rfl ?_
          refine zs_istore_n (j := 3) (i := 3) rfl rfl (by decide) (by intro r x hr; have hr2 : r = 2 := (by omega); subst hr2; intro z; cases z) ?_
          show ZVV _ _ _ _ [ZR 8 0, ZI p, ZI ((zfree (g 8 0 0) (g 8 0 2) (g 33 0) : Nat) : Int), ZI (zor ((zmk (fun h => tFr (mT g) (h : Int) && tSu (mT g) p.toNat (h : Int)) k : Nat) : Int) 0), ZI (k : Int)] _ _
          refine zs_iinc_r (i := 4) rfl rfl (by intro r x hr; have hr2 : r = 3 := (by omega); subst hr2; intro z; cases z) ⟨by omega, by omega⟩ ?_
          show ZVV _ _ _ _ [ZR 8 0, ZI p, ZI ((zfree (g 8 0 0) (g 8 0 2) (g 33 0) : Nat) : Int), ZI (zor ((zmk (fun h => tFr (mT g) (h : Int) && tSu (mT g) p.toNat (h : Int)) k : Nat) : Int) 0), ZI ((k : Int) + 1)] _ _
          refine zs_goto 10 rfl (by omega) ?_
          have hb : (fun h => tFr (mT g) (h : Int) && tSu (mT g) p.toNat (h : Int)) k = false := by show (tFr (mT g) (k : Int) && tSu (mT g) p.toNat (k : Int)) = false; first | (rw [Bool.eq_false_iff.mpr (zif0 hc_27)]; rfl) | (rw [Bool.eq_false_iff.mpr (zif0 hc_37)]; exact Bool.and_false _)
          rw [zor_0 (zmk_lt31 _ (by omega)), ← zmk_add0 (P := fun h => tFr (mT g) (h : Int) && tSu (mT g) p.toNat (h : Int)) (n := k) hb]
          exact ih (k + 1) g_34 (by omega) hz_34 hq
        · refine zs_iconst (n := 1) rfl ⟨by omega, by omega⟩ ?_
          refine zs_iload (i := 4) rfl rfl ?_
          refine zs_ishl rfl ?_
          refine zs_goto 48 rfl (by omega) ?_
          refine zs_ior rfl ?_
          refine zs_istore_n (j := 3) (i := 3) rfl rfl (by decide) (by intro r x hr; have hr2 : r = 2 := (by omega); subst hr2; intro z; cases z) ?_
          show ZVV _ _ _ _ [ZR 8 0, ZI p, ZI ((zfree (g 8 0 0) (g 8 0 2) (g 33 0) : Nat) : Int), ZI (zor ((zmk (fun h => tFr (mT g) (h : Int) && tSu (mT g) p.toNat (h : Int)) k : Nat) : Int) (zshl 1 (k : Int))), ZI (k : Int)] _ _
          refine zs_iinc_r (i := 4) rfl rfl (by intro r x hr; have hr2 : r = 3 := (by omega); subst hr2; intro z; cases z) ⟨by omega, by omega⟩ ?_
          show ZVV _ _ _ _ [ZR 8 0, ZI p, ZI ((zfree (g 8 0 0) (g 8 0 2) (g 33 0) : Nat) : Int), ZI (zor ((zmk (fun h => tFr (mT g) (h : Int) && tSu (mT g) p.toNat (h : Int)) k : Nat) : Int) (zshl 1 (k : Int))), ZI ((k : Int) + 1)] _ _
          show ZVV _ _ _ 53 _ _ _
          refine zs_goto 10 rfl (by omega) ?_
          have hb : (fun h => tFr (mT g) (h : Int) && tSu (mT g) p.toNat (h : Int)) k = true := by show (tFr (mT g) (k : Int) && tSu (mT g) p.toNat (k : Int)) = true; rw [zif1 hc_27, zif1 hc_37]; rfl
          rw [zmk_add (P := fun h => tFr (mT g) (h : Int) && tSu (mT g) p.toNat (h : Int)) (n := k) (by omega) hb]
          exact ih (k + 1) g_34 (by omega) hz_34 hq
def tWan (t : ZT) (p : Nat) : Nat := zmk (fun h => tFr t (h : Int) && tSu t p (h : Int)) (tn t).toNat
theorem c_X8_wanted (p : Int) : ZC mX8_wanted 6 (fun av g => av = [ZR 8 0, ZI p] ∧ MOK g ∧ (0 ≤ p ∧ p < g 8 0 2)) (fun _ g r g' => r = some (ZI ((tWan (mT g) p.toNat : Nat) : Int)) ∧ zP g g') := by
  refine zc_of gX8_wanted (fun av g hp => by obtain ⟨rfl, -⟩ := hp; exact Nat.le_of_ble_eq_true rfl) (fun Y av g hwf hrg hp hok => ?_)
  obtain ⟨rfl, hp⟩ := hp
  show ZVV _ _ _ 0 [ZR 8 0, ZI p, ZX 99, ZX 99, ZX 99] [] _
  have hn8 := hp.1.1
  refine zs_aload_n (j := 0) (i := 0) rfl rfl rfl ?_
  refine zs_callV (host := "") rfl kX8_268 vX8_freeOnes (c_X8_freeOnes) [] [] rfl (zroom_of (by omega)) rfl (Nat.le_of_ble_eq_true rfl) ⟨rfl, hp.1.1, hp.1.2.2.1⟩ (fun r_1 g_1 hq_1 => ?_)
  obtain ⟨hr_1, hg_1⟩ := hq_1
  rw [hr_1, hg_1]
  show ZVV _ _ _ 4 _ [ZI ((zfree (g 8 0 0) (g 8 0 2) (g 33 0) : Nat) : Int)] g
  refine zs_istore_n (j := 2) (i := 2) rfl rfl (by decide) (by intro r x hr; have hr2 : r = 1 := (by omega); subst hr2; intro z; cases z) ?_
  show ZVV _ _ _ _ [ZR 8 0, ZI p, ZI ((zfree (g 8 0 0) (g 8 0 2) (g 33 0) : Nat) : Int), ZX 99, ZX 99] _ _
  refine zs_iconst (n := 0) rfl ⟨by omega, by omega⟩ ?_
  refine zs_istore_n (j := 3) (i := 3) rfl rfl (by decide) (by intro r x hr; have hr2 : r = 2 := (by omega); subst hr2; intro z; cases z) ?_
  show ZVV _ _ _ _ [ZR 8 0, ZI p, ZI ((zfree (g 8 0 0) (g 8 0 2) (g 33 0) : Nat) : Int), ZI 0, ZX 99] _ _
  refine zs_iconst (n := 0) rfl ⟨by omega, by omega⟩ ?_
  refine zs_istore (i := 4) rfl (by decide) (by intro r x hr; have hr2 : r = 3 := (by omega); subst hr2; intro z; cases z) ?_
  show ZVV _ _ _ _ [ZR 8 0, ZI p, ZI ((zfree (g 8 0 0) (g 8 0 2) (g 33 0) : Nat) : Int), ZI 0, ZI 0] _ _
  exact l_X8_wanted hp.1 hp.2 (g 8 0 0).toNat 0 g (by omega) (zP.rf g) (fun M hM => ⟨rfl, hM⟩)

theorem l_X8_cheap {Y : ZW} {Q : Option ZV → ZG → Prop} {g : ZG} {p : Int} {sm : Nat} (hsm : sm < 2147483648) (hm : MOK g) (hpp : 0 ≤ p ∧ p < g 8 0 2) : ∀ (m k : Nat) (G : ZG), (k : Int) + m = g 8 0 0 → zP g G → (∀ M, zP g M → Q (some (ZI ((zmk (fun h => Nat.testBit sm h && decide ((tWt (mT g) p.toNat (h : Int)).2.2 ≤ 10 * g 31 0 p.toNat)) (g 8 0 0).toNat : Nat) : Int))) M) → ZVV Y mX8_cheap (zcx Y 6 Q) 5 [ZR 8 0, ZI p, ZI (sm : Int), ZI ((zmk (fun h => Nat.testBit sm h && decide ((tWt (mT g) p.toNat (h : Int)).2.2 ≤ 10 * g 31 0 p.toNat)) k : Nat) : Int), ZI (k : Int)] [] G := by
  have hn8 := hm.1
  have hn6 := hm.2.2.1
  intro m
  induction m with
  | zero =>
    intro k G hk hz hq
    have e8_G : G 8 = g 8 := hz 8 (by decide)
    have e30_G : G 30 = g 30 := hz 30 (by decide)
    have e31_G : G 31 = g 31 := hz 31 (by decide)
    have e32_G : G 32 = g 32 := hz 32 (by decide)
    have e33_G : G 33 = g 33 := hz 33 (by decide)
    have e35_G : G 35 = g 35 := hz 35 (by decide)
    have e36_G : G 36 = g 36 := hz 36 (by decide)
    have e37_G : G 37 = g 37 := hz 37 (by decide)
    have e38_G : G 38 = g 38 := hz 38 (by decide)
    have e39_G : G 39 = g 39 := hz 39 (by decide)
    have e40_G : G 40 = g 40 := hz 40 (by decide)
    have e44_G : G 44 = g 44 := hz 44 (by decide)
    refine zs_iload (i := 4) rfl rfl ?_
    refine zs_aload_n (j := 0) (i := 0) rfl rfl rfl ?_
    refine zs_getfield (f := 8) (k := 0) rfl rfl (trivial) ?_
    show ZVV _ _ _ _ _ (ZI (G 8 0 0) :: _) _
    rw [e8_G]
    refine zs_icmp_ge 69 rfl (by omega) (fun hc_11 => ?_) (fun hc_11 => ?_)
    · refine zs_iload_n (j := 3) (i := 3) rfl rfl rfl ?_
      exact zs_ireturn rfl rfl (by have hx := hq G hz; rw [show (g 8 0 0).toNat = k by omega] at hx; exact hx)
    · exfalso; omega
  | succ m ih =>
    intro k G hk hz hq
    have e8_G : G 8 = g 8 := hz 8 (by decide)
    have e30_G : G 30 = g 30 := hz 30 (by decide)
    have e31_G : G 31 = g 31 := hz 31 (by decide)
    have e32_G : G 32 = g 32 := hz 32 (by decide)
    have e33_G : G 33 = g 33 := hz 33 (by decide)
    have e35_G : G 35 = g 35 := hz 35 (by decide)
    have e36_G : G 36 = g 36 := hz 36 (by decide)
    have e37_G : G 37 = g 37 := hz 37 (by decide)
    have e38_G : G 38 = g 38 := hz 38 (by decide)
    have e39_G : G 39 = g 39 := hz 39 (by decide)
    have e40_G : G 40 = g 40 := hz 40 (by decide)
    have e44_G : G 44 = g 44 := hz 44 (by decide)
    refine zs_iload (i := 4) rfl rfl ?_
    refine zs_aload_n (j := 0) (i := 0) rfl rfl rfl ?_
    refine zs_getfield (f := 8) (k := 0) rfl rfl (trivial) ?_
    show ZVV _ _ _ _ _ (ZI (G 8 0 0) :: _) _
    rw [e8_G]
    refine zs_icmp_ge 69 rfl (by omega) (fun hc_11 => ?_) (fun hc_11 => ?_)
    · exfalso; omega
    · refine zs_iload_n (j := 3) (i := 3) rfl rfl rfl ?_
      refine zs_aload_n (j := 0) (i := 0) rfl rfl rfl ?_
      refine zs_iload_n (j := 2) (i := 2) rfl rfl rfl ?_
      refine zs_iload (i := 4) rfl rfl ?_
      refine zs_callV (host := "") rfl kX8_271 vX8_has (c_X8_has sm (k : Int)) [ZI (sm : Int), ZI (k : Int)] [ZI ((zmk (fun h => Nat.testBit sm h && decide ((tWt (mT g) p.toNat (h : Int)).2.2 ≤ 10 * g 31 0 p.toNat)) k : Nat) : Int)] rfl (zroom_of (by omega)) rfl (Nat.le_of_ble_eq_true rfl) (⟨rfl, hsm, by omega, by omega⟩) (fun r_19 g_19 hq_19 => ?_)
      obtain ⟨hr_19, hg_19⟩ := hq_19
      rw [hr_19, hg_19]
      show ZVV _ _ _ 22 _ [ZI (if Nat.testBit sm k = true then 1 else 0), ZI ((zmk (fun h => Nat.testBit sm h && decide ((tWt (mT g) p.toNat (h : Int)).2.2 ≤ 10 * g 31 0 p.toNat)) k : Nat) : Int)] _
      refine zs_if_eq 60 rfl (by omega) (fun hc_22 => ?_) (fun hc_22 => ?_)
      · refine zs_iconst (n := 0) rfl ⟨by omega, by omega⟩ ?_
        refine zs_ior rfl ?_
        refine zs_istore_n (j := 3) (i := 3) rfl rfl (by decide) (by intro r x hr; have hr2 : r = 2 := (by omega); subst hr2; intro z; cases z) ?_
        show ZVV _ _ _ _ [ZR 8 0, ZI p, ZI (sm : Int), ZI (zor ((zmk (fun h => Nat.testBit sm h && decide ((tWt (mT g) p.toNat (h : Int)).2.2 ≤ 10 * g 31 0 p.toNat)) k : Nat) : Int) 0), ZI (k : Int)] _ _
        refine zs_iinc_r (i := 4) rfl rfl (by intro r x hr; have hr2 : r = 3 := (by omega); subst hr2; intro z; cases z) ⟨by omega, by omega⟩ ?_
        show ZVV _ _ _ _ [ZR 8 0, ZI p, ZI (sm : Int), ZI (zor ((zmk (fun h => Nat.testBit sm h && decide ((tWt (mT g) p.toNat (h : Int)).2.2 ≤ 10 * g 31 0 p.toNat)) k : Nat) : Int) 0), ZI ((k : Int) + 1)] _ _
        refine zs_goto 5 rfl (by omega) ?_
        have hb : (fun h => Nat.testBit sm h && decide ((tWt (mT g) p.toNat (h : Int)).2.2 ≤ 10 * g 31 0 p.toNat)) k = false := by show (Nat.testBit sm k && decide _) = false; first | (rw [Bool.eq_false_iff.mpr (zif0 hc_22)]; rfl) | (rw [decide_eq_false (by omega)]; exact Bool.and_false _)
        rw [zor_0 (zmk_lt31 _ (by omega)), ← zmk_add0 (P := fun h => Nat.testBit sm h && decide ((tWt (mT g) p.toNat (h : Int)).2.2 ≤ 10 * g 31 0 p.toNat)) (n := k) hb]
        exact ih (k + 1) G (by omega) hz hq
      · refine zs_aload_n (j := 0) (i := 0) rfl rfl rfl ?_
        refine zs_iconst (n := 2) rfl ⟨by omega, by omega⟩ ?_
        refine zs_iload_n (j := 1) (i := 1) rfl rfl rfl ?_
        refine zs_iload (i := 4) rfl rfl ?_
        refine zs_aload_n (j := 0) (i := 0) rfl rfl rfl ?_
        refine zs_iload_n (j := 1) (i := 1) rfl rfl rfl ?_
        refine zs_iload (i := 4) rfl rfl ?_
        show ZVV _ _ _ 34 _ _ _
        refine zs_iconst (n := 0) rfl ⟨by omega, by omega⟩ ?_
        refine zs_callV (host := "") rfl kX8_251 vX8_beside (c_X8_beside0 p (k : Int)) [ZI p, ZI (k : Int), ZI 0] [ZI (k : Int), ZI p, ZI 2, ZR 8 0, ZI ((zmk (fun h => Nat.testBit sm h && decide ((tWt (mT g) p.toNat (h : Int)).2.2 ≤ 10 * g 31 0 p.toNat)) k : Nat) : Int)] rfl (zroom_of (by omega)) rfl (Nat.le_of_ble_eq_true rfl) ⟨rfl, hm.z hz, ⟨by omega, by omega⟩, ⟨by omega, by omega⟩⟩ (fun r_35 g_35 hq_35 => ?_)
        obtain ⟨hr_35, hg_35⟩ := hq_35
        rw [hr_35, hg_35, mT_z hz]
        show ZVV _ _ _ 38 _ [ZI (tBes (mT g) p.toNat (k : Int)), ZI (k : Int), ZI p, ZI 2, ZR 8 0, ZI ((zmk (fun h => Nat.testBit sm h && decide ((tWt (mT g) p.toNat (h : Int)).2.2 ≤ 10 * g 31 0 p.toNat)) k : Nat) : Int)] G
        refine zs_callV (host := "") rfl kX8_248 vX8_sumOf (c_X8_sumOf 2 p (k : Int) (tBes (mT g) p.toNat (k : Int))) [ZI 2, ZI p, ZI (k : Int), ZI (tBes (mT g) p.toNat (k : Int))] [ZI ((zmk (fun h => Nat.testBit sm h && decide ((tWt (mT g) p.toNat (h : Int)).2.2 ≤ 10 * g 31 0 p.toNat)) k : Nat) : Int)] rfl (zroom_of (by omega)) rfl (Nat.le_of_ble_eq_true rfl) ⟨rfl, hm.z hz, ⟨by omega, by omega⟩⟩ (fun r_38 g_38 hq_38 => ?_)
        obtain ⟨hr_38, hz1_38⟩ := hq_38
        rw [hr_38, show mWs G 2 (zfa p (G 32 0 p.toNat) (G 30 0 p.toNat) (k : Int) (tBes (mT g) p.toNat (k : Int)) (G 8 0 3 % 60)) = (tWt (mT g) p.toNat (k : Int)).2.2 from by rw [mWs_z hz, hz 32 (by decide), hz 30 (by decide), hz 8 (by decide), ← mT_wt g hpp.1]; rfl]
        have hz_38 := (show zP g G from hz).tr hz1_38
        have e8_38 : g_38 8 = g 8 := hz_38 8 (by decide)
        have e30_38 : g_38 30 = g 30 := hz_38 30 (by decide)
        have e31_38 : g_38 31 = g 31 := hz_38 31 (by decide)
        have e32_38 : g_38 32 = g 32 := hz_38 32 (by decide)
        have e33_38 : g_38 33 = g 33 := hz_38 33 (by decide)
        have e35_38 : g_38 35 = g 35 := hz_38 35 (by decide)
        have e36_38 : g_38 36 = g 36 := hz_38 36 (by decide)
        have e37_38 : g_38 37 = g 37 := hz_38 37 (by decide)
        have e38_38 : g_38 38 = g 38 := hz_38 38 (by decide)
        have e39_38 : g_38 39 = g 39 := hz_38 39 (by decide)
        have e40_38 : g_38 40 = g 40 := hz_38 40 (by decide)
        have e44_38 : g_38 44 = g 44 := hz_38 44 (by decide)
        show ZVV _ _ _ 41 _ [ZI ((tWt (mT g) p.toNat (k : Int)).2.2), ZI ((zmk (fun h => Nat.testBit sm h && decide ((tWt (mT g) p.toNat (h : Int)).2.2 ≤ 10 * g 31 0 p.toNat)) k : Nat) : Int)] g_38
        refine zs_bipush (n := 10) rfl ⟨by omega, by omega⟩ ?_
        refine zs_aload_n (j := 0) (i := 0) rfl rfl rfl ?_
        refine zs_getfield (f := 8) (k := 5) rfl rfl (trivial) ?_
        show ZVV _ _ _ _ _ (ZR 31 0 :: _) _
        refine zs_iload_n (j := 1) (i := 1) rfl rfl rfl ?_
        refine zs_iald (n := 6) rfl rfl (by omega) (by omega) ?_
        show ZVV _ _ _ _ _ (ZI (g_38 31 0 p.toNat) :: _) _
        rw [e31_38]
        have hv9 := (hm.2.2.2.2.2.2 p.toNat (by omega)).2.2.2
        show ZVV _ _ _ 49 _ _ _
        refine zs_imul_r rfl ⟨by omega, by omega⟩ ?_
        refine zs_icmp_gt 60 rfl (by omega) (fun hc_50 => ?_) (fun hc_50 => ?_)
        · refine zs_iconst (n := 0) rfl ⟨by omega, by omega⟩ ?_
          refine zs_ior rfl ?_
          refine zs_istore_n (j := 3) (i := 3) rfl rfl (by decide) (by intro r x hr; have hr2 : r = 2 := (by omega); subst hr2; intro z; cases z) ?_
          show ZVV _ _ _ _ [ZR 8 0, ZI p, ZI (sm : Int), ZI (zor ((zmk (fun h => Nat.testBit sm h && decide ((tWt (mT g) p.toNat (h : Int)).2.2 ≤ 10 * g 31 0 p.toNat)) k : Nat) : Int) 0), ZI (k : Int)] _ _
          refine zs_iinc_r (i := 4) rfl rfl (by intro r x hr; have hr2 : r = 3 := (by omega); subst hr2; intro z; cases z) ⟨by omega, by omega⟩ ?_
          show ZVV _ _ _ _ [ZR 8 0, ZI p, ZI (sm : Int), ZI (zor ((zmk (fun h => Nat.testBit sm h && decide ((tWt (mT g) p.toNat (h : Int)).2.2 ≤ 10 * g 31 0 p.toNat)) k : Nat) : Int) 0), ZI ((k : Int) + 1)] _ _
          refine zs_goto 5 rfl (by omega) ?_
          have hb : (fun h => Nat.testBit sm h && decide ((tWt (mT g) p.toNat (h : Int)).2.2 ≤ 10 * g 31 0 p.toNat)) k = false := by show (Nat.testBit sm k && decide _) = false; first | (rw [Bool.eq_false_iff.mpr (zif0 hc_22)]; rfl) | (rw [decide_eq_false (by omega)]; exact Bool.and_false _)
          rw [zor_0 (zmk_lt31 _ (by omega)), ← zmk_add0 (P := fun h => Nat.testBit sm h && decide ((tWt (mT g) p.toNat (h : Int)).2.2 ≤ 10 * g 31 0 p.toNat)) (n := k) hb]
          exact ih (k + 1) g_38 (by omega) hz_38 hq
        · refine zs_iconst (n := 1) rfl ⟨by omega, by omega⟩ ?_
          refine zs_iload (i := 4) rfl rfl ?_
          refine zs_ishl rfl ?_
          refine zs_goto 61 rfl (by omega) ?_
          refine zs_ior rfl ?_
          refine zs_istore_n (j := 3) (i := 3) rfl rfl (by decide) (by intro r x hr; have hr2 : r = 2 := (by omega); subst hr2; intro z; cases z) ?_
          show ZVV _ _ _ _ [ZR 8 0, ZI p, ZI (sm : Int), ZI (zor ((zmk (fun h => Nat.testBit sm h && decide ((tWt (mT g) p.toNat (h : Int)).2.2 ≤ 10 * g 31 0 p.toNat)) k : Nat) : Int) (zshl 1 (k : Int))), ZI (k : Int)] _ _
          refine zs_iinc_r (i := 4) rfl rfl (by intro r x hr; have hr2 : r = 3 := (by omega); subst hr2; intro z; cases z) ⟨by omega, by omega⟩ ?_
          show ZVV _ _ _ _ [ZR 8 0, ZI p, ZI (sm : Int), ZI (zor ((zmk (fun h => Nat.testBit sm h && decide ((tWt (mT g) p.toNat (h : Int)).2.2 ≤ 10 * g 31 0 p.toNat)) k : Nat) : Int) (zshl 1 (k : Int))), ZI ((k : Int) + 1)] _ _
          show ZVV _ _ _ 66 _ _ _
          refine zs_goto 5 rfl (by omega) ?_
          have hb : (fun h => Nat.testBit sm h && decide ((tWt (mT g) p.toNat (h : Int)).2.2 ≤ 10 * g 31 0 p.toNat)) k = true := by show (Nat.testBit sm k && decide _) = true; rw [zif1 hc_22, decide_eq_true (by omega)]; rfl
          rw [zmk_add (P := fun h => Nat.testBit sm h && decide ((tWt (mT g) p.toNat (h : Int)).2.2 ≤ 10 * g 31 0 p.toNat)) (n := k) (by omega) hb]
          exact ih (k + 1) g_38 (by omega) hz_38 hq
def tChe (t : ZT) (p sm : Nat) : Nat := zmk (fun h => Nat.testBit sm h && decide ((tWt t p (h : Int)).2.2 ≤ 10 * tv t p)) (tn t).toNat
theorem c_X8_cheap (p : Int) (sm : Nat) : ZC mX8_cheap 6 (fun av g => av = [ZR 8 0, ZI p, ZI (sm : Int)] ∧ MOK g ∧ (0 ≤ p ∧ p < g 8 0 2) ∧ sm < 2147483648) (fun _ g r g' => r = some (ZI ((tChe (mT g) p.toNat sm : Nat) : Int)) ∧ zP g g') := by
  refine zc_of gX8_cheap (fun av g hp => by obtain ⟨rfl, -⟩ := hp; exact Nat.le_of_ble_eq_true rfl) (fun Y av g hwf hrg hp hok => ?_)
  obtain ⟨rfl, hp⟩ := hp
  show ZVV _ _ _ 0 [ZR 8 0, ZI p, ZI (sm : Int), ZX 99, ZX 99] [] _
  have hn8 := hp.1.1
  refine zs_iconst (n := 0) rfl ⟨by omega, by omega⟩ ?_
  refine zs_istore_n (j := 3) (i := 3) rfl rfl (by decide) (by intro r x hr; have hr2 : r = 2 := (by omega); subst hr2; intro z; cases z) ?_
  show ZVV _ _ _ _ [ZR 8 0, ZI p, ZI (sm : Int), ZI 0, ZX 99] _ _
  refine zs_iconst (n := 0) rfl ⟨by omega, by omega⟩ ?_
  refine zs_istore (i := 4) rfl (by decide) (by intro r x hr; have hr2 : r = 3 := (by omega); subst hr2; intro z; cases z) ?_
  show ZVV _ _ _ _ [ZR 8 0, ZI p, ZI (sm : Int), ZI 0, ZI 0] _ _
  exact l_X8_cheap hp.2.2 hp.1 hp.2.1 (g 8 0 0).toNat 0 g (by omega) (zP.rf g) (fun M hM => ⟨rfl, hM⟩)

def mNear (n hp : Int) (sm m d : Nat) : Int := match m with
  | 0 => -5
  | m + 1 => if 0 ≤ hp - d ∧ sm.testBit (hp - d).toNat = true then hp - d else if hp + d < n ∧ sm.testBit (hp + d).toNat = true then hp + d else mNear n hp sm m (d + 1)
def mBeh (n hp : Int) (sm m d : Nat) : Int := match m with
  | 0 => -5
  | m + 1 => if sm.testBit ((hp + d) % n).toNat = true then (hp + d) % n else mBeh n hp sm m (d + 1)
theorem l_X8_nearest {Y : ZW} {Q : Option ZV → ZG → Prop} {g : ZG} {p : Int} {sm : Nat} (hsm : sm < 2147483648) (h8 : 3 ≤ g 8 0 0 ∧ g 8 0 0 ≤ 8) (hpp : 0 ≤ p ∧ p < 6) (hh0 : 0 ≤ g 33 0 p.toNat ∧ g 33 0 p.toNat < g 8 0 0) : ∀ (m k : Nat), (k : Int) + m = g 8 0 0 → Q (some (ZI (mNear (g 8 0 0) (g 33 0 p.toNat) sm m k))) g → ZVV Y mX8_nearest (zcx Y 2 Q) 2 [ZR 8 0, ZI p, ZI (sm : Int), ZI (k : Int)] [] g := by
  intro m
  induction m with
  | zero =>
    intro k hk hq
    refine zs_iload_n (j := 3) (i := 3) rfl rfl rfl ?_
    refine zs_aload_n (j := 0) (i := 0) rfl rfl rfl ?_
    refine zs_getfield (f := 8) (k := 0) rfl rfl (trivial) ?_
    show ZVV _ _ _ _ _ (ZI (g 8 0 0) :: _) _
    refine zs_icmp_ge 92 rfl (by omega) (fun hc_7 => ?_) (fun hc_7 => ?_)
    · refine zs_bipush (n := (-5)) rfl ⟨by omega, by omega⟩ ?_
      exact zs_ireturn rfl rfl (hq)
    · exfalso; omega
  | succ m ih =>
    intro k hk hq
    refine zs_iload_n (j := 3) (i := 3) rfl rfl rfl ?_
    refine zs_aload_n (j := 0) (i := 0) rfl rfl rfl ?_
    refine zs_getfield (f := 8) (k := 0) rfl rfl (trivial) ?_
    show ZVV _ _ _ _ _ (ZI (g 8 0 0) :: _) _
    refine zs_icmp_ge 92 rfl (by omega) (fun hc_7 => ?_) (fun hc_7 => ?_)
    · exfalso; omega
    · refine zs_aload_n (j := 0) (i := 0) rfl rfl rfl ?_
      refine zs_getfield (f := 8) (k := 7) rfl rfl (trivial) ?_
      show ZVV _ _ _ _ _ (ZR 33 0 :: _) _
      refine zs_iload_n (j := 1) (i := 1) rfl rfl rfl ?_
      refine zs_iald (n := 6) rfl rfl (by omega) (by omega) ?_
      refine zs_iload_n (j := 3) (i := 3) rfl rfl rfl ?_
      refine zs_isub_r rfl ⟨by omega, by omega⟩ ?_
      refine zs_if_lt 46 rfl (by omega) (fun hc_18 => ?_) (fun hc_18 => ?_)
      · refine zs_aload_n (j := 0) (i := 0) rfl rfl rfl ?_
        refine zs_getfield (f := 8) (k := 7) rfl rfl (trivial) ?_
        show ZVV _ _ _ _ _ (ZR 33 0 :: _) _
        refine zs_iload_n (j := 1) (i := 1) rfl rfl rfl ?_
        refine zs_iald (n := 6) rfl rfl (by omega) (by omega) ?_
        refine zs_iload_n (j := 3) (i := 3) rfl rfl rfl ?_
        refine zs_iadd_r rfl ⟨by omega, by omega⟩ ?_
        refine zs_aload_n (j := 0) (i := 0) rfl rfl rfl ?_
        show ZVV _ _ _ 55 _ _ _
        refine zs_getfield (f := 8) (k := 0) rfl rfl (trivial) ?_
        show ZVV _ _ _ _ _ (ZI (g 8 0 0) :: _) _
        refine zs_icmp_ge 86 rfl (by omega) (fun hc_58 => ?_) (fun hc_58 => ?_)
        · refine zs_iinc_r (i := 3) rfl rfl (by intro r x hr; have hr2 : r = 2 := (by omega); subst hr2; intro z; cases z) ⟨by omega, by omega⟩ ?_
          show ZVV _ _ _ _ [ZR 8 0, ZI p, ZI (sm : Int), ZI ((k : Int) + 1)] _ _
          refine zs_goto 2 rfl (by omega) ?_
          have hx := hq
          rw [show mNear (g 8 0 0) (g 33 0 p.toNat) sm (m + 1) k = mNear (g 8 0 0) (g 33 0 p.toNat) sm m (k + 1) from (if_neg (fun z => by first | exact zif0 hc_34 z.2 | (have := z.1; omega))).trans (if_neg (fun z => by first | exact zif0 hc_74 z.2 | (have := z.1; omega)))] at hx
          exact ih (k + 1) (by omega) hx
        · refine zs_aload_n (j := 0) (i := 0) rfl rfl rfl ?_
          refine zs_iload_n (j := 2) (i := 2) rfl rfl rfl ?_
          refine zs_aload_n (j := 0) (i := 0) rfl rfl rfl ?_
          refine zs_getfield (f := 8) (k := 7) rfl rfl (trivial) ?_
          show ZVV _ _ _ _ _ (ZR 33 0 :: _) _
          refine zs_iload_n (j := 1) (i := 1) rfl rfl rfl ?_
          refine zs_iald (n := 6) rfl rfl (by omega) (by omega) ?_
          refine zs_iload_n (j := 3) (i := 3) rfl rfl rfl ?_
          show ZVV _ _ _ 70 _ _ _
          refine zs_iadd_r rfl ⟨by omega, by omega⟩ ?_
          refine zs_callV (host := "") rfl kX8_271 vX8_has (c_X8_has sm ((g 33 0 p.toNat) + (k : Int))) [ZI (sm : Int), ZI ((g 33 0 p.toNat) + (k : Int))] [] rfl (zroom_of (by omega)) rfl (Nat.le_of_ble_eq_true rfl) (⟨rfl, hsm, by omega, by omega⟩) (fun r_71 g_71 hq_71 => ?_)
          obtain ⟨hr_71, hg_71⟩ := hq_71
          rw [hr_71, hg_71]
          show ZVV _ _ _ 74 _ [ZI (if Nat.testBit sm ((g 33 0 p.toNat) + (k : Int)).toNat = true then 1 else 0)] _
          refine zs_if_eq 86 rfl (by omega) (fun hc_74 => ?_) (fun hc_74 => ?_)
          · refine zs_iinc_r (i := 3) rfl rfl (by intro r x hr; have hr2 : r = 2 := (by omega); subst hr2; intro z; cases z) ⟨by omega, by omega⟩ ?_
            show ZVV _ _ _ _ [ZR 8 0, ZI p, ZI (sm : Int), ZI ((k : Int) + 1)] _ _
            refine zs_goto 2 rfl (by omega) ?_
            have hx := hq
            rw [show mNear (g 8 0 0) (g 33 0 p.toNat) sm (m + 1) k = mNear (g 8 0 0) (g 33 0 p.toNat) sm m (k + 1) from (if_neg (fun z => by first | exact zif0 hc_34 z.2 | (have := z.1; omega))).trans (if_neg (fun z => by first | exact zif0 hc_74 z.2 | (have := z.1; omega)))] at hx
            exact ih (k + 1) (by omega) hx
          · refine zs_aload_n (j := 0) (i := 0) rfl rfl rfl ?_
            refine zs_getfield (f := 8) (k := 7) rfl rfl (trivial) ?_
            show ZVV _ _ _ _ _ (ZR 33 0 :: _) _
            refine zs_iload_n (j := 1) (i := 1) rfl rfl rfl ?_
            refine zs_iald (n := 6) rfl rfl (by omega) (by omega) ?_
            refine zs_iload_n (j := 3) (i := 3) rfl rfl rfl ?_
            refine zs_iadd_r rfl ⟨by omega, by omega⟩ ?_
            exact zs_ireturn rfl rfl (by have hx := hq; rw [show mNear (g 8 0 0) (g 33 0 p.toNat) sm (m + 1) k = g 33 0 p.toNat + k from (if_neg (fun z => by first | exact zif0 hc_34 z.2 | (have := z.1; omega))).trans (if_pos ⟨by omega, zif1 hc_74⟩)] at hx; exact hx)
      · refine zs_aload_n (j := 0) (i := 0) rfl rfl rfl ?_
        refine zs_iload_n (j := 2) (i := 2) rfl rfl rfl ?_
        refine zs_aload_n (j := 0) (i := 0) rfl rfl rfl ?_
        refine zs_getfield (f := 8) (k := 7) rfl rfl (trivial) ?_
        show ZVV _ _ _ _ _ (ZR 33 0 :: _) _
        refine zs_iload_n (j := 1) (i := 1) rfl rfl rfl ?_
        refine zs_iald (n := 6) rfl rfl (by omega) (by omega) ?_
        refine zs_iload_n (j := 3) (i := 3) rfl rfl rfl ?_
        show ZVV _ _ _ 30 _ _ _
        refine zs_isub_r rfl ⟨by omega, by omega⟩ ?_
        refine zs_callV (host := "") rfl kX8_271 vX8_has (c_X8_has sm ((g 33 0 p.toNat) - (k : Int))) [ZI (sm : Int), ZI ((g 33 0 p.toNat) - (k : Int))] [] rfl (zroom_of (by omega)) rfl (Nat.le_of_ble_eq_true rfl) (⟨rfl, hsm, by omega, by omega⟩) (fun r_31 g_31 hq_31 => ?_)
        obtain ⟨hr_31, hg_31⟩ := hq_31
        rw [hr_31, hg_31]
        show ZVV _ _ _ 34 _ [ZI (if Nat.testBit sm ((g 33 0 p.toNat) - (k : Int)).toNat = true then 1 else 0)] _
        refine zs_if_eq 46 rfl (by omega) (fun hc_34 => ?_) (fun hc_34 => ?_)
        · refine zs_aload_n (j := 0) (i := 0) rfl rfl rfl ?_
          refine zs_getfield (f := 8) (k := 7) rfl rfl (trivial) ?_
          show ZVV _ _ _ _ _ (ZR 33 0 :: _) _
          refine zs_iload_n (j := 1) (i := 1) rfl rfl rfl ?_
          refine zs_iald (n := 6) rfl rfl (by omega) (by omega) ?_
          refine zs_iload_n (j := 3) (i := 3) rfl rfl rfl ?_
          refine zs_iadd_r rfl ⟨by omega, by omega⟩ ?_
          refine zs_aload_n (j := 0) (i := 0) rfl rfl rfl ?_
          show ZVV _ _ _ 55 _ _ _
          refine zs_getfield (f := 8) (k := 0) rfl rfl (trivial) ?_
          show ZVV _ _ _ _ _ (ZI (g 8 0 0) :: _) _
          refine zs_icmp_ge 86 rfl (by omega) (fun hc_58 => ?_) (fun hc_58 => ?_)
          · refine zs_iinc_r (i := 3) rfl rfl (by intro r x hr; have hr2 : r = 2 := (by omega); subst hr2; intro z; cases z) ⟨by omega, by omega⟩ ?_
            show ZVV _ _ _ _ [ZR 8 0, ZI p, ZI (sm : Int), ZI ((k : Int) + 1)] _ _
            refine zs_goto 2 rfl (by omega) ?_
            have hx := hq
            rw [show mNear (g 8 0 0) (g 33 0 p.toNat) sm (m + 1) k = mNear (g 8 0 0) (g 33 0 p.toNat) sm m (k + 1) from (if_neg (fun z => by first | exact zif0 hc_34 z.2 | (have := z.1; omega))).trans (if_neg (fun z => by first | exact zif0 hc_74 z.2 | (have := z.1; omega)))] at hx
            exact ih (k + 1) (by omega) hx
          · refine zs_aload_n (j := 0) (i := 0) rfl rfl rfl ?_
            refine zs_iload_n (j := 2) (i := 2) rfl rfl rfl ?_
            refine zs_aload_n (j := 0) (i := 0) rfl rfl rfl ?_
            refine zs_getfield (f := 8) (k := 7) rfl rfl (trivial) ?_
            show ZVV _ _ _ _ _ (ZR 33 0 :: _) _
            refine zs_iload_n (j := 1) (i := 1) rfl rfl rfl ?_
            refine zs_iald (n := 6) rfl rfl (by omega) (by omega) ?_
            refine zs_iload_n (j := 3) (i := 3) rfl rfl rfl ?_
            show ZVV _ _ _ 70 _ _ _
            refine zs_iadd_r rfl ⟨by omega, by omega⟩ ?_
            refine zs_callV (host := "") rfl kX8_271 vX8_has (c_X8_has sm ((g 33 0 p.toNat) + (k : Int))) [ZI (sm : Int), ZI ((g 33 0 p.toNat) + (k : Int))] [] rfl (zroom_of (by omega)) rfl (Nat.le_of_ble_eq_true rfl) (⟨rfl, hsm, by omega, by omega⟩) (fun r_71 g_71 hq_71 => ?_)
            obtain ⟨hr_71, hg_71⟩ := hq_71
            rw [hr_71, hg_71]
            show ZVV _ _ _ 74 _ [ZI (if Nat.testBit sm ((g 33 0 p.toNat) + (k : Int)).toNat = true then 1 else 0)] _
            refine zs_if_eq 86 rfl (by omega) (fun hc_74 => ?_) (fun hc_74 => ?_)
            · refine zs_iinc_r (i := 3) rfl rfl (by intro r x hr; have hr2 : r = 2 := (by omega); subst hr2; intro z; cases z) ⟨by omega, by omega⟩ ?_
              show ZVV _ _ _ _ [ZR 8 0, ZI p, ZI (sm : Int), ZI ((k : Int) + 1)] _ _
              refine zs_goto 2 rfl (by omega) ?_
              have hx := hq
              rw [show mNear (g 8 0 0) (g 33 0 p.toNat) sm (m + 1) k = mNear (g 8 0 0) (g 33 0 p.toNat) sm m (k + 1) from (if_neg (fun z => by first | exact zif0 hc_34 z.2 | (have := z.1; omega))).trans (if_neg (fun z => by first | exact zif0 hc_74 z.2 | (have := z.1; omega)))] at hx
              exact ih (k + 1) (by omega) hx
            · refine zs_aload_n (j := 0) (i := 0) rfl rfl rfl ?_
              refine zs_getfield (f := 8) (k := 7) rfl rfl (trivial) ?_
              show ZVV _ _ _ _ _ (ZR 33 0 :: _) _
              refine zs_iload_n (j := 1) (i := 1) rfl rfl rfl ?_
              refine zs_iald (n := 6) rfl rfl (by omega) (by omega) ?_
              refine zs_iload_n (j := 3) (i := 3) rfl rfl rfl ?_
              refine zs_iadd_r rfl ⟨by omega, by omega⟩ ?_
              exact zs_ireturn rfl rfl (by have hx := hq; rw [show mNear (g 8 0 0) (g 33 0 p.toNat) sm (m + 1) k = g 33 0 p.toNat + k from (if_neg (fun z => by first | exact zif0 hc_34 z.2 | (have := z.1; omega))).trans (if_pos ⟨by omega, zif1 hc_74⟩)] at hx; exact hx)
        · refine zs_aload_n (j := 0) (i := 0) rfl rfl rfl ?_
          refine zs_getfield (f := 8) (k := 7) rfl rfl (trivial) ?_
          show ZVV _ _ _ _ _ (ZR 33 0 :: _) _
          refine zs_iload_n (j := 1) (i := 1) rfl rfl rfl ?_
          refine zs_iald (n := 6) rfl rfl (by omega) (by omega) ?_
          refine zs_iload_n (j := 3) (i := 3) rfl rfl rfl ?_
          refine zs_isub_r rfl ⟨by omega, by omega⟩ ?_
          exact zs_ireturn rfl rfl (by have hx := hq; rw [show mNear (g 8 0 0) (g 33 0 p.toNat) sm (m + 1) k = g 33 0 p.toNat - k from if_pos ⟨by omega, zif1 hc_34⟩] at hx; exact hx)
theorem c_X8_nearest (p : Int) (sm : Nat) : ZC mX8_nearest 2 (fun av g => av = [ZR 8 0, ZI p, ZI (sm : Int)] ∧ (sm < 2147483648) ∧ (3 ≤ g 8 0 0 ∧ g 8 0 0 ≤ 8) ∧ (0 ≤ p ∧ p < 6) ∧ (0 ≤ g 33 0 p.toNat ∧ g 33 0 p.toNat < g 8 0 0)) (fun _ g r g' => r = some (ZI (mNear (g 8 0 0) (g 33 0 p.toNat) sm ((g 8 0 0).toNat - 1) 1)) ∧ g' = g) := by
  refine zc_of gX8_nearest (fun av g hp => by obtain ⟨rfl, -⟩ := hp; exact Nat.le_of_ble_eq_true rfl) (fun Y av g hwf hrg hp hok => ?_)
  obtain ⟨rfl, hp⟩ := hp
  show ZVV _ _ _ 0 [ZR 8 0, ZI p, ZI (sm : Int), ZX 99] [] _
  refine zs_iconst (n := 1) rfl ⟨by omega, by omega⟩ ?_
  refine zs_istore_n (j := 3) (i := 3) rfl rfl (by decide) (by intro r x hr; have hr2 : r = 2 := (by omega); subst hr2; intro z; cases z) ?_
  show ZVV _ _ _ _ [ZR 8 0, ZI p, ZI (sm : Int), ZI 1] _ _
  exact l_X8_nearest hp.1 hp.2.1 hp.2.2.1 hp.2.2.2 ((g 8 0 0).toNat - 1) 1 (by omega) ⟨rfl, rfl⟩

theorem l_X8_behindOwn {Y : ZW} {Q : Option ZV → ZG → Prop} {g : ZG} {p : Int} {sm : Nat} (hsm : sm < 2147483648) (h8 : 3 ≤ g 8 0 0 ∧ g 8 0 0 ≤ 8) (hpp : 0 ≤ p ∧ p < 6) (hh0 : 0 ≤ g 33 0 p.toNat ∧ g 33 0 p.toNat < g 8 0 0) : ∀ (m k : Nat), (k : Int) + m = g 8 0 0 → Q (some (ZI (mBeh (g 8 0 0) (g 33 0 p.toNat) sm m k))) g → ZVV Y mX8_behindOwn (zcx Y 2 Q) 2 [ZR 8 0, ZI p, ZI (sm : Int), ZI (k : Int)] [] g := by
  intro m
  induction m with
  | zero =>
    intro k hk hq
    refine zs_iload_n (j := 3) (i := 3) rfl rfl rfl ?_
    refine zs_aload_n (j := 0) (i := 0) rfl rfl rfl ?_
    refine zs_getfield (f := 8) (k := 0) rfl rfl (trivial) ?_
    show ZVV _ _ _ _ _ (ZI (g 8 0 0) :: _) _
    refine zs_icmp_ge 51 rfl (by omega) (fun hc_7 => ?_) (fun hc_7 => ?_)
    · refine zs_bipush (n := (-5)) rfl ⟨by omega, by omega⟩ ?_
      exact zs_ireturn rfl rfl (hq)
    · exfalso; omega
  | succ m ih =>
    intro k hk hq
    refine zs_iload_n (j := 3) (i := 3) rfl rfl rfl ?_
    refine zs_aload_n (j := 0) (i := 0) rfl rfl rfl ?_
    refine zs_getfield (f := 8) (k := 0) rfl rfl (trivial) ?_
    show ZVV _ _ _ _ _ (ZI (g 8 0 0) :: _) _
    refine zs_icmp_ge 51 rfl (by omega) (fun hc_7 => ?_) (fun hc_7 => ?_)
    · exfalso; omega
    · refine zs_aload_n (j := 0) (i := 0) rfl rfl rfl ?_
      refine zs_iload_n (j := 2) (i := 2) rfl rfl rfl ?_
      refine zs_aload_n (j := 0) (i := 0) rfl rfl rfl ?_
      refine zs_getfield (f := 8) (k := 7) rfl rfl (trivial) ?_
      show ZVV _ _ _ _ _ (ZR 33 0 :: _) _
      refine zs_iload_n (j := 1) (i := 1) rfl rfl rfl ?_
      refine zs_iald (n := 6) rfl rfl (by omega) (by omega) ?_
      refine zs_iload_n (j := 3) (i := 3) rfl rfl rfl ?_
      show ZVV _ _ _ 19 _ _ _
      refine zs_iadd_r rfl ⟨by omega, by omega⟩ ?_
      have hmod : 0 ≤ (g 33 0 p.toNat + (k : Int)) % g 8 0 0 ∧ (g 33 0 p.toNat + (k : Int)) % g 8 0 0 < g 8 0 0 := ⟨Int.emod_nonneg _ (by omega), Int.emod_lt_of_pos _ (by omega)⟩
      refine zs_aload_n (j := 0) (i := 0) rfl rfl rfl ?_
      refine zs_getfield (f := 8) (k := 0) rfl rfl (trivial) ?_
      show ZVV _ _ _ _ _ (ZI (g 8 0 0) :: _) _
      refine zs_irem_p rfl (by omega) (by omega) ?_
      refine zs_callV (host := "") rfl kX8_271 vX8_has (c_X8_has sm (((g 33 0 p.toNat) + (k : Int)) % (g 8 0 0))) [ZI (sm : Int), ZI (((g 33 0 p.toNat) + (k : Int)) % (g 8 0 0))] [] rfl (zroom_of (by omega)) rfl (Nat.le_of_ble_eq_true rfl) (⟨rfl, hsm, by omega, by omega⟩) (fun r_25 g_25 hq_25 => ?_)
      obtain ⟨hr_25, hg_25⟩ := hq_25
      rw [hr_25, hg_25]
      show ZVV _ _ _ 28 _ [ZI (if Nat.testBit sm (((g 33 0 p.toNat) + (k : Int)) % (g 8 0 0)).toNat = true then 1 else 0)] _
      refine zs_if_eq 45 rfl (by omega) (fun hc_28 => ?_) (fun hc_28 => ?_)
      · refine zs_iinc_r (i := 3) rfl rfl (by intro r x hr; have hr2 : r = 2 := (by omega); subst hr2; intro z; cases z) ⟨by omega, by omega⟩ ?_
        show ZVV _ _ _ _ [ZR 8 0, ZI p, ZI (sm : Int), ZI ((k : Int) + 1)] _ _
        refine zs_goto 2 rfl (by omega) ?_
        have hx := hq
        rw [show mBeh (g 8 0 0) (g 33 0 p.toNat) sm (m + 1) k = mBeh (g 8 0 0) (g 33 0 p.toNat) sm m (k + 1) from if_neg (zif0 hc_28)] at hx
        exact ih (k + 1) (by omega) hx
      · refine zs_aload_n (j := 0) (i := 0) rfl rfl rfl ?_
        refine zs_getfield (f := 8) (k := 7) rfl rfl (trivial) ?_
        show ZVV _ _ _ _ _ (ZR 33 0 :: _) _
        refine zs_iload_n (j := 1) (i := 1) rfl rfl rfl ?_
        refine zs_iald (n := 6) rfl rfl (by omega) (by omega) ?_
        refine zs_iload_n (j := 3) (i := 3) rfl rfl rfl ?_
        refine zs_iadd_r rfl ⟨by omega, by omega⟩ ?_
        refine zs_aload_n (j := 0) (i := 0) rfl rfl rfl ?_
        show ZVV _ _ _ 40 _ _ _
        refine zs_getfield (f := 8) (k := 0) rfl rfl (trivial) ?_
        show ZVV _ _ _ _ _ (ZI (g 8 0 0) :: _) _
        refine zs_irem_p rfl (by omega) (by omega) ?_
        exact zs_ireturn rfl rfl (by have hx := hq; rw [show mBeh (g 8 0 0) (g 33 0 p.toNat) sm (m + 1) k = (g 33 0 p.toNat + k) % g 8 0 0 from if_pos (zif1 hc_28)] at hx; exact hx)
theorem c_X8_behindOwn (p : Int) (sm : Nat) : ZC mX8_behindOwn 2 (fun av g => av = [ZR 8 0, ZI p, ZI (sm : Int)] ∧ (sm < 2147483648) ∧ (3 ≤ g 8 0 0 ∧ g 8 0 0 ≤ 8) ∧ (0 ≤ p ∧ p < 6) ∧ (0 ≤ g 33 0 p.toNat ∧ g 33 0 p.toNat < g 8 0 0)) (fun _ g r g' => r = some (ZI (mBeh (g 8 0 0) (g 33 0 p.toNat) sm ((g 8 0 0).toNat - 1) 1)) ∧ g' = g) := by
  refine zc_of gX8_behindOwn (fun av g hp => by obtain ⟨rfl, -⟩ := hp; exact Nat.le_of_ble_eq_true rfl) (fun Y av g hwf hrg hp hok => ?_)
  obtain ⟨rfl, hp⟩ := hp
  show ZVV _ _ _ 0 [ZR 8 0, ZI p, ZI (sm : Int), ZX 99] [] _
  refine zs_iconst (n := 1) rfl ⟨by omega, by omega⟩ ?_
  refine zs_istore_n (j := 3) (i := 3) rfl rfl (by decide) (by intro r x hr; have hr2 : r = 2 := (by omega); subst hr2; intro z; cases z) ?_
  show ZVV _ _ _ _ [ZR 8 0, ZI p, ZI (sm : Int), ZI 1] _ _
  exact l_X8_behindOwn hp.1 hp.2.1 hp.2.2.1 hp.2.2.2 ((g 8 0 0).toNat - 1) 1 (by omega) ⟨rfl, rfl⟩

