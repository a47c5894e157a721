def tHolds (t : ZT) (a : Int) (m k : Nat) (c : Int) : Int := match m with
  | 0 => c
  | m + 1 => tHolds t a m (k + 1) (if zand (zand a (zxor (tHap (tput t k (-1)) : Nat) (-1))) (zxor (zshl 1 k) (-1)) ≠ 0 then zor c (zshl 1 k) else c)
theorem tHolds_s (t : ZT) (a : Int) (m k : Nat) (c : Int) : tHolds t a (m + 1) k c = tHolds t a m (k + 1) (if zand (zand a (zxor (tHap (tput t k (-1)) : Nat) (-1))) (zxor (zshl 1 k) (-1)) ≠ 0 then zor c (zshl 1 k) else c) := rfl
theorem l_X7_holds {Y : ZW} {Q : Option ZV → ZG → Prop} {g B : ZG} {a : Int} (hp : CP g) (hV : zVS g B) (hB : ZB B) (hs : B 1 0 8 = g 1 0 8 + 1) (hT : zTL B = cT g) (e18B : B 18 2 = g 18 0) : ∀ (m k : Nat) (c : Int) (G : ZG), (k : Int) + m = g 2 0 3 → zSL B G → LOK G → (∀ M, zQR 1 g M → Q (some (ZI (tHolds (cT g) a m k c))) M) → ZVV Y mX7_holds (zcx Y 7 Q) 23 [ZR 7 0, ZI a, ZI c, ZI (k : Int)] [] G := by
  have hn6 := hp.1.1.2.2.1
  intro m
  induction m with
  | zero =>
    intro k c G hk hS hL hq
    have e2G : G 2 0 = g 2 0 := (hV.tr hS.vs) 2 0 rfl
    have e18G : G 18 0 = g 18 0 := (hV.tr hS.vs) 18 0 rfl
    refine zs_iload_n (j := 3) (i := 3) rfl rfl rfl ?_
    refine zs_aload_n (j := 0) (i := 0) rfl rfl rfl ?_
    refine zs_getfield (f := 7) (k := 5) rfl rfl (trivial) ?_
    show ZVV _ _ _ _ _ (ZR 2 0 :: _) _
    refine zs_getfield (f := 2) (k := 3) rfl rfl (trivial) ?_
    show ZVV _ _ _ _ _ (ZI (G 2 0 3) :: _) _
    rw [e2G]
    refine zs_icmp_ge 100 rfl (by omega) (fun hc_31 => ?_) (fun hc_31 => ?_)
    · refine zs_iload_n (j := 2) (i := 2) rfl rfl rfl ?_
      exact zs_ireturn rfl rfl (hq _ (q_sl hV hB hs hS hL))
    · exfalso; omega
  | succ m ih =>
    intro k c G hk hS hL hq
    have e2G : G 2 0 = g 2 0 := (hV.tr hS.vs) 2 0 rfl
    have e18G : G 18 0 = g 18 0 := (hV.tr hS.vs) 18 0 rfl
    refine zs_iload_n (j := 3) (i := 3) rfl rfl rfl ?_
    refine zs_aload_n (j := 0) (i := 0) rfl rfl rfl ?_
    refine zs_getfield (f := 7) (k := 5) rfl rfl (trivial) ?_
    show ZVV _ _ _ _ _ (ZR 2 0 :: _) _
    refine zs_getfield (f := 2) (k := 3) rfl rfl (trivial) ?_
    show ZVV _ _ _ _ _ (ZI (G 2 0 3) :: _) _
    rw [e2G]
    refine zs_icmp_ge 100 rfl (by omega) (fun hc_31 => ?_) (fun hc_31 => ?_)
    · exfalso; omega
    · refine zs_aload_n (j := 0) (i := 0) rfl rfl rfl ?_
      refine zs_getfield (f := 7) (k := 7) rfl rfl (trivial) ?_
      show ZVV _ _ _ _ _ (ZR 1 0 :: _) _
      refine zs_getfield (f := 1) (k := 0) rfl rfl (trivial) ?_
      show ZVV _ _ _ _ _ (ZR 2 2 :: _) _
      refine zs_getfield (f := 2) (k := 7) rfl rfl (trivial) ?_
      show ZVV _ _ _ _ _ (ZR 18 2 :: _) _
      refine zs_iload_n (j := 3) (i := 3) rfl rfl rfl ?_
      refine zs_iconst (n := (-1)) rfl ⟨by omega, by omega⟩ ?_
      refine zs_iast (n := 6) rfl rfl (by omega) (by omega) ?_
      show ZVV _ _ _ _ _ _ (zup G 18 2 k (-1))
      show ZVV _ _ _ 47 _ _ _
      refine zs_iload_n (j := 1) (i := 1) rfl rfl rfl ?_
      refine zs_aload_n (j := 0) (i := 0) rfl rfl rfl ?_
      refine zs_getfield (f := 7) (k := 7) rfl rfl (trivial) ?_
      show ZVV _ _ _ _ _ (ZR 1 0 :: _) _
      show ZVV _ _ _ _ _ _ (mput G k (-1))
      have hLp : LOK (mput G k (-1)) := mput_lok hL ⟨by omega, by have := hL.1.1; omega⟩
      refine zs_callV (host := "") rfl kX7_152 vX1_happy c_X1_happy [] [ZI a] rfl (zroom_of (by omega)) rfl (Nat.le_of_ble_eq_true rfl) ⟨rfl, hLp⟩ (fun r_52 g_52 hq_52 => ?_)
      obtain ⟨hr_52, hS_52, hL_52⟩ := hq_52
      have hP_52 : zSP B k g_52 := ((hS.sp k).put (-1)).sl hS_52
      have hV_52 : zVS g g_52 := fun f i hv => by
        have hn := zvis_no hv
        by_cases h18 : f = 18
        · subst h18; funext q; rw [hP_52.2.2 i q (by omega)]; exact congrFun (hV 18 i hv) q
        · rw [hP_52.1 f (by omega) (by omega) (by omega) (by omega) h18]; exact hV f i hv
      have e2_52 : g_52 2 0 = g 2 0 := hV_52 2 0 rfl
      have e18_52 : g_52 18 0 = g 18 0 := hV_52 18 0 rfl
      rw [hr_52, mput_town, hS.townL, hT]
      show ZVV _ _ _ 55 _ [ZI (tHap (tput (cT g) k (-1)) : Nat), ZI a] _
      refine zs_iconst (n := (-1)) rfl ⟨by omega, by omega⟩ ?_
      refine zs_ixor rfl ?_
      refine zs_iand rfl ?_
      refine zs_iconst (n := 1) rfl ⟨by omega, by omega⟩ ?_
      show ZVV _ _ _ 59 _ _ _
      refine zs_iload_n (j := 3) (i := 3) rfl rfl rfl ?_
      refine zs_ishl rfl ?_
      refine zs_iconst (n := (-1)) rfl ⟨by omega, by omega⟩ ?_
      refine zs_ixor rfl ?_
      refine zs_iand rfl ?_
      refine zs_if_eq 73 rfl (by omega) (fun hc_64 => ?_) (fun hc_64 => ?_)
      · refine zs_aload_n (j := 0) (i := 0) rfl rfl rfl ?_
        refine zs_getfield (f := 7) (k := 7) rfl rfl (trivial) ?_
        show ZVV _ _ _ _ _ (ZR 1 0 :: _) _
        refine zs_getfield (f := 1) (k := 0) rfl rfl (trivial) ?_
        show ZVV _ _ _ _ _ (ZR 2 2 :: _) _
        refine zs_getfield (f := 2) (k := 7) rfl rfl (trivial) ?_
        show ZVV _ _ _ _ _ (ZR 18 2 :: _) _
        refine zs_iload_n (j := 3) (i := 3) rfl rfl rfl ?_
        refine zs_aload_n (j := 0) (i := 0) rfl rfl rfl ?_
        refine zs_getfield (f := 7) (k := 5) rfl rfl (trivial) ?_
        show ZVV _ _ _ _ _ (ZR 2 0 :: _) _
        show ZVV _ _ _ 88 _ _ _
        refine zs_getfield (f := 2) (k := 7) rfl rfl (trivial) ?_
        show ZVV _ _ _ _ _ (ZR 18 0 :: _) _
        refine zs_iload_n (j := 3) (i := 3) rfl rfl rfl ?_
        refine zs_iald (n := 6) rfl rfl (by omega) (by omega) ?_
        show ZVV _ _ _ _ _ (ZI (g_52 18 0 k) :: _) _
        rw [e18_52]
        refine zs_iast (n := 6) rfl rfl (by omega) (by omega) ?_
        show ZVV _ _ _ _ _ _ (zup g_52 18 2 k (g 18 0 k))
        refine zs_iinc_r (i := 3) rfl rfl (by intro r x hr; have hr2 : r = 2 := (by omega); subst hr2; intro z; cases z) ⟨by omega, by omega⟩ ?_
        show ZVV _ _ _ _ [ZR 7 0, ZI a, ZI c, ZI ((k : Int) + 1)] _ _
        refine zs_goto 23 rfl (by omega) ?_
        show ZVV _ _ _ _ _ _ (mput g_52 k (g 18 0 k))
        have hk18 := hp.1.2.2.1 k (by omega)
        have hk8 := (hp.1.1.2.2.2.2.2 k (by omega)).1.2
        have hB2 : B 2 2 0 = g 2 0 0 := congrArg tn hT
        have h52 : g_52 2 2 0 = g 2 0 0 := by rw [hP_52.1 2 (by decide) (by decide) (by decide) (by decide) (by decide)]; exact hB2
        have hbk := hP_52.back
        rw [e18B] at hbk
        exact ih (k + 1) _ _ (by omega) hbk (mput_lok hL_52 ⟨by omega, by rw [h52]; exact hk8⟩) (fun M z => by have := hq M z; rw [tHolds_s, if_neg (fun z => z hc_64)] at this; exact this)
      · refine zs_iload_n (j := 2) (i := 2) rfl rfl rfl ?_
        refine zs_iconst (n := 1) rfl ⟨by omega, by omega⟩ ?_
        refine zs_iload_n (j := 3) (i := 3) rfl rfl rfl ?_
        refine zs_ishl rfl ?_
        refine zs_ior rfl ?_
        refine zs_istore_n (j := 2) (i := 2) rfl rfl (by decide) (by intro r x hr; have hr2 : r = 1 := (by omega); subst hr2; intro z; cases z) ?_
        show ZVV _ _ _ _ [ZR 7 0, ZI a, ZI (zor c (zshl 1 (k : Int))), ZI (k : Int)] _ _
        refine zs_aload_n (j := 0) (i := 0) rfl rfl rfl ?_
        show ZVV _ _ _ 74 _ _ _
        refine zs_getfield (f := 7) (k := 7) rfl rfl (trivial) ?_
        show ZVV _ _ _ _ _ (ZR 1 0 :: _) _
        refine zs_getfield (f := 1) (k := 0) rfl rfl (trivial) ?_
        show ZVV _ _ _ _ _ (ZR 2 2 :: _) _
        refine zs_getfield (f := 2) (k := 7) rfl rfl (trivial) ?_
        show ZVV _ _ _ _ _ (ZR 18 2 :: _) _
        refine zs_iload_n (j := 3) (i := 3) rfl rfl rfl ?_
        refine zs_aload_n (j := 0) (i := 0) rfl rfl rfl ?_
        refine zs_getfield (f := 7) (k := 5) rfl rfl (trivial) ?_
        show ZVV _ _ _ _ _ (ZR 2 0 :: _) _
        refine zs_getfield (f := 2) (k := 7) rfl rfl (trivial) ?_
        show ZVV _ _ _ _ _ (ZR 18 0 :: _) _
        refine zs_iload_n (j := 3) (i := 3) rfl rfl rfl ?_
        show ZVV _ _ _ 92 _ _ _
        refine zs_iald (n := 6) rfl rfl (by omega) (by omega) ?_
        show ZVV _ _ _ _ _ (ZI (g_52 18 0 k) :: _) _
        rw [e18_52]
        refine zs_iast (n := 6) rfl rfl (by omega) (by omega) ?_
        show ZVV _ _ _ _ _ _ (zup g_52 18 2 k (g 18 0 k))
        refine zs_iinc_r (i := 3) rfl rfl (by intro r x hr; have hr2 : r = 2 := (by omega); subst hr2; intro z; cases z) ⟨by omega, by omega⟩ ?_
        show ZVV _ _ _ _ [ZR 7 0, ZI a, ZI (zor c (zshl 1 (k : Int))), ZI ((k : Int) + 1)] _ _
        refine zs_goto 23 rfl (by omega) ?_
        show ZVV _ _ _ _ _ _ (mput g_52 k (g 18 0 k))
        have hk18 := hp.1.2.2.1 k (by omega)
        have hk8 := (hp.1.1.2.2.2.2.2 k (by omega)).1.2
        have hB2 : B 2 2 0 = g 2 0 0 := congrArg tn hT
        have h52 : g_52 2 2 0 = g 2 0 0 := by rw [hP_52.1 2 (by decide) (by decide) (by decide) (by decide) (by decide)]; exact hB2
        have hbk := hP_52.back
        rw [e18B] at hbk
        exact ih (k + 1) _ _ (by omega) hbk (mput_lok hL_52 ⟨by omega, by rw [h52]; exact hk8⟩) (fun M z => by have := hq M z; rw [tHolds_s, if_pos hc_64] at this; exact this)
theorem c_X7_holds  : ZC mX7_holds 7 (fun av g => av = [ZR 7 0] ∧ CP g) (fun _ g r g' => r = some (ZI (tHolds (cT g) (tHap (cT g) : Nat) (g 2 0 3).toNat 0 0)) ∧ zQR 1 g g') := by
  refine zc_of gX7_holds (fun av g hp => by obtain ⟨rfl, -⟩ := hp; exact Nat.le_of_ble_eq_true rfl) (fun Y av g hwf hrg hp hok => ?_)
  obtain ⟨rfl, hp⟩ := hp
  show ZVV _ _ _ 0 [ZR 7 0, ZX 99, ZX 99, ZX 99] [] _
  refine zs_aload_n (j := 0) (i := 0) rfl rfl rfl ?_
  refine zs_getfield (f := 7) (k := 7) rfl rfl (trivial) ?_
  show ZVV _ _ _ _ _ (ZR 1 0 :: _) _
  refine zs_aload_n (j := 0) (i := 0) rfl rfl rfl ?_
  refine zs_getfield (f := 7) (k := 5) rfl rfl (trivial) ?_
  show ZVV _ _ _ _ _ (ZR 2 0 :: _) _
  refine zs_callV (host := "") rfl kX7_98 vX1_startFrom (c_X1_startFrom 0) [ZR 2 0] [] rfl (zroom_of (by omega)) rfl (Nat.le_of_ble_eq_true rfl) ⟨rfl, ⟨by decide, hp.2.1.2.1, Int.le_trans hp.2.2 (by decide)⟩, hp.1.2.1.1.1⟩ (fun r_8 g_8 hq_8 => ?_)
  obtain ⟨hr_8, hg_8⟩ := hq_8
  rw [hr_8]
  obtain ⟨hL8, hH8, hT8, hV8, hB8, hs8, eL18_8, eL3_8, eL0_8, eL8_8⟩ := start_okx hp hg_8
  have e2_8 : g_8 2 0 = g 2 0 := hV8 2 0 rfl
  have e15_8 : g_8 15 0 = g 15 0 := hV8 15 0 rfl
  have e16_8 : g_8 16 0 = g 16 0 := hV8 16 0 rfl
  have e17_8 : g_8 17 0 = g 17 0 := hV8 17 0 rfl
  have e18_8 : g_8 18 0 = g 18 0 := hV8 18 0 rfl
  have e19_8 : g_8 19 0 = g 19 0 := hV8 19 0 rfl
  show ZVV _ _ _ 11 _ [] g_8
  refine zs_aload_n (j := 0) (i := 0) rfl rfl rfl ?_
  refine zs_getfield (f := 7) (k := 7) rfl rfl (trivial) ?_
  show ZVV _ _ _ _ _ (ZR 1 0 :: _) _
  show ZVV _ _ _ 15 _ _ _
  refine zs_callV (host := "") rfl kX7_152 vX1_happy (c_X1_happy) [] [] rfl (zroom_of (by omega)) rfl (Nat.le_of_ble_eq_true rfl) (⟨rfl, hL8⟩) (fun r_15 g_15 hq_15 => ?_)
  obtain ⟨hr_15, hS_15, hL_15⟩ := hq_15
  rw [hr_15, hT8]
  show ZVV _ _ _ 18 _ [ZI (tHap (cT g) : Nat)] _
  refine zs_istore_n (j := 1) (i := 1) rfl rfl (by decide) (by intro r x hr; have hr2 : r = 0 := (by omega); subst hr2; intro z; cases z) ?_
  show ZVV _ _ _ _ [ZR 7 0, ZI (tHap (cT g) : Nat), ZX 99, ZX 99] _ _
  refine zs_iconst (n := 0) rfl ⟨by omega, by omega⟩ ?_
  refine zs_istore_n (j := 2) (i := 2) rfl rfl (by decide) (by intro r x hr; have hr2 : r = 1 := (by omega); subst hr2; intro z; cases z) ?_
  show ZVV _ _ _ _ [ZR 7 0, ZI (tHap (cT g) : Nat), ZI 0, ZX 99] _ _
  refine zs_iconst (n := 0) rfl ⟨by omega, by omega⟩ ?_
  refine zs_istore_n (j := 3) (i := 3) rfl rfl (by decide) (by intro r x hr; have hr2 : r = 2 := (by omega); subst hr2; intro z; cases z) ?_
  show ZVV _ _ _ _ [ZR 7 0, ZI (tHap (cT g) : Nat), ZI 0, ZI 0] _ _
  exact l_X7_holds hp hV8 hB8 hs8 hT8 eL18_8 (g 2 0 3).toNat 0 0 _ (by have := hp.1.1.2.2.1; omega) hS_15 hL_15 (fun M z => ⟨rfl, z⟩)

