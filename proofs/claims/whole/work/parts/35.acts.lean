def cMove (g : ZG) : Int := if 9999 ≤ g 2 0 8 then -3 else (tStep (cT g)).1
theorem c_X7_move  : ZC mX7_move 7 (fun av g => av = [ZR 7 0] ∧ CP g) (fun _ g r g' => r = some (ZI (cMove g)) ∧ ((9999 ≤ g 2 0 8 ∧ g' = g) ∨ (g 2 0 8 < 9999 ∧ ∃ M, zTL M = (tStep (cT g)).2 ∧ zLV g 2 M ∧ g' = zcopyF M 0 2))) := by
  refine zc_of gX7_move (fun av g hp => by obtain ⟨rfl, -⟩ := hp; exact Nat.le_of_ble_eq_true rfl) (fun Y av g hwf hrg hp hok => ?_)
  obtain ⟨rfl, hp⟩ := hp
  show ZVV _ _ _ 0 [ZR 7 0, ZX 99] [] _
  refine zs_aload_n (j := 0) (i := 0) rfl rfl rfl ?_
  refine zs_getfield (f := 7) (k := 5) rfl rfl (trivial) ?_
  show ZVV _ _ _ _ _ (ZR 2 0 :: _) _
  refine zs_getfield (f := 2) (k := 8) rfl rfl (trivial) ?_
  show ZVV _ _ _ _ _ (ZI (g 2 0 8) :: _) _
  refine zs_sipush (n := 9999) rfl ⟨by omega, by omega⟩ ?_
  refine zs_icmp_lt 16 rfl (by omega) (fun hc_10 => ?_) (fun hc_10 => ?_)
  · refine zs_aload_n (j := 0) (i := 0) rfl rfl rfl ?_
    refine zs_getfield (f := 7) (k := 7) rfl rfl (trivial) ?_
    show ZVV _ _ _ _ _ (ZR 1 0 :: _) _
    refine zs_aload_n (j := 0) (i := 0) rfl rfl rfl ?_
    refine zs_getfield (f := 7) (k := 5) rfl rfl (trivial) ?_
    show ZVV _ _ _ _ _ (ZR 2 0 :: _) _
    refine zs_callV (host := "") rfl kX7_98 vX1_startFrom (c_X1_startFrom 0) [ZR 2 0] [] rfl (zroom_of (by omega)) rfl (Nat.le_of_ble_eq_true rfl) ⟨rfl, ⟨by decide, hp.2.1.2.1, Int.le_trans hp.2.2 (by decide)⟩, hp.1.2.1.1.1⟩ (fun r_24 g_24 hq_24 => ?_)
    obtain ⟨hr_24, hg_24⟩ := hq_24
    rw [hr_24]
    obtain ⟨hL24, hH24, hT24, hV24, hB24, hs24, eL18_24, eL3_24, eL0_24, eL8_24⟩ := start_okx hp hg_24
    have e2_24 : g_24 2 0 = g 2 0 := hV24 2 0 rfl
    have e15_24 : g_24 15 0 = g 15 0 := hV24 15 0 rfl
    have e16_24 : g_24 16 0 = g 16 0 := hV24 16 0 rfl
    have e17_24 : g_24 17 0 = g 17 0 := hV24 17 0 rfl
    have e18_24 : g_24 18 0 = g 18 0 := hV24 18 0 rfl
    have e19_24 : g_24 19 0 = g 19 0 := hV24 19 0 rfl
    show ZVV _ _ _ 27 _ [] g_24
    refine zs_aload_n (j := 0) (i := 0) rfl rfl rfl ?_
    refine zs_getfield (f := 7) (k := 7) rfl rfl (trivial) ?_
    show ZVV _ _ _ _ _ (ZR 1 0 :: _) _
    show ZVV _ _ _ 31 _ _ _
    refine zs_callV (host := "") rfl kX7_158 vX1_step c_X1_step [] [] rfl (zroom_of (by omega)) rfl (Nat.le_of_ble_eq_true rfl) ⟨rfl, hL24, hH24, (by have := hp.1.2.2.2; omega), (by have := hp.2.2; omega)⟩ (fun r_31 g_31 hq_31 => ?_)
    obtain ⟨hr_31, hT_31, hL_31, hH_31, hS_31, hs_31⟩ := hq_31
    rw [hr_31]
    show ZVV _ _ _ 34 _ [ZI ((tStep (zTL g_24)).1)] _
    refine zs_istore_n (j := 1) (i := 1) rfl rfl (by decide) (by intro r x hr; have hr2 : r = 0 := (by omega); subst hr2; intro z; cases z) ?_
    show ZVV _ _ _ _ [ZR 7 0, ZI ((tStep (zTL g_24)).1)] _ _
    refine zs_aload_n (j := 0) (i := 0) rfl rfl rfl ?_
    refine zs_getfield (f := 7) (k := 5) rfl rfl (trivial) ?_
    show ZVV _ _ _ _ _ (ZR 2 0 :: _) _
    refine zs_aload_n (j := 0) (i := 0) rfl rfl rfl ?_
    refine zs_getfield (f := 7) (k := 7) rfl rfl (trivial) ?_
    show ZVV _ _ _ _ _ (ZR 1 0 :: _) _
    refine zs_getfield (f := 1) (k := 0) rfl rfl (trivial) ?_
    show ZVV _ _ _ _ _ (ZR 2 2 :: _) _
    have h11 := hL_31.2.1.1.1
    refine zs_callV (host := "") rfl kX7_164 vX2_copyFrom (c_X2_copyFrom 0 2) [ZR 2 2] [] rfl (zroom_of (by omega)) rfl (Nat.le_of_ble_eq_true rfl) ⟨rfl, by decide, h11⟩ (fun r_46 g_46 hq_46 => ?_)
    obtain ⟨hr_46, hg_46⟩ := hq_46
    rw [hr_46]
    show ZVV _ _ _ 49 _ [] _
    show ZVV _ _ _ 49 _ _ _
    refine zs_iload_n (j := 1) (i := 1) rfl rfl rfl ?_
    exact zs_ireturn rfl rfl (⟨by unfold cMove; rw [if_neg (by omega), hT24], Or.inr ⟨by omega, g_31, by rw [hT_31, hT24], (zLV.start hp hg_24).1.step (by decide) hT_31 hL_31 hH_31 hS_31 hs_31, hg_46⟩⟩)
  · refine zs_bipush (n := (-3)) rfl ⟨by omega, by omega⟩ ?_
    exact zs_ireturn rfl rfl (⟨by unfold cMove; rw [if_pos (by omega)], Or.inl ⟨by omega, rfl⟩⟩)

