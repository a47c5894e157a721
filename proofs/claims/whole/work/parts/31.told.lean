theorem start_okx {g G : ZG} (h : CP g) (hG : G = zup (zup (zcopyF g 2 0) 1 0 1 (-1)) 1 0 8 (g 1 0 8 + 1)) : LOK G ∧ LHH G ∧ zTL G = zTC g 0 (-1) ∧ zVS g G ∧ ZB G ∧ G 1 0 8 = g 1 0 8 + 1 ∧ G 18 2 = g 18 0 ∧ G 2 2 3 = g 2 0 3 ∧ G 2 2 0 = g 2 0 0 ∧ G 2 2 8 = g 2 0 8 := by subst hG; exact start_ok h
theorem SOK.vs {g G : ZG} (h : SOK g 0) (k : zVS g G) : SOK G 0 := by
  unfold SOK at *
  rw [k 2 0 rfl, k 14 0 rfl, k 15 0 rfl, k 16 0 rfl, k 17 0 rfl, k 18 0 rfl]; exact h
theorem COK.vs {g G : ZG} (h : COK g) (k : zVS g G) : COK G := by
  refine ⟨h.1.vs k, ?_, ?_, ?_⟩
  · have := h.2.1
    unfold HOLD at *
    rw [k 2 0 rfl, k 3 _ rfl, k 20 _ rfl]; exact this
  · have := h.2.2.1; rw [k 2 0 rfl, k 18 0 rfl]; exact this
  · have := h.2.2.2; rw [k 2 0 rfl]; exact this
abbrev cT (g : ZG) : ZT := zTC g 0 (-1)
def cTold (g : ZG) (w : Int) : Int := if w = 0 then g 2 0 0 else if w = 1 then g 2 0 1 else if w = 2 then g 2 0 8 else if w = 3 then zlp (g 2 0 0) (g 2 0 1) (g 2 0 3) (g 17 0) (g 18 0) else if w = 4 then zap (g 2 0 0) (g 2 0 1) (g 2 0 3) (g 18 0) else if w = 5 then (tHap (cT g) : Nat) else if w = 6 then (zfree (g 2 0 0) (g 2 0 3) (g 18 0) : Nat) else -1
theorem c_X7_told (w : Int) : ZC mX7_told 5 (fun av g => av = [ZR 7 0, ZI w] ∧ CP g) (fun _ g r g' => r = some (ZI (cTold g w)) ∧ zQR 1 g g') := by
  refine zc_of gX7_told (fun av g hp => by obtain ⟨rfl, -⟩ := hp; exact Nat.le_of_ble_eq_true rfl) (fun Y av g hwf hrg hp hok => ?_)
  obtain ⟨rfl, hp⟩ := hp
  show ZVV _ _ _ 0 [ZR 7 0, ZI w] [] _
  refine zs_aload_n (j := 0) (i := 0) rfl rfl rfl ?_
  refine zs_getfield (f := 7) (k := 7) rfl rfl (trivial) ?_
  show ZVV _ _ _ _ _ (ZR 1 0 :: _) _
  refine zs_aload_n (j := 0) (i := 0) rfl rfl rfl ?_
  refine zs_getfield (f := 7) (k := 5) rfl rfl (trivial) ?_
  show ZVV _ _ _ _ _ (ZR 2 0 :: _) _
  refine zs_callV (host := "") rfl kX7_98 vX1_startFrom (c_X1_startFrom 0) [ZR 2 0] [] rfl (zroom_of (by omega)) rfl (Nat.le_of_ble_eq_true rfl) ⟨rfl, ⟨by decide, hp.2.1.2.1, Int.le_trans hp.2.2 (by decide)⟩, hp.1.2.1.1.1⟩ (fun r_8 g_8 hq_8 => ?_)
  obtain ⟨hr_8, hg_8⟩ := hq_8
  rw [hr_8]
  obtain ⟨hL8, hH8, hT8, hV8, hB8, hs8, eL18_8, eL3_8, eL0_8, eL8_8⟩ := start_okx hp hg_8
  have e2_8 : g_8 2 0 = g 2 0 := hV8 2 0 rfl
  have e15_8 : g_8 15 0 = g 15 0 := hV8 15 0 rfl
  have e16_8 : g_8 16 0 = g 16 0 := hV8 16 0 rfl
  have e17_8 : g_8 17 0 = g 17 0 := hV8 17 0 rfl
  have e18_8 : g_8 18 0 = g 18 0 := hV8 18 0 rfl
  have e19_8 : g_8 19 0 = g 19 0 := hV8 19 0 rfl
  show ZVV _ _ _ 11 _ [] g_8
  refine zs_iload_n (j := 1) (i := 1) rfl rfl rfl ?_
  by_cases hs_12_0 : w = 0
  · refine zs_tsIn 56 rfl (by omega) (by omega) (off := 44) (by rw [hs_12_0]; rfl) (by omega) ?_
    refine zs_aload_n (j := 0) (i := 0) rfl rfl rfl ?_
    refine zs_getfield (f := 7) (k := 5) rfl rfl (trivial) ?_
    show ZVV _ _ _ _ _ (ZR 2 0 :: _) _
    refine zs_getfield (f := 2) (k := 0) rfl rfl (trivial) ?_
    show ZVV _ _ _ _ _ (ZI (g_8 2 0 0) :: _) _
    rw [e2_8]
    exact zs_ireturn rfl rfl (⟨by unfold cTold; first | (rw [if_pos (by omega)]) | (rw [if_neg (by omega), if_pos (by omega)]) | (rw [if_neg (by omega), if_neg (by omega), if_pos (by omega)]) | (rw [if_neg (by omega), if_neg (by omega), if_neg (by omega), if_pos (by omega)]) | (rw [if_neg (by omega), if_neg (by omega), if_neg (by omega), if_neg (by omega), if_pos (by omega)]) | (rw [if_neg (by omega), if_neg (by omega), if_neg (by omega), if_neg (by omega), if_neg (by omega), if_pos (by omega)]) | (rw [if_neg (by omega), if_neg (by omega), if_neg (by omega), if_neg (by omega), if_neg (by omega), if_neg (by omega), if_pos (by omega)]) | (rw [if_neg (by omega), if_neg (by omega), if_neg (by omega), if_neg (by omega), if_neg (by omega), if_neg (by omega), if_neg (by omega)]), q_sl hV8 hB8 hs8 (zSL.rf _) hL8⟩)
  by_cases hs_12_1 : w = 1
  · refine zs_tsIn 64 rfl (by omega) (by omega) (off := 52) (by rw [hs_12_1]; rfl) (by omega) ?_
    refine zs_aload_n (j := 0) (i := 0) rfl rfl rfl ?_
    refine zs_getfield (f := 7) (k := 5) rfl rfl (trivial) ?_
    show ZVV _ _ _ _ _ (ZR 2 0 :: _) _
    refine zs_getfield (f := 2) (k := 1) rfl rfl (trivial) ?_
    show ZVV _ _ _ _ _ (ZI (g_8 2 0 1) :: _) _
    rw [e2_8]
    exact zs_ireturn rfl rfl (⟨by unfold cTold; first | (rw [if_pos (by omega)]) | (rw [if_neg (by omega), if_pos (by omega)]) | (rw [if_neg (by omega), if_neg (by omega), if_pos (by omega)]) | (rw [if_neg (by omega), if_neg (by omega), if_neg (by omega), if_pos (by omega)]) | (rw [if_neg (by omega), if_neg (by omega), if_neg (by omega), if_neg (by omega), if_pos (by omega)]) | (rw [if_neg (by omega), if_neg (by omega), if_neg (by omega), if_neg (by omega), if_neg (by omega), if_pos (by omega)]) | (rw [if_neg (by omega), if_neg (by omega), if_neg (by omega), if_neg (by omega), if_neg (by omega), if_neg (by omega), if_pos (by omega)]) | (rw [if_neg (by omega), if_neg (by omega), if_neg (by omega), if_neg (by omega), if_neg (by omega), if_neg (by omega), if_neg (by omega)]), q_sl hV8 hB8 hs8 (zSL.rf _) hL8⟩)
  by_cases hs_12_2 : w = 2
  · refine zs_tsIn 72 rfl (by omega) (by omega) (off := 60) (by rw [hs_12_2]; rfl) (by omega) ?_
    refine zs_aload_n (j := 0) (i := 0) rfl rfl rfl ?_
    refine zs_getfield (f := 7) (k := 5) rfl rfl (trivial) ?_
    show ZVV _ _ _ _ _ (ZR 2 0 :: _) _
    refine zs_getfield (f := 2) (k := 8) rfl rfl (trivial) ?_
    show ZVV _ _ _ _ _ (ZI (g_8 2 0 8) :: _) _
    rw [e2_8]
    exact zs_ireturn rfl rfl (⟨by unfold cTold; first | (rw [if_pos (by omega)]) | (rw [if_neg (by omega), if_pos (by omega)]) | (rw [if_neg (by omega), if_neg (by omega), if_pos (by omega)]) | (rw [if_neg (by omega), if_neg (by omega), if_neg (by omega), if_pos (by omega)]) | (rw [if_neg (by omega), if_neg (by omega), if_neg (by omega), if_neg (by omega), if_pos (by omega)]) | (rw [if_neg (by omega), if_neg (by omega), if_neg (by omega), if_neg (by omega), if_neg (by omega), if_pos (by omega)]) | (rw [if_neg (by omega), if_neg (by omega), if_neg (by omega), if_neg (by omega), if_neg (by omega), if_neg (by omega), if_pos (by omega)]) | (rw [if_neg (by omega), if_neg (by omega), if_neg (by omega), if_neg (by omega), if_neg (by omega), if_neg (by omega), if_neg (by omega)]), q_sl hV8 hB8 hs8 (zSL.rf _) hL8⟩)
  by_cases hs_12_3 : w = 3
  · refine zs_tsIn 80 rfl (by omega) (by omega) (off := 68) (by rw [hs_12_3]; rfl) (by omega) ?_
    refine zs_aload_n (j := 0) (i := 0) rfl rfl rfl ?_
    refine zs_getfield (f := 7) (k := 5) rfl rfl (trivial) ?_
    show ZVV _ _ _ _ _ (ZR 2 0 :: _) _
    refine zs_callV (host := "") rfl kX7_145 vX2_likePairs (c_X2_likePairs 0) [] [] rfl (zroom_of (by omega)) rfl (Nat.le_of_ble_eq_true rfl) (⟨rfl, (hp.1.vs hV8).1, (hp.1.vs hV8).2.2.1⟩) (fun r_84 g_84 hq_84 => ?_)
    obtain ⟨hr_84, hg_84⟩ := hq_84
    rw [hr_84, hg_84, e2_8, e17_8, e18_8]
    show ZVV _ _ _ 87 _ [ZI (zlp (g 2 0 0) (g 2 0 1) (g 2 0 3) (g 17 0) (g 18 0))] _
    exact zs_ireturn rfl rfl (⟨by unfold cTold; first | (rw [if_pos (by omega)]) | (rw [if_neg (by omega), if_pos (by omega)]) | (rw [if_neg (by omega), if_neg (by omega), if_pos (by omega)]) | (rw [if_neg (by omega), if_neg (by omega), if_neg (by omega), if_pos (by omega)]) | (rw [if_neg (by omega), if_neg (by omega), if_neg (by omega), if_neg (by omega), if_pos (by omega)]) | (rw [if_neg (by omega), if_neg (by omega), if_neg (by omega), if_neg (by omega), if_neg (by omega), if_pos (by omega)]) | (rw [if_neg (by omega), if_neg (by omega), if_neg (by omega), if_neg (by omega), if_neg (by omega), if_neg (by omega), if_pos (by omega)]) | (rw [if_neg (by omega), if_neg (by omega), if_neg (by omega), if_neg (by omega), if_neg (by omega), if_neg (by omega), if_neg (by omega)]), q_sl hV8 hB8 hs8 (zSL.rf _) hL8⟩)
  by_cases hs_12_4 : w = 4
  · refine zs_tsIn 88 rfl (by omega) (by omega) (off := 76) (by rw [hs_12_4]; rfl) (by omega) ?_
    refine zs_aload_n (j := 0) (i := 0) rfl rfl rfl ?_
    refine zs_getfield (f := 7) (k := 5) rfl rfl (trivial) ?_
    show ZVV _ _ _ _ _ (ZR 2 0 :: _) _
    refine zs_callV (host := "") rfl kX7_149 vX2_allPairs (c_X2_allPairs 0) [] [] rfl (zroom_of (by omega)) rfl (Nat.le_of_ble_eq_true rfl) (⟨rfl, (hp.1.vs hV8).1, (hp.1.vs hV8).2.2.1⟩) (fun r_92 g_92 hq_92 => ?_)
    obtain ⟨hr_92, hg_92⟩ := hq_92
    rw [hr_92, hg_92, e2_8, e18_8]
    show ZVV _ _ _ 95 _ [ZI (zap (g 2 0 0) (g 2 0 1) (g 2 0 3) (g 18 0))] _
    exact zs_ireturn rfl rfl (⟨by unfold cTold; first | (rw [if_pos (by omega)]) | (rw [if_neg (by omega), if_pos (by omega)]) | (rw [if_neg (by omega), if_neg (by omega), if_pos (by omega)]) | (rw [if_neg (by omega), if_neg (by omega), if_neg (by omega), if_pos (by omega)]) | (rw [if_neg (by omega), if_neg (by omega), if_neg (by omega), if_neg (by omega), if_pos (by omega)]) | (rw [if_neg (by omega), if_neg (by omega), if_neg (by omega), if_neg (by omega), if_neg (by omega), if_pos (by omega)]) | (rw [if_neg (by omega), if_neg (by omega), if_neg (by omega), if_neg (by omega), if_neg (by omega), if_neg (by omega), if_pos (by omega)]) | (rw [if_neg (by omega), if_neg (by omega), if_neg (by omega), if_neg (by omega), if_neg (by omega), if_neg (by omega), if_neg (by omega)]), q_sl hV8 hB8 hs8 (zSL.rf _) hL8⟩)
  by_cases hs_12_5 : w = 5
  · refine zs_tsIn 96 rfl (by omega) (by omega) (off := 84) (by rw [hs_12_5]; rfl) (by omega) ?_
    refine zs_aload_n (j := 0) (i := 0) rfl rfl rfl ?_
    refine zs_getfield (f := 7) (k := 7) rfl rfl (trivial) ?_
    show ZVV _ _ _ _ _ (ZR 1 0 :: _) _
    refine zs_callV (host := "") rfl kX7_152 vX1_happy (c_X1_happy) [] [] rfl (zroom_of (by omega)) rfl (Nat.le_of_ble_eq_true rfl) (⟨rfl, hL8⟩) (fun r_100 g_100 hq_100 => ?_)
    obtain ⟨hr_100, hS_100, hL_100⟩ := hq_100
    rw [hr_100, hT8]
    show ZVV _ _ _ 103 _ [ZI (tHap (cT g) : Nat)] _
    exact zs_ireturn rfl rfl (⟨by unfold cTold; first | (rw [if_pos (by omega)]) | (rw [if_neg (by omega), if_pos (by omega)]) | (rw [if_neg (by omega), if_neg (by omega), if_pos (by omega)]) | (rw [if_neg (by omega), if_neg (by omega), if_neg (by omega), if_pos (by omega)]) | (rw [if_neg (by omega), if_neg (by omega), if_neg (by omega), if_neg (by omega), if_pos (by omega)]) | (rw [if_neg (by omega), if_neg (by omega), if_neg (by omega), if_neg (by omega), if_neg (by omega), if_pos (by omega)]) | (rw [if_neg (by omega), if_neg (by omega), if_neg (by omega), if_neg (by omega), if_neg (by omega), if_neg (by omega), if_pos (by omega)]) | (rw [if_neg (by omega), if_neg (by omega), if_neg (by omega), if_neg (by omega), if_neg (by omega), if_neg (by omega), if_neg (by omega)]), q_sl hV8 hB8 hs8 hS_100 hL_100⟩)
  by_cases hs_12_6 : w = 6
  · refine zs_tsIn 104 rfl (by omega) (by omega) (off := 92) (by rw [hs_12_6]; rfl) (by omega) ?_
    refine zs_aload_n (j := 0) (i := 0) rfl rfl rfl ?_
    refine zs_getfield (f := 7) (k := 5) rfl rfl (trivial) ?_
    show ZVV _ _ _ _ _ (ZR 2 0 :: _) _
    refine zs_callV (host := "") rfl kX7_155 vX2_freeHouses (c_X2_freeHouses 0) [] [] rfl (zroom_of (by omega)) rfl (Nat.le_of_ble_eq_true rfl) (⟨rfl, (hp.1.vs hV8).1⟩) (fun r_108 g_108 hq_108 => ?_)
    obtain ⟨hr_108, hg_108⟩ := hq_108
    rw [hr_108, hg_108, e2_8, e18_8]
    show ZVV _ _ _ 111 _ [ZI (zfree (g 2 0 0) (g 2 0 3) (g 18 0) : Nat)] _
    exact zs_ireturn rfl rfl (⟨by unfold cTold; first | (rw [if_pos (by omega)]) | (rw [if_neg (by omega), if_pos (by omega)]) | (rw [if_neg (by omega), if_neg (by omega), if_pos (by omega)]) | (rw [if_neg (by omega), if_neg (by omega), if_neg (by omega), if_pos (by omega)]) | (rw [if_neg (by omega), if_neg (by omega), if_neg (by omega), if_neg (by omega), if_pos (by omega)]) | (rw [if_neg (by omega), if_neg (by omega), if_neg (by omega), if_neg (by omega), if_neg (by omega), if_pos (by omega)]) | (rw [if_neg (by omega), if_neg (by omega), if_neg (by omega), if_neg (by omega), if_neg (by omega), if_neg (by omega), if_pos (by omega)]) | (rw [if_neg (by omega), if_neg (by omega), if_neg (by omega), if_neg (by omega), if_neg (by omega), if_neg (by omega), if_neg (by omega)]), q_sl hV8 hB8 hs8 (zSL.rf _) hL8⟩)
  refine zs_tsOut 112 rfl (by omega) (by omega) ?_
  refine zs_iconst (n := (-1)) rfl ⟨by omega, by omega⟩ ?_
  exact zs_ireturn rfl rfl (⟨by unfold cTold; first | (rw [if_pos (by omega)]) | (rw [if_neg (by omega), if_pos (by omega)]) | (rw [if_neg (by omega), if_neg (by omega), if_pos (by omega)]) | (rw [if_neg (by omega), if_neg (by omega), if_neg (by omega), if_pos (by omega)]) | (rw [if_neg (by omega), if_neg (by omega), if_neg (by omega), if_neg (by omega), if_pos (by omega)]) | (rw [if_neg (by omega), if_neg (by omega), if_neg (by omega), if_neg (by omega), if_neg (by omega), if_pos (by omega)]) | (rw [if_neg (by omega), if_neg (by omega), if_neg (by omega), if_neg (by omega), if_neg (by omega), if_neg (by omega), if_pos (by omega)]) | (rw [if_neg (by omega), if_neg (by omega), if_neg (by omega), if_neg (by omega), if_neg (by omega), if_neg (by omega), if_neg (by omega)]), q_sl hV8 hB8 hs8 (zSL.rf _) hL8⟩)

def cOf (g : ZG) (p w : Int) : Int := if ¬ (0 ≤ p ∧ p < g 2 0 3) then -10001 else if w = 0 then g 15 0 p.toNat else if w = 1 then g 16 0 p.toNat else if w = 2 then g 17 0 p.toNat else if w = 3 then g 18 0 p.toNat else if w = 4 then (tWt (cT g) p.toNat (g 18 0 p.toNat)).1 else if w = 5 then (tWt (cT g) p.toNat (g 18 0 p.toNat)).2.1 else if w = 6 then (tWt (cT g) p.toNat (g 18 0 p.toNat)).2.2 else if w = 7 then (if tSu (cT g) p.toNat (g 18 0 p.toNat) = true then 1 else 0) else if w = 8 then (if tSu (cT g) p.toNat (g 18 0 p.toNat) = true then -5 else tGoes (cT g) p.toNat) else -10001
theorem c_X7_of (p w : Int) : ZC mX7_of 6 (fun av g => av = [ZR 7 0, ZI p, ZI w] ∧ CP g) (fun _ g r g' => r = some (ZI (cOf g p w)) ∧ zQR 1 g g') := by
  refine zc_of gX7_of (fun av g hp => by obtain ⟨rfl, -⟩ := hp; exact Nat.le_of_ble_eq_true rfl) (fun Y av g hwf hrg hp hok => ?_)
  obtain ⟨rfl, hp⟩ := hp
  show ZVV _ _ _ 0 [ZR 7 0, ZI p, ZI w, ZX 99] [] _
  have hn6 := hp.1.1.2.2.1
  refine zs_aload_n (j := 0) (i := 0) rfl rfl rfl ?_
  refine zs_iload_n (j := 1) (i := 1) rfl rfl rfl ?_
  refine zs_callV (host := "") rfl kX7_95 vX7_isPerson (c_X7_isPerson p) [ZI p] [] rfl (zroom_of (by omega)) rfl (Nat.le_of_ble_eq_true rfl) (⟨rfl, trivial⟩) (fun r_2 g_2 hq_2 => ?_)
  obtain ⟨hr_2, hg_2⟩ := hq_2
  rw [hr_2, hg_2]
  show ZVV _ _ _ 5 _ [ZI (if 0 ≤ p ∧ p < g 2 0 3 then 1 else 0)] _
  refine zs_if_ne 12 rfl (by omega) (fun hc_5 => ?_) (fun hc_5 => ?_)
  · have hh8 := (hp.1.1.2.2.2.2.2 p.toNat (by omega)).1.2
    have hhp := hp.1.2.2.1 p.toNat (by omega)
    refine zs_aload_n (j := 0) (i := 0) rfl rfl rfl ?_
    refine zs_getfield (f := 7) (k := 5) rfl rfl (trivial) ?_
    show ZVV _ _ _ _ _ (ZR 2 0 :: _) _
    refine zs_getfield (f := 2) (k := 7) rfl rfl (trivial) ?_
    show ZVV _ _ _ _ _ (ZR 18 0 :: _) _
    refine zs_iload_n (j := 1) (i := 1) rfl rfl rfl ?_
    refine zs_iald (n := 6) rfl rfl (by omega) (by omega) ?_
    refine zs_istore_n (j := 3) (i := 3) rfl rfl (by decide) (by intro r x hr; have hr2 : r = 2 := (by omega); subst hr2; intro z; cases z) ?_
    show ZVV _ _ _ _ [ZR 7 0, ZI p, ZI w, ZI (g 18 0 p.toNat)] _ _
    refine zs_aload_n (j := 0) (i := 0) rfl rfl rfl ?_
    show ZVV _ _ _ 23 _ _ _
    refine zs_getfield (f := 7) (k := 7) rfl rfl (trivial) ?_
    show ZVV _ _ _ _ _ (ZR 1 0 :: _) _
    refine zs_aload_n (j := 0) (i := 0) rfl rfl rfl ?_
    refine zs_getfield (f := 7) (k := 5) rfl rfl (trivial) ?_
    show ZVV _ _ _ _ _ (ZR 2 0 :: _) _
    refine zs_callV (host := "") rfl kX7_98 vX1_startFrom (c_X1_startFrom 0) [ZR 2 0] [] rfl (zroom_of (by omega)) rfl (Nat.le_of_ble_eq_true rfl) ⟨rfl, ⟨by decide, hp.2.1.2.1, Int.le_trans hp.2.2 (by decide)⟩, hp.1.2.1.1.1⟩ (fun r_30 g_30 hq_30 => ?_)
    obtain ⟨hr_30, hg_30⟩ := hq_30
    rw [hr_30]
    obtain ⟨hL30, hH30, hT30, hV30, hB30, hs30, eL18_30, eL3_30, eL0_30, eL8_30⟩ := start_okx hp hg_30
    have e2_30 : g_30 2 0 = g 2 0 := hV30 2 0 rfl
    have e15_30 : g_30 15 0 = g 15 0 := hV30 15 0 rfl
    have e16_30 : g_30 16 0 = g 16 0 := hV30 16 0 rfl
    have e17_30 : g_30 17 0 = g 17 0 := hV30 17 0 rfl
    have e18_30 : g_30 18 0 = g 18 0 := hV30 18 0 rfl
    have e19_30 : g_30 19 0 = g 19 0 := hV30 19 0 rfl
    show ZVV _ _ _ 33 _ [] g_30
    refine zs_iload_n (j := 2) (i := 2) rfl rfl rfl ?_
    by_cases hs_34_0 : w = 0
    · refine zs_tsIn 84 rfl (by omega) (by omega) (off := 50) (by rw [hs_34_0]; rfl) (by omega) ?_
      refine zs_aload_n (j := 0) (i := 0) rfl rfl rfl ?_
      refine zs_getfield (f := 7) (k := 5) rfl rfl (trivial) ?_
      show ZVV _ _ _ _ _ (ZR 2 0 :: _) _
      refine zs_getfield (f := 2) (k := 4) rfl rfl (trivial) ?_
      show ZVV _ _ _ _ _ (ZR 15 0 :: _) _
      refine zs_iload_n (j := 1) (i := 1) rfl rfl rfl ?_
      refine zs_iald (n := 6) rfl rfl (by omega) (by omega) ?_
      show ZVV _ _ _ _ _ (ZI (g_30 15 0 p.toNat) :: _) _
      rw [e15_30]
      exact zs_ireturn rfl rfl (⟨by unfold cOf; rw [if_neg (by omega), if_pos (by omega)], q_sl hV30 hB30 hs30 (zSL.rf _) hL30⟩)
    by_cases hs_34_1 : w = 1
    · refine zs_tsIn 94 rfl (by omega) (by omega) (off := 60) (by rw [hs_34_1]; rfl) (by omega) ?_
      refine zs_aload_n (j := 0) (i := 0) rfl rfl rfl ?_
      refine zs_getfield (f := 7) (k := 5) rfl rfl (trivial) ?_
      show ZVV _ _ _ _ _ (ZR 2 0 :: _) _
      refine zs_getfield (f := 2) (k := 5) rfl rfl (trivial) ?_
      show ZVV _ _ _ _ _ (ZR 16 0 :: _) _
      refine zs_iload_n (j := 1) (i := 1) rfl rfl rfl ?_
      refine zs_iald (n := 6) rfl rfl (by omega) (by omega) ?_
      show ZVV _ _ _ _ _ (ZI (g_30 16 0 p.toNat) :: _) _
      rw [e16_30]
      exact zs_ireturn rfl rfl (⟨by unfold cOf; rw [if_neg (by omega), if_neg (by omega), if_pos (by omega)], q_sl hV30 hB30 hs30 (zSL.rf _) hL30⟩)
    by_cases hs_34_2 : w = 2
    · refine zs_tsIn 104 rfl (by omega) (by omega) (off := 70) (by rw [hs_34_2]; rfl) (by omega) ?_
      refine zs_aload_n (j := 0) (i := 0) rfl rfl rfl ?_
      refine zs_getfield (f := 7) (k := 5) rfl rfl (trivial) ?_
      show ZVV _ _ _ _ _ (ZR 2 0 :: _) _
      refine zs_getfield (f := 2) (k := 6) rfl rfl (trivial) ?_
      show ZVV _ _ _ _ _ (ZR 17 0 :: _) _
      refine zs_iload_n (j := 1) (i := 1) rfl rfl rfl ?_
      refine zs_iald (n := 6) rfl rfl (by omega) (by omega) ?_
      show ZVV _ _ _ _ _ (ZI (g_30 17 0 p.toNat) :: _) _
      rw [e17_30]
      exact zs_ireturn rfl rfl (⟨by unfold cOf; rw [if_neg (by omega), if_neg (by omega), if_neg (by omega), if_pos (by omega)], q_sl hV30 hB30 hs30 (zSL.rf _) hL30⟩)
    by_cases hs_34_3 : w = 3
    · refine zs_tsIn 114 rfl (by omega) (by omega) (off := 80) (by rw [hs_34_3]; rfl) (by omega) ?_
      refine zs_iload_n (j := 3) (i := 3) rfl rfl rfl ?_
      exact zs_ireturn rfl rfl (⟨by unfold cOf; rw [if_neg (by omega), if_neg (by omega), if_neg (by omega), if_neg (by omega), if_pos (by omega)], q_sl hV30 hB30 hs30 (zSL.rf _) hL30⟩)
    by_cases hs_34_4 : w = 4
    · refine zs_tsIn 116 rfl (by omega) (by omega) (off := 82) (by rw [hs_34_4]; rfl) (by omega) ?_
      refine zs_aload_n (j := 0) (i := 0) rfl rfl rfl ?_
      refine zs_getfield (f := 7) (k := 7) rfl rfl (trivial) ?_
      show ZVV _ _ _ _ _ (ZR 1 0 :: _) _
      refine zs_iload_n (j := 1) (i := 1) rfl rfl rfl ?_
      refine zs_iconst (n := 0) rfl ⟨by omega, by omega⟩ ?_
      refine zs_callV (host := "") rfl kX7_111 vX1_weightOf (c_X1_weightOf p 0) [ZI p, ZI 0] [] rfl (zroom_of (by omega)) rfl (Nat.le_of_ble_eq_true rfl) (⟨rfl, hL30, ⟨by omega, by rw [eL3_30]; omega⟩, by rw [eL18_30]; exact hhp, by decide⟩) (fun r_122 g_122 hq_122 => ?_)
      obtain ⟨hr_122, hS_122, hL_122⟩ := hq_122
      rw [hr_122, hT30, eL18_30]
      show ZVV _ _ _ _ _ [ZI ((tWt (cT g) p.toNat (g 18 0 p.toNat)).1)] _
      show ZVV _ _ _ 125 _ [ZI ((tWt (cT g) p.toNat (g 18 0 p.toNat)).1)] _
      exact zs_ireturn rfl rfl (⟨by unfold cOf; rw [if_neg (by omega), if_neg (by omega), if_neg (by omega), if_neg (by omega), if_neg (by omega), if_pos (by omega)], q_sl hV30 hB30 hs30 hS_122 hL_122⟩)
    by_cases hs_34_5 : w = 5
    · refine zs_tsIn 126 rfl (by omega) (by omega) (off := 92) (by rw [hs_34_5]; rfl) (by omega) ?_
      refine zs_aload_n (j := 0) (i := 0) rfl rfl rfl ?_
      refine zs_getfield (f := 7) (k := 7) rfl rfl (trivial) ?_
      show ZVV _ _ _ _ _ (ZR 1 0 :: _) _
      refine zs_iload_n (j := 1) (i := 1) rfl rfl rfl ?_
      refine zs_iconst (n := 1) rfl ⟨by omega, by omega⟩ ?_
      refine zs_callV (host := "") rfl kX7_111 vX1_weightOf (c_X1_weightOf p 1) [ZI p, ZI 1] [] rfl (zroom_of (by omega)) rfl (Nat.le_of_ble_eq_true rfl) (⟨rfl, hL30, ⟨by omega, by rw [eL3_30]; omega⟩, by rw [eL18_30]; exact hhp, by decide⟩) (fun r_132 g_132 hq_132 => ?_)
      obtain ⟨hr_132, hS_132, hL_132⟩ := hq_132
      rw [hr_132, hT30, eL18_30]
      show ZVV _ _ _ _ _ [ZI ((tWt (cT g) p.toNat (g 18 0 p.toNat)).2.1)] _
      show ZVV _ _ _ 135 _ [ZI ((tWt (cT g) p.toNat (g 18 0 p.toNat)).2.1)] _
      exact zs_ireturn rfl rfl (⟨by unfold cOf; rw [if_neg (by omega), if_neg (by omega), if_neg (by omega), if_neg (by omega), if_neg (by omega), if_neg (by omega), if_pos (by omega)], q_sl hV30 hB30 hs30 hS_132 hL_132⟩)
    by_cases hs_34_6 : w = 6
    · refine zs_tsIn 136 rfl (by omega) (by omega) (off := 102) (by rw [hs_34_6]; rfl) (by omega) ?_
      refine zs_aload_n (j := 0) (i := 0) rfl rfl rfl ?_
      refine zs_getfield (f := 7) (k := 7) rfl rfl (trivial) ?_
      show ZVV _ _ _ _ _ (ZR 1 0 :: _) _
      refine zs_iload_n (j := 1) (i := 1) rfl rfl rfl ?_
      refine zs_iconst (n := 2) rfl ⟨by omega, by omega⟩ ?_
      refine zs_callV (host := "") rfl kX7_111 vX1_weightOf (c_X1_weightOf p 2) [ZI p, ZI 2] [] rfl (zroom_of (by omega)) rfl (Nat.le_of_ble_eq_true rfl) (⟨rfl, hL30, ⟨by omega, by rw [eL3_30]; omega⟩, by rw [eL18_30]; exact hhp, by decide⟩) (fun r_142 g_142 hq_142 => ?_)
      obtain ⟨hr_142, hS_142, hL_142⟩ := hq_142
      rw [hr_142, hT30, eL18_30]
      show ZVV _ _ _ _ _ [ZI ((tWt (cT g) p.toNat (g 18 0 p.toNat)).2.2)] _
      show ZVV _ _ _ 145 _ [ZI ((tWt (cT g) p.toNat (g 18 0 p.toNat)).2.2)] _
      exact zs_ireturn rfl rfl (⟨by unfold cOf; rw [if_neg (by omega), if_neg (by omega), if_neg (by omega), if_neg (by omega), if_neg (by omega), if_neg (by omega), if_neg (by omega), if_pos (by omega)], q_sl hV30 hB30 hs30 hS_142 hL_142⟩)
    by_cases hs_34_7 : w = 7
    · refine zs_tsIn 146 rfl (by omega) (by omega) (off := 112) (by rw [hs_34_7]; rfl) (by omega) ?_
      refine zs_aload_n (j := 0) (i := 0) rfl rfl rfl ?_
      refine zs_getfield (f := 7) (k := 7) rfl rfl (trivial) ?_
      show ZVV _ _ _ _ _ (ZR 1 0 :: _) _
      refine zs_iload_n (j := 1) (i := 1) rfl rfl rfl ?_
      refine zs_iload_n (j := 3) (i := 3) rfl rfl rfl ?_
      refine zs_callV (host := "") rfl kX7_115 vX1_suits (c_X1_suits p (g 18 0 p.toNat)) [ZI p, ZI (g 18 0 p.toNat)] [] rfl (zroom_of (by omega)) rfl (Nat.le_of_ble_eq_true rfl) (⟨rfl, hL30, ⟨by omega, by rw [eL3_30]; omega⟩, ⟨hhp, by rw [eL0_30]; exact hh8⟩⟩) (fun r_152 g_152 hq_152 => ?_)
      obtain ⟨hr_152, hS_152, hL_152, -⟩ := hq_152
      rw [hr_152, hT30]
      show ZVV _ _ _ 155 _ [ZI (if tSu (cT g) p.toNat (g 18 0 p.toNat) = true then 1 else 0)] _
      refine zs_if_eq 162 rfl (by omega) (fun hc_155 => ?_) (fun hc_155 => ?_)
      · refine zs_iconst (n := 0) rfl ⟨by omega, by omega⟩ ?_
        exact zs_ireturn rfl rfl (⟨by unfold cOf; rw [if_neg (by omega), if_neg (by omega), if_neg (by omega), if_neg (by omega), if_neg (by omega), if_neg (by omega), if_neg (by omega), if_neg (by omega), if_pos (by omega)]; first | rw [if_pos (zif1 hc_155)] | rw [if_neg (zif0 hc_155)], q_sl hV30 hB30 hs30 hS_152 hL_152⟩)
      · refine zs_iconst (n := 1) rfl ⟨by omega, by omega⟩ ?_
        refine zs_goto 163 rfl (by omega) ?_
        exact zs_ireturn rfl rfl (⟨by unfold cOf; rw [if_neg (by omega), if_neg (by omega), if_neg (by omega), if_neg (by omega), if_neg (by omega), if_neg (by omega), if_neg (by omega), if_neg (by omega), if_pos (by omega)]; first | rw [if_pos (zif1 hc_155)] | rw [if_neg (zif0 hc_155)], q_sl hV30 hB30 hs30 hS_152 hL_152⟩)
    by_cases hs_34_8 : w = 8
    · refine zs_tsIn 164 rfl (by omega) (by omega) (off := 130) (by rw [hs_34_8]; rfl) (by omega) ?_
      refine zs_aload_n (j := 0) (i := 0) rfl rfl rfl ?_
      refine zs_getfield (f := 7) (k := 7) rfl rfl (trivial) ?_
      show ZVV _ _ _ _ _ (ZR 1 0 :: _) _
      refine zs_iload_n (j := 1) (i := 1) rfl rfl rfl ?_
      refine zs_iload_n (j := 3) (i := 3) rfl rfl rfl ?_
      refine zs_callV (host := "") rfl kX7_115 vX1_suits (c_X1_suits p (g 18 0 p.toNat)) [ZI p, ZI (g 18 0 p.toNat)] [] rfl (zroom_of (by omega)) rfl (Nat.le_of_ble_eq_true rfl) (⟨rfl, hL30, ⟨by omega, by rw [eL3_30]; omega⟩, ⟨hhp, by rw [eL0_30]; exact hh8⟩⟩) (fun r_170 g_170 hq_170 => ?_)
      obtain ⟨hr_170, hS_170, hL_170, -⟩ := hq_170
      rw [hr_170, hT30]
      show ZVV _ _ _ 173 _ [ZI (if tSu (cT g) p.toNat (g 18 0 p.toNat) = true then 1 else 0)] _
      refine zs_if_eq 181 rfl (by omega) (fun hc_173 => ?_) (fun hc_173 => ?_)
      · refine zs_aload_n (j := 0) (i := 0) rfl rfl rfl ?_
        refine zs_getfield (f := 7) (k := 7) rfl rfl (trivial) ?_
        show ZVV _ _ _ _ _ (ZR 1 0 :: _) _
        refine zs_iload_n (j := 1) (i := 1) rfl rfl rfl ?_
        refine zs_callV (host := "") rfl kX7_119 vX1_goesTo (c_X1_goesTo p) [ZI p] [] rfl (zroom_of (by omega)) rfl (Nat.le_of_ble_eq_true rfl) (⟨rfl, hL_170, (fun q hq => by rw [hS_170.1 18 (by decide) (by decide) (by decide) (by decide)]; rw [hS_170.1 2 (by decide) (by decide) (by decide) (by decide)] at hq; exact hH30 q hq), ⟨by omega, by rw [hS_170.1 2 (by decide) (by decide) (by decide) (by decide), eL3_30]; omega⟩⟩) (fun r_186 g_186 hq_186 => ?_)
        obtain ⟨hr_186, hS_186, hL_186⟩ := hq_186
        rw [hr_186, hS_170.townL, hT30]
        show ZVV _ _ _ 189 _ [ZI (tGoes (cT g) p.toNat)] _
        exact zs_ireturn rfl rfl (⟨by unfold cOf; rw [if_neg (by omega), if_neg (by omega), if_neg (by omega), if_neg (by omega), if_neg (by omega), if_neg (by omega), if_neg (by omega), if_neg (by omega), if_neg (by omega), if_pos (by omega)]; first | rw [if_pos (zif1 hc_173)] | rw [if_neg (zif0 hc_173)], q_sl hV30 hB30 hs30 (hS_170.tr hS_186) hL_186⟩)
      · refine zs_bipush (n := (-5)) rfl ⟨by omega, by omega⟩ ?_
        refine zs_goto 189 rfl (by omega) ?_
        exact zs_ireturn rfl rfl (⟨by unfold cOf; rw [if_neg (by omega), if_neg (by omega), if_neg (by omega), if_neg (by omega), if_neg (by omega), if_neg (by omega), if_neg (by omega), if_neg (by omega), if_neg (by omega), if_pos (by omega)]; first | rw [if_pos (zif1 hc_173)] | rw [if_neg (zif0 hc_173)], q_sl hV30 hB30 hs30 hS_170 hL_170⟩)
    refine zs_tsOut 190 rfl (by omega) (by omega) ?_
    refine zs_sipush (n := (-10001)) rfl ⟨by omega, by omega⟩ ?_
    exact zs_ireturn rfl rfl (⟨by unfold cOf; rw [if_neg (by omega), if_neg (by omega), if_neg (by omega), if_neg (by omega), if_neg (by omega), if_neg (by omega), if_neg (by omega), if_neg (by omega), if_neg (by omega), if_neg (by omega)], q_sl hV30 hB30 hs30 (zSL.rf _) hL30⟩)
  · refine zs_sipush (n := (-10001)) rfl ⟨by omega, by omega⟩ ?_
    exact zs_ireturn rfl rfl (⟨by unfold cOf; rw [if_pos (by omega)], ⟨zVS.rf g, hp.2.1, by omega⟩⟩)

