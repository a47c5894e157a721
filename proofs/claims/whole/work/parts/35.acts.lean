def cMove (g : ZG) : Int := if 9999 ≤ g 2 0 8 then -3 else (tStep (cT g)).1
theorem c_X7_move  : ZC mX7_move 7 (fun av g => av = [ZR 7 0] ∧ CP g) (fun _ g r g' => r = some (ZI (cMove g)) ∧ ((9999 ≤ g 2 0 8 ∧ g' = g) ∨ (g 2 0 8 < 9999 ∧ ∃ M, zTL M = (tStep (cT g)).2 ∧ zLV g 2 M ∧ g' = zcopyF M 0 2))) := by
  refine zc_of gX7_move (fun av g hp => by obtain ⟨rfl, -⟩ := hp; exact Nat.le_of_ble_eq_true rfl) (fun Y av g hwf hrg hp hok => ?_)
  obtain ⟨rfl, hp⟩ := hp
  show ZVV _ _ _ 0 [ZR 7 0, ZX 99] [] _
  refine zs_aload_n (j := 0) (i := 0) rfl rfl rfl ?_
  refine zs_getfield (f := 7) (k := 5) rfl rfl (trivial) ?_
  show ZVV _ _ _ _ _ (ZR 2 0 :: _) _
  refine zs_getfield (f := 2) (k := 8) rfl rfl (trivial) ?_
  show ZVV _ _ _ _ _ (ZI (g 2 0 8) :: _) _
  refine zs_sipush (n := 9999) rfl ⟨by omega, by omega⟩ ?_
  refine zs_icmp_lt 16 rfl (by omega) (fun hc_10 => ?_) (fun hc_10 => ?_)
  · refine zs_aload_n (j := 0) (i := 0) rfl rfl rfl ?_
    refine zs_getfield (f := 7) (k := 7) rfl rfl (trivial) ?_
    show ZVV _ _ _ _ _ (ZR 1 0 :: _) _
    refine zs_aload_n (j := 0) (i := 0) rfl rfl rfl ?_
    refine zs_getfield (f := 7) (k := 5) rfl rfl (trivial) ?_
    show ZVV _ _ _ _ _ (ZR 2 0 :: _) _
    refine zs_callV (host := "") rfl kX7_98 vX1_startFrom (c_X1_startFrom 0) [ZR 2 0] [] rfl (zroom_of (by omega)) rfl (Nat.le_of_ble_eq_true rfl) ⟨rfl, ⟨by decide, hp.2.1.2.1, Int.le_trans hp.2.2 (by decide)⟩, hp.1.2.1.1.1⟩ (fun r_24 g_24 hq_24 => ?_)
    obtain ⟨hr_24, hg_24⟩ := hq_24
    rw [hr_24]
    obtain ⟨hL24, hH24, hT24, hV24, hB24, hs24, eL18_24, eL3_24, eL0_24, eL8_24⟩ := start_okx hp hg_24
    have e2_24 : g_24 2 0 = g 2 0 := hV24 2 0 rfl
    have e15_24 : g_24 15 0 = g 15 0 := hV24 15 0 rfl
    have e16_24 : g_24 16 0 = g 16 0 := hV24 16 0 rfl
    have e17_24 : g_24 17 0 = g 17 0 := hV24 17 0 rfl
    have e18_24 : g_24 18 0 = g 18 0 := hV24 18 0 rfl
    have e19_24 : g_24 19 0 = g 19 0 := hV24 19 0 rfl
    show ZVV _ _ _ 27 _ [] g_24
    refine zs_aload_n (j := 0) (i := 0) rfl rfl rfl ?_
    refine zs_getfield (f := 7) (k := 7) rfl rfl (trivial) ?_
    show ZVV _ _ _ _ _ (ZR 1 0 :: _) _
    show ZVV _ _ _ 31 _ _ _
    refine zs_callV (host := "") rfl kX7_158 vX1_step c_X1_step [] [] rfl (zroom_of (by omega)) rfl (Nat.le_of_ble_eq_true rfl) ⟨rfl, hL24, hH24, (by have := hp.1.2.2.2; omega), (by have := hp.2.2; omega)⟩ (fun r_31 g_31 hq_31 => ?_)
    obtain ⟨hr_31, hT_31, hL_31, hH_31, hS_31, hs_31⟩ := hq_31
    rw [hr_31]
    show ZVV _ _ _ 34 _ [ZI ((tStep (zTL g_24)).1)] _
    refine zs_istore_n (j := 1) (i := 1) rfl rfl (by decide) (by intro r x hr; have hr2 : r = 0 := (by omega); subst hr2; intro z; cases z) ?_
    show ZVV _ _ _ _ [ZR 7 0, ZI ((tStep (zTL g_24)).1)] _ _
    refine zs_aload_n (j := 0) (i := 0) rfl rfl rfl ?_
    refine zs_getfield (f := 7) (k := 5) rfl rfl (trivial) ?_
    show ZVV _ _ _ _ _ (ZR 2 0 :: _) _
    refine zs_aload_n (j := 0) (i := 0) rfl rfl rfl ?_
    refine zs_getfield (f := 7) (k := 7) rfl rfl (trivial) ?_
    show ZVV _ _ _ _ _ (ZR 1 0 :: _) _
    refine zs_getfield (f := 1) (k := 0) rfl rfl (trivial) ?_
    show ZVV _ _ _ _ _ (ZR 2 2 :: _) _
    have h11 := hL_31.2.1.1.1
    refine zs_callV (host := "") rfl kX7_164 vX2_copyFrom (c_X2_copyFrom 0 2) [ZR 2 2] [] rfl (zroom_of (by omega)) rfl (Nat.le_of_ble_eq_true rfl) ⟨rfl, by decide, h11⟩ (fun r_46 g_46 hq_46 => ?_)
    obtain ⟨hr_46, hg_46⟩ := hq_46
    rw [hr_46]
    show ZVV _ _ _ 49 _ [] _
    show ZVV _ _ _ 49 _ _ _
    refine zs_iload_n (j := 1) (i := 1) rfl rfl rfl ?_
    exact zs_ireturn rfl rfl (⟨by unfold cMove; rw [if_neg (by omega), hT24], Or.inr ⟨by omega, g_31, by rw [hT_31, hT24], (zLV.start hp hg_24).1.step (by decide) hT_31 hL_31 hH_31 hS_31 hs_31, hg_46⟩⟩)
  · refine zs_bipush (n := (-3)) rfl ⟨by omega, by omega⟩ ?_
    exact zs_ireturn rfl rfl (⟨by unfold cMove; rw [if_pos (by omega)], Or.inl ⟨by omega, rfl⟩⟩)

def tJudge (t : ZT) (it : Nat → Int) (ln i : Int) (n k : Nat) : Int := match n with
  | 0 => -5
  | n + 1 => if i < 0 ∨ ln - k ≤ i then 100 + (k : Int) else if (tSu t k (tho t k) = true ↔ it (i + k).toNat ≠ 0) then tJudge t it ln i n (k + 1) else (k : Int)
theorem tJudge_s (t : ZT) (it : Nat → Int) (ln i : Int) (n k : Nat) : tJudge t it ln i (n + 1) k = if i < 0 ∨ ln - k ≤ i then 100 + (k : Int) else if (tSu t k (tho t k) = true ↔ it (i + k).toNat ≠ 0) then tJudge t it ln i n (k + 1) else (k : Int) := rfl
def mact (g : ZG) (p : Int) : ZG := zup (zup (zup (zup g 0 0 3 0) 0 0 0 (g 15 0 p.toNat)) 0 0 1 (g 16 0 p.toNat)) 0 0 2 p
def cAct (g : ZG) (p a x : Int) : List Int × Int := if a = 0 then aLooks (g 16 0 p.toNat) p (g 15 0 p.toNat) x else if a = 1 then aGoes (g 15 0 p.toNat) (g 16 0 p.toNat) p (g 15 0 p.toNat) x else aTells (g 15 0 p.toNat) (g 16 0 p.toNat) p (g 15 0 p.toNat) x
def cActs (g : ZG) (p a x : Int) : Int × ZG := if ¬ (0 ≤ p ∧ p < g 2 0 3) ∨ a < 0 ∨ 2 < a then (0, zup g 0 0 3 0) else ((cAct g p a x).2, mlog (mact g p) (cAct g p a x).1)
theorem c_X7_act (p a x : Int) : ZC mX7_act 9 (fun av g => av = [ZR 7 0, ZI p, ZI a, ZI x] ∧ COK g ∧ True) (fun _ g r g' => r = some (ZI (cActs g p a x).1) ∧ g' = (cActs g p a x).2) := by
  refine zc_of gX7_act (fun av g hp => by obtain ⟨rfl, -⟩ := hp; exact Nat.le_of_ble_eq_true rfl) (fun Y av g hwf hrg hp hok => ?_)
  obtain ⟨rfl, hp⟩ := hp
  show ZVV _ _ _ 0 [ZR 7 0, ZI p, ZI a, ZI x] [] _
  have hn6 := hp.1.1.2.2.1
  refine zs_aload_n (j := 0) (i := 0) rfl rfl rfl ?_
  refine zs_getfield (f := 7) (k := 3) rfl rfl (trivial) ?_
  show ZVV _ _ _ _ _ (ZR 0 0 :: _) _
  refine zs_iconst (n := 0) rfl ⟨by omega, by omega⟩ ?_
  refine zs_putfield (f := 0) (k := 3) (x := 0) rfl rfl (rfl) ?_
  refine zs_aload_n (j := 0) (i := 0) rfl rfl rfl ?_
  refine zs_iload_n (j := 1) (i := 1) rfl rfl rfl ?_
  refine zs_callV (host := "") rfl kX7_95 vX7_isPerson (c_X7_isPerson p) [ZI p] [] rfl (zroom_of (by omega)) rfl (Nat.le_of_ble_eq_true rfl) (⟨rfl, trivial⟩) (fun r_10 g_10 hq_10 => ?_)
  obtain ⟨hr_10, hg_10⟩ := hq_10
  rw [hr_10, hg_10]
  show ZVV _ _ _ 13 _ [ZI (if 0 ≤ p ∧ p < g 2 0 3 then 1 else 0)] _
  show ZVV _ _ _ 13 _ _ _
  refine zs_if_eq 25 rfl (by omega) (fun hc_13 => ?_) (fun hc_13 => ?_)
  · refine zs_iconst (n := 0) rfl ⟨by omega, by omega⟩ ?_
    exact zs_ireturn rfl rfl (⟨by unfold cActs; rw [if_pos (by omega)], by unfold cActs; rw [if_pos (by omega)]⟩)
  · refine zs_iload_n (j := 2) (i := 2) rfl rfl rfl ?_
    refine zs_if_lt 25 rfl (by omega) (fun hc_17 => ?_) (fun hc_17 => ?_)
    · refine zs_iconst (n := 0) rfl ⟨by omega, by omega⟩ ?_
      exact zs_ireturn rfl rfl (⟨by unfold cActs; rw [if_pos (by omega)], by unfold cActs; rw [if_pos (by omega)]⟩)
    · refine zs_iload_n (j := 2) (i := 2) rfl rfl rfl ?_
      refine zs_iconst (n := 2) rfl ⟨by omega, by omega⟩ ?_
      refine zs_icmp_le 27 rfl (by omega) (fun hc_22 => ?_) (fun hc_22 => ?_)
      · refine zs_aload_n (j := 0) (i := 0) rfl rfl rfl ?_
        refine zs_getfield (f := 7) (k := 3) rfl rfl (trivial) ?_
        show ZVV _ _ _ _ _ (ZR 0 0 :: _) _
        refine zs_aload_n (j := 0) (i := 0) rfl rfl rfl ?_
        refine zs_getfield (f := 7) (k := 5) rfl rfl (trivial) ?_
        show ZVV _ _ _ _ _ (ZR 2 0 :: _) _
        refine zs_getfield (f := 2) (k := 4) rfl rfl (trivial) ?_
        show ZVV _ _ _ _ _ (ZR 15 0 :: _) _
        refine zs_iload_n (j := 1) (i := 1) rfl rfl rfl ?_
        refine zs_iald (n := 6) rfl rfl (by omega) (by omega) ?_
        show ZVV _ _ _ _ _ (ZI (g 15 0 p.toNat) :: _) _
        show ZVV _ _ _ 40 _ _ _
        refine zs_putfield (f := 0) (k := 0) (x := g 15 0 p.toNat) rfl rfl (rfl) ?_
        refine zs_aload_n (j := 0) (i := 0) rfl rfl rfl ?_
        refine zs_getfield (f := 7) (k := 3) rfl rfl (trivial) ?_
        show ZVV _ _ _ _ _ (ZR 0 0 :: _) _
        refine zs_aload_n (j := 0) (i := 0) rfl rfl rfl ?_
        refine zs_getfield (f := 7) (k := 5) rfl rfl (trivial) ?_
        show ZVV _ _ _ _ _ (ZR 2 0 :: _) _
        refine zs_getfield (f := 2) (k := 5) rfl rfl (trivial) ?_
        show ZVV _ _ _ _ _ (ZR 16 0 :: _) _
        refine zs_iload_n (j := 1) (i := 1) rfl rfl rfl ?_
        refine zs_iald (n := 6) rfl rfl (by omega) (by omega) ?_
        show ZVV _ _ _ _ _ (ZI (g 16 0 p.toNat) :: _) _
        show ZVV _ _ _ 56 _ _ _
        refine zs_putfield (f := 0) (k := 1) (x := g 16 0 p.toNat) rfl rfl (rfl) ?_
        refine zs_aload_n (j := 0) (i := 0) rfl rfl rfl ?_
        refine zs_getfield (f := 7) (k := 3) rfl rfl (trivial) ?_
        show ZVV _ _ _ _ _ (ZR 0 0 :: _) _
        refine zs_iload_n (j := 1) (i := 1) rfl rfl rfl ?_
        refine zs_putfield (f := 0) (k := 2) (x := p) rfl rfl (rfl) ?_
        refine zs_iload_n (j := 2) (i := 2) rfl rfl rfl ?_
        by_cases hs_68_0 : a = 0
        · refine zs_ls 96 rfl rfl (off := 28) (by rw [hs_68_0]; rfl) (by omega) ?_
          refine zs_aload_n (j := 0) (i := 0) rfl rfl rfl ?_
          refine zs_getfield (f := 7) (k := 3) rfl rfl (trivial) ?_
          show ZVV _ _ _ _ _ (ZR 0 0 :: _) _
          refine zs_aload_n (j := 0) (i := 0) rfl rfl rfl ?_
          refine zs_getfield (f := 7) (k := 3) rfl rfl (trivial) ?_
          show ZVV _ _ _ _ _ (ZR 0 0 :: _) _
          refine zs_getfield (f := 0) (k := 0) rfl rfl (trivial) ?_
          show ZVV _ _ _ _ _ (ZI (g 15 0 p.toNat) :: _) _
          refine zs_iload_n (j := 3) (i := 3) rfl rfl rfl ?_
          refine zs_callSN rfl kX7_236 sX0_looks (c_X0_looks (g 15 0 p.toNat) (g 16 0 p.toNat) p (g 15 0 p.toNat) x) [ZR 0 0, ZI (g 15 0 p.toNat), ZI x] [] rfl (zroom_of (by omega)) rfl (Nat.le_of_ble_eq_true rfl) ⟨rfl, ⟨show (-100 : Int) ≤ 0 by decide, show (0 : Int) ≤ _ by decide⟩, rfl, rfl, rfl⟩ (fun r_108 g_108 hq_108 => ?_)
          obtain ⟨hr_108, hg_108⟩ := hq_108
          rw [hr_108]
          show ZVV _ _ _ 111 _ [ZI (aLooks (g 16 0 p.toNat) p (g 15 0 p.toNat) x).2] _
          show ZVV _ _ _ 111 _ _ _
          exact zs_ireturn rfl rfl (⟨by unfold cActs; rw [if_neg (by omega)]; unfold cAct; rw [if_pos (by omega)], by unfold cActs; rw [if_neg (by omega)]; unfold cAct; rw [if_pos (by omega)]; exact hg_108⟩)
        by_cases hs_68_1 : a = 1
        · refine zs_ls 112 rfl rfl (off := 44) (by rw [hs_68_1]; rfl) (by omega) ?_
          refine zs_aload_n (j := 0) (i := 0) rfl rfl rfl ?_
          refine zs_getfield (f := 7) (k := 3) rfl rfl (trivial) ?_
          show ZVV _ _ _ _ _ (ZR 0 0 :: _) _
          refine zs_aload_n (j := 0) (i := 0) rfl rfl rfl ?_
          refine zs_getfield (f := 7) (k := 3) rfl rfl (trivial) ?_
          show ZVV _ _ _ _ _ (ZR 0 0 :: _) _
          refine zs_getfield (f := 0) (k := 0) rfl rfl (trivial) ?_
          show ZVV _ _ _ _ _ (ZI (g 15 0 p.toNat) :: _) _
          refine zs_iload_n (j := 3) (i := 3) rfl rfl rfl ?_
          refine zs_callSN rfl kX7_240 sX0_goes (c_X0_goes (g 15 0 p.toNat) (g 16 0 p.toNat) p (g 15 0 p.toNat) x) [ZR 0 0, ZI (g 15 0 p.toNat), ZI x] [] rfl (zroom_of (by omega)) rfl (Nat.le_of_ble_eq_true rfl) ⟨rfl, ⟨show (-100 : Int) ≤ 0 by decide, show (0 : Int) ≤ _ by decide⟩, rfl, rfl, rfl⟩ (fun r_124 g_124 hq_124 => ?_)
          obtain ⟨hr_124, hg_124⟩ := hq_124
          rw [hr_124]
          show ZVV _ _ _ 127 _ [ZI (aGoes (g 15 0 p.toNat) (g 16 0 p.toNat) p (g 15 0 p.toNat) x).2] _
          show ZVV _ _ _ 127 _ _ _
          exact zs_ireturn rfl rfl (⟨by unfold cActs; rw [if_neg (by omega)]; unfold cAct; rw [if_neg (by omega), if_pos (by omega)], by unfold cActs; rw [if_neg (by omega)]; unfold cAct; rw [if_neg (by omega), if_pos (by omega)]; exact hg_124⟩)
        refine zs_ls 128 rfl rfl (off := 60) (by rw [zs_off (by omega)]; rw [zs_off (by omega)]; rfl) (by omega) ?_
        refine zs_aload_n (j := 0) (i := 0) rfl rfl rfl ?_
        refine zs_getfield (f := 7) (k := 3) rfl rfl (trivial) ?_
        show ZVV _ _ _ _ _ (ZR 0 0 :: _) _
        refine zs_aload_n (j := 0) (i := 0) rfl rfl rfl ?_
        refine zs_getfield (f := 7) (k := 3) rfl rfl (trivial) ?_
        show ZVV _ _ _ _ _ (ZR 0 0 :: _) _
        refine zs_getfield (f := 0) (k := 0) rfl rfl (trivial) ?_
        show ZVV _ _ _ _ _ (ZI (g 15 0 p.toNat) :: _) _
        refine zs_iload_n (j := 3) (i := 3) rfl rfl rfl ?_
        refine zs_callSN rfl kX7_243 sX0_tells (c_X0_tells (g 15 0 p.toNat) (g 16 0 p.toNat) p (g 15 0 p.toNat) x) [ZR 0 0, ZI (g 15 0 p.toNat), ZI x] [] rfl (zroom_of (by omega)) rfl (Nat.le_of_ble_eq_true rfl) ⟨rfl, ⟨show (-100 : Int) ≤ 0 by decide, show (0 : Int) ≤ _ by decide⟩, rfl, rfl, rfl⟩ (fun r_140 g_140 hq_140 => ?_)
        obtain ⟨hr_140, hg_140⟩ := hq_140
        rw [hr_140]
        show ZVV _ _ _ 143 _ [ZI (aTells (g 15 0 p.toNat) (g 16 0 p.toNat) p (g 15 0 p.toNat) x).2] _
        show ZVV _ _ _ 143 _ _ _
        exact zs_ireturn rfl rfl (⟨by unfold cActs; rw [if_neg (by omega)]; unfold cAct; rw [if_neg (by omega), if_neg (by omega)], by unfold cActs; rw [if_neg (by omega)]; unfold cAct; rw [if_neg (by omega), if_neg (by omega)]; exact hg_140⟩)
      · refine zs_iconst (n := 0) rfl ⟨by omega, by omega⟩ ?_
        exact zs_ireturn rfl rfl (⟨by unfold cActs; rw [if_pos (by omega)], by unfold cActs; rw [if_pos (by omega)]⟩)

