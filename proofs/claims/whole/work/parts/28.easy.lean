theorem c_X7_isHouse (h : Int) : ZC mX7_isHouse 1 (fun av g => av = [ZR 7 0, ZI h] ∧ True) (fun _ g r g' => r = some (ZI (if 0 ≤ h ∧ h < g 2 0 0 then 1 else 0)) ∧ g' = g) := by
  refine zc_of gX7_isHouse (fun av g hp => by obtain ⟨rfl, -⟩ := hp; exact Nat.le_of_ble_eq_true rfl) (fun Y av g hwf hrg hp hok => ?_)
  obtain ⟨rfl, hp⟩ := hp
  show ZVV _ _ _ 0 [ZR 7 0, ZI h] [] _
  refine zs_iload_n (j := 1) (i := 1) rfl rfl rfl ?_
  refine zs_if_lt 19 rfl (by omega) (fun hc_1 => ?_) (fun hc_1 => ?_)
  · refine zs_iconst (n := 0) rfl ⟨by omega, by omega⟩ ?_
    exact zs_zreturn rfl rfl (by omega) (⟨by first | rw [if_pos (by omega)] | rw [if_neg (by omega)], rfl⟩)
  · refine zs_iload_n (j := 1) (i := 1) rfl rfl rfl ?_
    refine zs_aload_n (j := 0) (i := 0) rfl rfl rfl ?_
    refine zs_getfield (f := 7) (k := 5) rfl rfl (trivial) ?_
    show ZVV _ _ _ _ _ (ZR 2 0 :: _) _
    refine zs_getfield (f := 2) (k := 0) rfl rfl (trivial) ?_
    show ZVV _ _ _ _ _ (ZI (g 2 0 0) :: _) _
    refine zs_icmp_ge 19 rfl (by omega) (fun hc_12 => ?_) (fun hc_12 => ?_)
    · refine zs_iconst (n := 0) rfl ⟨by omega, by omega⟩ ?_
      exact zs_zreturn rfl rfl (by omega) (⟨by first | rw [if_pos (by omega)] | rw [if_neg (by omega)], rfl⟩)
    · refine zs_iconst (n := 1) rfl ⟨by omega, by omega⟩ ?_
      refine zs_goto 20 rfl (by omega) ?_
      exact zs_zreturn rfl rfl (by omega) (⟨by first | rw [if_pos (by omega)] | rw [if_neg (by omega)], rfl⟩)

theorem c_X7_isPerson (h : Int) : ZC mX7_isPerson 1 (fun av g => av = [ZR 7 0, ZI h] ∧ True) (fun _ g r g' => r = some (ZI (if 0 ≤ h ∧ h < g 2 0 3 then 1 else 0)) ∧ g' = g) := by
  refine zc_of gX7_isPerson (fun av g hp => by obtain ⟨rfl, -⟩ := hp; exact Nat.le_of_ble_eq_true rfl) (fun Y av g hwf hrg hp hok => ?_)
  obtain ⟨rfl, hp⟩ := hp
  show ZVV _ _ _ 0 [ZR 7 0, ZI h] [] _
  refine zs_iload_n (j := 1) (i := 1) rfl rfl rfl ?_
  refine zs_if_lt 19 rfl (by omega) (fun hc_1 => ?_) (fun hc_1 => ?_)
  · refine zs_iconst (n := 0) rfl ⟨by omega, by omega⟩ ?_
    exact zs_zreturn rfl rfl (by omega) (⟨by first | rw [if_pos (by omega)] | rw [if_neg (by omega)], rfl⟩)
  · refine zs_iload_n (j := 1) (i := 1) rfl rfl rfl ?_
    refine zs_aload_n (j := 0) (i := 0) rfl rfl rfl ?_
    refine zs_getfield (f := 7) (k := 5) rfl rfl (trivial) ?_
    show ZVV _ _ _ _ _ (ZR 2 0 :: _) _
    refine zs_getfield (f := 2) (k := 3) rfl rfl (trivial) ?_
    show ZVV _ _ _ _ _ (ZI (g 2 0 3) :: _) _
    refine zs_icmp_ge 19 rfl (by omega) (fun hc_12 => ?_) (fun hc_12 => ?_)
    · refine zs_iconst (n := 0) rfl ⟨by omega, by omega⟩ ?_
      exact zs_zreturn rfl rfl (by omega) (⟨by first | rw [if_pos (by omega)] | rw [if_neg (by omega)], rfl⟩)
    · refine zs_iconst (n := 1) rfl ⟨by omega, by omega⟩ ?_
      refine zs_goto 20 rfl (by omega) ?_
      exact zs_zreturn rfl rfl (by omega) (⟨by first | rw [if_pos (by omega)] | rw [if_neg (by omega)], rfl⟩)

theorem c_X7_isTape (h : Int) : ZC mX7_isTape 1 (fun av g => av = [ZI h] ∧ True) (fun _ g r g' => r = some (ZI (if 0 ≤ h ∧ h < 6 then 1 else 0)) ∧ g' = g) := by
  refine zc_of gX7_isTape (fun av g hp => by obtain ⟨rfl, -⟩ := hp; exact Nat.le_of_ble_eq_true rfl) (fun Y av g hwf hrg hp hok => ?_)
  obtain ⟨rfl, hp⟩ := hp
  show ZVV _ _ _ 0 [ZI h] [] _
  refine zs_iload_n (j := 0) (i := 0) rfl rfl rfl ?_
  refine zs_if_lt 14 rfl (by omega) (fun hc_1 => ?_) (fun hc_1 => ?_)
  · refine zs_iconst (n := 0) rfl ⟨by omega, by omega⟩ ?_
    exact zs_zreturn rfl rfl (by omega) (⟨by first | rw [if_pos (by omega)] | rw [if_neg (by omega)], rfl⟩)
  · refine zs_iload_n (j := 0) (i := 0) rfl rfl rfl ?_
    refine zs_bipush (n := 6) rfl ⟨by omega, by omega⟩ ?_
    refine zs_icmp_ge 14 rfl (by omega) (fun hc_7 => ?_) (fun hc_7 => ?_)
    · refine zs_iconst (n := 0) rfl ⟨by omega, by omega⟩ ?_
      exact zs_zreturn rfl rfl (by omega) (⟨by first | rw [if_pos (by omega)] | rw [if_neg (by omega)], rfl⟩)
    · refine zs_iconst (n := 1) rfl ⟨by omega, by omega⟩ ?_
      refine zs_goto 15 rfl (by omega) ?_
      exact zs_zreturn rfl rfl (by omega) (⟨by first | rw [if_pos (by omega)] | rw [if_neg (by omega)], rfl⟩)

def cNei (g : ZG) (h : Int) : Int × ZG := if 0 ≤ h ∧ h < g 2 0 0 then (g 14 0 h.toNat, g) else (-1, g)
theorem c_X7_neighbours (h : Int) : ZC mX7_neighbours 2 (fun av g => av = [ZR 7 0, ZI h] ∧ g 2 0 0 ≤ 8) (fun _ g r g' => r = some (ZI (cNei g h).1) ∧ g' = (cNei g h).2) := by
  refine zc_of gX7_neighbours (fun av g hp => by obtain ⟨rfl, -⟩ := hp; exact Nat.le_of_ble_eq_true rfl) (fun Y av g hwf hrg hp hok => ?_)
  obtain ⟨rfl, hp⟩ := hp
  show ZVV _ _ _ 0 [ZR 7 0, ZI h] [] _
  refine zs_aload_n (j := 0) (i := 0) rfl rfl rfl ?_
  refine zs_iload_n (j := 1) (i := 1) rfl rfl rfl ?_
  refine zs_callV (host := "") rfl kX7_80 vX7_isHouse (c_X7_isHouse h) [ZI h] [] rfl (zroom_of (by omega)) rfl (Nat.le_of_ble_eq_true rfl) (⟨rfl, trivial⟩) (fun r_2 g_2 hq_2 => ?_)
  obtain ⟨hr_2, hg_2⟩ := hq_2
  rw [hr_2, hg_2]
  show ZVV _ _ _ 5 _ [ZI (if 0 ≤ h ∧ h < g 2 0 0 then 1 else 0)] _
  refine zs_if_eq 20 rfl (by omega) (fun hc_5 => ?_) (fun hc_5 => ?_)
  · refine zs_iconst (n := (-1)) rfl ⟨by omega, by omega⟩ ?_
    exact zs_ireturn rfl rfl (by unfold cNei; first | (rw [if_pos (by omega)]; exact ⟨rfl, rfl⟩) | (rw [if_neg (by omega)]; exact ⟨rfl, rfl⟩))
  · refine zs_aload_n (j := 0) (i := 0) rfl rfl rfl ?_
    refine zs_getfield (f := 7) (k := 5) rfl rfl (trivial) ?_
    show ZVV _ _ _ _ _ (ZR 2 0 :: _) _
    refine zs_getfield (f := 2) (k := 2) rfl rfl (trivial) ?_
    show ZVV _ _ _ _ _ (ZR 14 0 :: _) _
    refine zs_iload_n (j := 1) (i := 1) rfl rfl rfl ?_
    refine zs_iald (n := 8) rfl rfl (by omega) (by omega) ?_
    refine zs_goto 21 rfl (by omega) ?_
    exact zs_ireturn rfl rfl (by unfold cNei; first | (rw [if_pos (by omega)]; exact ⟨rfl, rfl⟩) | (rw [if_neg (by omega)]; exact ⟨rfl, rfl⟩))

def cPut (g : ZG) (p h : Int) : Int × ZG := if ¬ (0 ≤ p ∧ p < g 2 0 3) ∨ ¬ (0 ≤ h ∧ h < g 2 0 0) then (-1, g) else if zwho (g 2 0 3) (g 18 0) h ≠ -1 then (-3, g) else (g 18 0 p.toNat, zup g 18 0 p.toNat h)
theorem c_X7_put (p h : Int) : ZC mX7_put 2 (fun av g => av = [ZR 7 0, ZI p, ZI h] ∧ (0 ≤ g 2 0 3 ∧ g 2 0 3 ≤ 6) ∧ True) (fun _ g r g' => r = some (ZI (cPut g p h).1) ∧ g' = (cPut g p h).2) := by
  refine zc_of gX7_put (fun av g hp => by obtain ⟨rfl, -⟩ := hp; exact Nat.le_of_ble_eq_true rfl) (fun Y av g hwf hrg hp hok => ?_)
  obtain ⟨rfl, hp⟩ := hp
  show ZVV _ _ _ 0 [ZR 7 0, ZI p, ZI h, ZX 99] [] _
  have hn6 := hp.1
  refine zs_aload_n (j := 0) (i := 0) rfl rfl rfl ?_
  refine zs_iload_n (j := 1) (i := 1) rfl rfl rfl ?_
  refine zs_callV (host := "") rfl kX7_95 vX7_isPerson (c_X7_isPerson p) [ZI p] [] rfl (zroom_of (by omega)) rfl (Nat.le_of_ble_eq_true rfl) (⟨rfl, trivial⟩) (fun r_2 g_2 hq_2 => ?_)
  obtain ⟨hr_2, hg_2⟩ := hq_2
  rw [hr_2, hg_2]
  show ZVV _ _ _ 5 _ [ZI (if 0 ≤ p ∧ p < g 2 0 3 then 1 else 0)] _
  refine zs_if_eq 16 rfl (by omega) (fun hc_5 => ?_) (fun hc_5 => ?_)
  · refine zs_iconst (n := (-1)) rfl ⟨by omega, by omega⟩ ?_
    exact zs_ireturn rfl rfl (by unfold cPut; first | (rw [if_pos (by omega)]; exact ⟨rfl, rfl⟩) | (rw [if_neg (by omega), if_pos (by omega)]; exact ⟨rfl, rfl⟩) | (rw [if_neg (by omega), if_neg (by omega)]; exact ⟨rfl, rfl⟩))
  · refine zs_aload_n (j := 0) (i := 0) rfl rfl rfl ?_
    refine zs_iload_n (j := 2) (i := 2) rfl rfl rfl ?_
    refine zs_callV (host := "") rfl kX7_80 vX7_isHouse (c_X7_isHouse h) [ZI h] [] rfl (zroom_of (by omega)) rfl (Nat.le_of_ble_eq_true rfl) (⟨rfl, trivial⟩) (fun r_10 g_10 hq_10 => ?_)
    obtain ⟨hr_10, hg_10⟩ := hq_10
    rw [hr_10, hg_10]
    show ZVV _ _ _ 13 _ [ZI (if 0 ≤ h ∧ h < g 2 0 0 then 1 else 0)] _
    refine zs_if_ne 18 rfl (by omega) (fun hc_13 => ?_) (fun hc_13 => ?_)
    · refine zs_aload_n (j := 0) (i := 0) rfl rfl rfl ?_
      refine zs_getfield (f := 7) (k := 5) rfl rfl (trivial) ?_
      show ZVV _ _ _ _ _ (ZR 2 0 :: _) _
      refine zs_iload_n (j := 2) (i := 2) rfl rfl rfl ?_
      refine zs_callV (host := "") rfl kX7_87 vX2_whoIn (c_X2_whoIn 0 h) [ZI h] [] rfl (zroom_of (by omega)) rfl (Nat.le_of_ble_eq_true rfl) (⟨rfl, hp.1⟩) (fun r_23 g_23 hq_23 => ?_)
      obtain ⟨hr_23, hg_23⟩ := hq_23
      rw [hr_23, hg_23]
      show ZVV _ _ _ 26 _ [ZI (zwho (g 2 0 3) (g 18 0) h)] _
      refine zs_iconst (n := (-1)) rfl ⟨by omega, by omega⟩ ?_
      refine zs_icmp_eq 33 rfl (by omega) (fun hc_27 => ?_) (fun hc_27 => ?_)
      · refine zs_aload_n (j := 0) (i := 0) rfl rfl rfl ?_
        refine zs_getfield (f := 7) (k := 5) rfl rfl (trivial) ?_
        show ZVV _ _ _ _ _ (ZR 2 0 :: _) _
        refine zs_getfield (f := 2) (k := 7) rfl rfl (trivial) ?_
        show ZVV _ _ _ _ _ (ZR 18 0 :: _) _
        refine zs_iload_n (j := 1) (i := 1) rfl rfl rfl ?_
        refine zs_iald (n := 6) rfl rfl (by omega) (by omega) ?_
        refine zs_istore_n (j := 3) (i := 3) rfl rfl (by decide) (by intro r x hr; have hr2 : r = 2 := (by omega); subst hr2; intro z; cases z) ?_
        show ZVV _ _ _ _ [ZR 7 0, ZI p, ZI h, ZI (g 18 0 p.toNat)] _ _
        refine zs_aload_n (j := 0) (i := 0) rfl rfl rfl ?_
        show ZVV _ _ _ 44 _ _ _
        refine zs_getfield (f := 7) (k := 5) rfl rfl (trivial) ?_
        show ZVV _ _ _ _ _ (ZR 2 0 :: _) _
        refine zs_getfield (f := 2) (k := 7) rfl rfl (trivial) ?_
        show ZVV _ _ _ _ _ (ZR 18 0 :: _) _
        refine zs_iload_n (j := 1) (i := 1) rfl rfl rfl ?_
        refine zs_iload_n (j := 2) (i := 2) rfl rfl rfl ?_
        refine zs_iast (n := 6) rfl rfl (by omega) (by omega) ?_
        refine zs_iload_n (j := 3) (i := 3) rfl rfl rfl ?_
        exact zs_ireturn rfl rfl (by unfold cPut; first | (rw [if_pos (by omega)]; exact ⟨rfl, rfl⟩) | (rw [if_neg (by omega), if_pos (by omega)]; exact ⟨rfl, rfl⟩) | (rw [if_neg (by omega), if_neg (by omega)]; exact ⟨rfl, rfl⟩))
      · refine zs_bipush (n := (-3)) rfl ⟨by omega, by omega⟩ ?_
        exact zs_ireturn rfl rfl (by unfold cPut; first | (rw [if_pos (by omega)]; exact ⟨rfl, rfl⟩) | (rw [if_neg (by omega), if_pos (by omega)]; exact ⟨rfl, rfl⟩) | (rw [if_neg (by omega), if_neg (by omega)]; exact ⟨rfl, rfl⟩))
    · refine zs_iconst (n := (-1)) rfl ⟨by omega, by omega⟩ ?_
      exact zs_ireturn rfl rfl (by unfold cPut; first | (rw [if_pos (by omega)]; exact ⟨rfl, rfl⟩) | (rw [if_neg (by omega), if_pos (by omega)]; exact ⟨rfl, rfl⟩) | (rw [if_neg (by omega), if_neg (by omega)]; exact ⟨rfl, rfl⟩))

def cPer (g : ZG) (k v s h : Int) : Int × ZG := if (k < 0 ∨ 6 < k) ∨ (s < 0 ∨ 2 < s) ∨ ¬ (0 ≤ h ∧ h < g 2 0 0) then (-1, g) else if v < 0 ∨ 9 < v then (-2, g) else if zwho (g 2 0 3) (g 18 0) h ≠ -1 then (-3, g) else if 6 ≤ g 2 0 3 then (-4, g) else (g 2 0 3, zup (zup (zup (zup (zup g 15 0 (g 2 0 3).toNat k) 16 0 (g 2 0 3).toNat v) 17 0 (g 2 0 3).toNat s) 18 0 (g 2 0 3).toNat h) 2 0 3 (g 2 0 3 + 1))
theorem c_X7_person (k v s h : Int) : ZC mX7_person 2 (fun av g => av = [ZR 7 0, ZI k, ZI v, ZI s, ZI h] ∧ (0 ≤ g 2 0 3 ∧ g 2 0 3 ≤ 6) ∧ True) (fun _ g r g' => r = some (ZI (cPer g k v s h).1) ∧ g' = (cPer g k v s h).2) := by
  refine zc_of gX7_person (fun av g hp => by obtain ⟨rfl, -⟩ := hp; exact Nat.le_of_ble_eq_true rfl) (fun Y av g hwf hrg hp hok => ?_)
  obtain ⟨rfl, hp⟩ := hp
  show ZVV _ _ _ 0 [ZR 7 0, ZI k, ZI v, ZI s, ZI h] [] _
  have hn6 := hp.1
  refine zs_iload_n (j := 1) (i := 1) rfl rfl rfl ?_
  refine zs_if_lt 28 rfl (by omega) (fun hc_1 => ?_) (fun hc_1 => ?_)
  · refine zs_iconst (n := (-1)) rfl ⟨by omega, by omega⟩ ?_
    exact zs_ireturn rfl rfl (by unfold cPer; first | (rw [if_pos (by omega)]; exact ⟨rfl, rfl⟩) | (rw [if_neg (by omega), if_pos (by omega)]; exact ⟨rfl, rfl⟩) | (rw [if_neg (by omega), if_neg (by omega), if_pos (by omega)]; exact ⟨rfl, rfl⟩) | (rw [if_neg (by omega), if_neg (by omega), if_neg (by omega), if_pos (by omega)]; exact ⟨rfl, rfl⟩) | (rw [if_neg (by omega), if_neg (by omega), if_neg (by omega), if_neg (by omega)]; exact ⟨rfl, rfl⟩))
  · refine zs_iload_n (j := 1) (i := 1) rfl rfl rfl ?_
    refine zs_bipush (n := 6) rfl ⟨by omega, by omega⟩ ?_
    refine zs_icmp_gt 28 rfl (by omega) (fun hc_7 => ?_) (fun hc_7 => ?_)
    · refine zs_iconst (n := (-1)) rfl ⟨by omega, by omega⟩ ?_
      exact zs_ireturn rfl rfl (by unfold cPer; first | (rw [if_pos (by omega)]; exact ⟨rfl, rfl⟩) | (rw [if_neg (by omega), if_pos (by omega)]; exact ⟨rfl, rfl⟩) | (rw [if_neg (by omega), if_neg (by omega), if_pos (by omega)]; exact ⟨rfl, rfl⟩) | (rw [if_neg (by omega), if_neg (by omega), if_neg (by omega), if_pos (by omega)]; exact ⟨rfl, rfl⟩) | (rw [if_neg (by omega), if_neg (by omega), if_neg (by omega), if_neg (by omega)]; exact ⟨rfl, rfl⟩))
    · refine zs_iload_n (j := 3) (i := 3) rfl rfl rfl ?_
      refine zs_if_lt 28 rfl (by omega) (fun hc_11 => ?_) (fun hc_11 => ?_)
      · refine zs_iconst (n := (-1)) rfl ⟨by omega, by omega⟩ ?_
        exact zs_ireturn rfl rfl (by unfold cPer; first | (rw [if_pos (by omega)]; exact ⟨rfl, rfl⟩) | (rw [if_neg (by omega), if_pos (by omega)]; exact ⟨rfl, rfl⟩) | (rw [if_neg (by omega), if_neg (by omega), if_pos (by omega)]; exact ⟨rfl, rfl⟩) | (rw [if_neg (by omega), if_neg (by omega), if_neg (by omega), if_pos (by omega)]; exact ⟨rfl, rfl⟩) | (rw [if_neg (by omega), if_neg (by omega), if_neg (by omega), if_neg (by omega)]; exact ⟨rfl, rfl⟩))
      · refine zs_iload_n (j := 3) (i := 3) rfl rfl rfl ?_
        refine zs_iconst (n := 2) rfl ⟨by omega, by omega⟩ ?_
        refine zs_icmp_gt 28 rfl (by omega) (fun hc_16 => ?_) (fun hc_16 => ?_)
        · refine zs_iconst (n := (-1)) rfl ⟨by omega, by omega⟩ ?_
          exact zs_ireturn rfl rfl (by unfold cPer; first | (rw [if_pos (by omega)]; exact ⟨rfl, rfl⟩) | (rw [if_neg (by omega), if_pos (by omega)]; exact ⟨rfl, rfl⟩) | (rw [if_neg (by omega), if_neg (by omega), if_pos (by omega)]; exact ⟨rfl, rfl⟩) | (rw [if_neg (by omega), if_neg (by omega), if_neg (by omega), if_pos (by omega)]; exact ⟨rfl, rfl⟩) | (rw [if_neg (by omega), if_neg (by omega), if_neg (by omega), if_neg (by omega)]; exact ⟨rfl, rfl⟩))
        · refine zs_aload_n (j := 0) (i := 0) rfl rfl rfl ?_
          refine zs_iload (i := 4) rfl rfl ?_
          refine zs_callV (host := "") rfl kX7_80 vX7_isHouse (c_X7_isHouse h) [ZI h] [] rfl (zroom_of (by omega)) rfl (Nat.le_of_ble_eq_true rfl) (⟨rfl, trivial⟩) (fun r_22 g_22 hq_22 => ?_)
          obtain ⟨hr_22, hg_22⟩ := hq_22
          rw [hr_22, hg_22]
          show ZVV _ _ _ 25 _ [ZI (if 0 ≤ h ∧ h < g 2 0 0 then 1 else 0)] _
          refine zs_if_ne 30 rfl (by omega) (fun hc_25 => ?_) (fun hc_25 => ?_)
          · refine zs_iload_n (j := 2) (i := 2) rfl rfl rfl ?_
            refine zs_if_lt 40 rfl (by omega) (fun hc_31 => ?_) (fun hc_31 => ?_)
            · refine zs_bipush (n := (-2)) rfl ⟨by omega, by omega⟩ ?_
              exact zs_ireturn rfl rfl (by unfold cPer; first | (rw [if_pos (by omega)]; exact ⟨rfl, rfl⟩) | (rw [if_neg (by omega), if_pos (by omega)]; exact ⟨rfl, rfl⟩) | (rw [if_neg (by omega), if_neg (by omega), if_pos (by omega)]; exact ⟨rfl, rfl⟩) | (rw [if_neg (by omega), if_neg (by omega), if_neg (by omega), if_pos (by omega)]; exact ⟨rfl, rfl⟩) | (rw [if_neg (by omega), if_neg (by omega), if_neg (by omega), if_neg (by omega)]; exact ⟨rfl, rfl⟩))
            · refine zs_iload_n (j := 2) (i := 2) rfl rfl rfl ?_
              refine zs_bipush (n := 9) rfl ⟨by omega, by omega⟩ ?_
              refine zs_icmp_le 43 rfl (by omega) (fun hc_37 => ?_) (fun hc_37 => ?_)
              · refine zs_aload_n (j := 0) (i := 0) rfl rfl rfl ?_
                refine zs_getfield (f := 7) (k := 5) rfl rfl (trivial) ?_
                show ZVV _ _ _ _ _ (ZR 2 0 :: _) _
                refine zs_iload (i := 4) rfl rfl ?_
                refine zs_callV (host := "") rfl kX7_87 vX2_whoIn (c_X2_whoIn 0 h) [ZI h] [] rfl (zroom_of (by omega)) rfl (Nat.le_of_ble_eq_true rfl) (⟨rfl, hp.1⟩) (fun r_49 g_49 hq_49 => ?_)
                obtain ⟨hr_49, hg_49⟩ := hq_49
                rw [hr_49, hg_49]
                show ZVV _ _ _ 52 _ [ZI (zwho (g 2 0 3) (g 18 0) h)] _
                refine zs_iconst (n := (-1)) rfl ⟨by omega, by omega⟩ ?_
                refine zs_icmp_eq 59 rfl (by omega) (fun hc_53 => ?_) (fun hc_53 => ?_)
                · refine zs_aload_n (j := 0) (i := 0) rfl rfl rfl ?_
                  refine zs_getfield (f := 7) (k := 5) rfl rfl (trivial) ?_
                  show ZVV _ _ _ _ _ (ZR 2 0 :: _) _
                  refine zs_getfield (f := 2) (k := 3) rfl rfl (trivial) ?_
                  show ZVV _ _ _ _ _ (ZI (g 2 0 3) :: _) _
                  refine zs_bipush (n := 6) rfl ⟨by omega, by omega⟩ ?_
                  refine zs_icmp_lt 74 rfl (by omega) (fun hc_68 => ?_) (fun hc_68 => ?_)
                  · refine zs_aload_n (j := 0) (i := 0) rfl rfl rfl ?_
                    refine zs_getfield (f := 7) (k := 5) rfl rfl (trivial) ?_
                    show ZVV _ _ _ _ _ (ZR 2 0 :: _) _
                    refine zs_iload_n (j := 1) (i := 1) rfl rfl rfl ?_
                    refine zs_iload_n (j := 2) (i := 2) rfl rfl rfl ?_
                    refine zs_iload_n (j := 3) (i := 3) rfl rfl rfl ?_
                    refine zs_iload (i := 4) rfl rfl ?_
                    refine zs_callV (host := "") rfl kX7_91 vX2_settle (c_X2_settle 0 k v s h) [ZI k, ZI v, ZI s, ZI h] [] rfl (zroom_of (by omega)) rfl (Nat.le_of_ble_eq_true rfl) (⟨rfl, by omega, by omega⟩) (fun r_83 g_83 hq_83 => ?_)
                    obtain ⟨hr_83, hg_83⟩ := hq_83
                    rw [hr_83, hg_83]
                    show ZVV _ _ _ 86 _ [ZI (g 2 0 3)] _
                    show ZVV _ _ _ 86 _ _ _
                    exact zs_ireturn rfl rfl (by unfold cPer; first | (rw [if_pos (by omega)]; exact ⟨rfl, rfl⟩) | (rw [if_neg (by omega), if_pos (by omega)]; exact ⟨rfl, rfl⟩) | (rw [if_neg (by omega), if_neg (by omega), if_pos (by omega)]; exact ⟨rfl, rfl⟩) | (rw [if_neg (by omega), if_neg (by omega), if_neg (by omega), if_pos (by omega)]; exact ⟨rfl, rfl⟩) | (rw [if_neg (by omega), if_neg (by omega), if_neg (by omega), if_neg (by omega)]; exact ⟨rfl, rfl⟩))
                  · refine zs_bipush (n := (-4)) rfl ⟨by omega, by omega⟩ ?_
                    exact zs_ireturn rfl rfl (by unfold cPer; first | (rw [if_pos (by omega)]; exact ⟨rfl, rfl⟩) | (rw [if_neg (by omega), if_pos (by omega)]; exact ⟨rfl, rfl⟩) | (rw [if_neg (by omega), if_neg (by omega), if_pos (by omega)]; exact ⟨rfl, rfl⟩) | (rw [if_neg (by omega), if_neg (by omega), if_neg (by omega), if_pos (by omega)]; exact ⟨rfl, rfl⟩) | (rw [if_neg (by omega), if_neg (by omega), if_neg (by omega), if_neg (by omega)]; exact ⟨rfl, rfl⟩))
                · refine zs_bipush (n := (-3)) rfl ⟨by omega, by omega⟩ ?_
                  exact zs_ireturn rfl rfl (by unfold cPer; first | (rw [if_pos (by omega)]; exact ⟨rfl, rfl⟩) | (rw [if_neg (by omega), if_pos (by omega)]; exact ⟨rfl, rfl⟩) | (rw [if_neg (by omega), if_neg (by omega), if_pos (by omega)]; exact ⟨rfl, rfl⟩) | (rw [if_neg (by omega), if_neg (by omega), if_neg (by omega), if_pos (by omega)]; exact ⟨rfl, rfl⟩) | (rw [if_neg (by omega), if_neg (by omega), if_neg (by omega), if_neg (by omega)]; exact ⟨rfl, rfl⟩))
              · refine zs_bipush (n := (-2)) rfl ⟨by omega, by omega⟩ ?_
                exact zs_ireturn rfl rfl (by unfold cPer; first | (rw [if_pos (by omega)]; exact ⟨rfl, rfl⟩) | (rw [if_neg (by omega), if_pos (by omega)]; exact ⟨rfl, rfl⟩) | (rw [if_neg (by omega), if_neg (by omega), if_pos (by omega)]; exact ⟨rfl, rfl⟩) | (rw [if_neg (by omega), if_neg (by omega), if_neg (by omega), if_pos (by omega)]; exact ⟨rfl, rfl⟩) | (rw [if_neg (by omega), if_neg (by omega), if_neg (by omega), if_neg (by omega)]; exact ⟨rfl, rfl⟩))
          · refine zs_iconst (n := (-1)) rfl ⟨by omega, by omega⟩ ?_
            exact zs_ireturn rfl rfl (by unfold cPer; first | (rw [if_pos (by omega)]; exact ⟨rfl, rfl⟩) | (rw [if_neg (by omega), if_pos (by omega)]; exact ⟨rfl, rfl⟩) | (rw [if_neg (by omega), if_neg (by omega), if_pos (by omega)]; exact ⟨rfl, rfl⟩) | (rw [if_neg (by omega), if_neg (by omega), if_neg (by omega), if_pos (by omega)]; exact ⟨rfl, rfl⟩) | (rw [if_neg (by omega), if_neg (by omega), if_neg (by omega), if_neg (by omega)]; exact ⟨rfl, rfl⟩))

theorem c_X5_append (s : Int) : ZC mX5_append 1 (fun av g => av = [ZR 5 0, ZI s] ∧ 0 ≤ s ∧ s ≤ 127) (fun _ g r g' => r = some (ZI (if 0 ≤ g 5 0 0 ∧ g 5 0 0 < 100 then 1 else 0)) ∧ g' = (if 0 ≤ g 5 0 0 ∧ g 5 0 0 < 100 then zup (zup g 22 0 (g 5 0 0).toNat s) 5 0 0 (g 5 0 0 + 1) else g)) := by
  refine zc_of gX5_append (fun av g hp => by obtain ⟨rfl, -⟩ := hp; exact Nat.le_of_ble_eq_true rfl) (fun Y av g hwf hrg hp hok => ?_)
  obtain ⟨rfl, hp⟩ := hp
  show ZVV _ _ _ 0 [ZR 5 0, ZI s] [] _
  refine zs_aload_n (j := 0) (i := 0) rfl rfl rfl ?_
  refine zs_getfield (f := 5) (k := 0) rfl rfl (trivial) ?_
  show ZVV _ _ _ _ _ (ZI (g 5 0 0) :: _) _
  refine zs_if_lt 16 rfl (by omega) (fun hc_4 => ?_) (fun hc_4 => ?_)
  · refine zs_iconst (n := 0) rfl ⟨by omega, by omega⟩ ?_
    exact zs_zreturn rfl rfl (by omega) (⟨by first | rw [if_pos (by omega)] | rw [if_neg (by omega)], by first | rw [if_pos (by omega)] | rw [if_neg (by omega)]⟩)
  · refine zs_aload_n (j := 0) (i := 0) rfl rfl rfl ?_
    refine zs_getfield (f := 5) (k := 0) rfl rfl (trivial) ?_
    show ZVV _ _ _ _ _ (ZI (g 5 0 0) :: _) _
    refine zs_bipush (n := 100) rfl ⟨by omega, by omega⟩ ?_
    refine zs_icmp_lt 18 rfl (by omega) (fun hc_13 => ?_) (fun hc_13 => ?_)
    · refine zs_aload_n (j := 0) (i := 0) rfl rfl rfl ?_
      refine zs_getfield (f := 5) (k := 1) rfl rfl (trivial) ?_
      show ZVV _ _ _ _ _ (ZR 22 0 :: _) _
      refine zs_aload_n (j := 0) (i := 0) rfl rfl rfl ?_
      refine zs_getfield (f := 5) (k := 0) rfl rfl (trivial) ?_
      show ZVV _ _ _ _ _ (ZI (g 5 0 0) :: _) _
      refine zs_iload_n (j := 1) (i := 1) rfl rfl rfl ?_
      refine zs_i2b rfl ?_
      rw [show s.bmod 256 = s from Int.bmod_eq_of_le (by omega) (by omega)]
      refine zs_bast (n := 100) rfl rfl (by omega) (by omega) (⟨by omega, by omega⟩) ?_
      show ZVV _ _ _ 29 _ _ _
      refine zs_aload_n (j := 0) (i := 0) rfl rfl rfl ?_
      refine zs_dup rfl (by intro x z; cases z) ?_
      refine zs_getfield (f := 5) (k := 0) rfl rfl (trivial) ?_
      show ZVV _ _ _ _ _ (ZI (g 5 0 0) :: _) _
      refine zs_iconst (n := 1) rfl ⟨by omega, by omega⟩ ?_
      refine zs_iadd_r rfl ⟨by omega, by omega⟩ ?_
      refine zs_putfield (f := 5) (k := 0) (x := (g 5 0 0) + 1) rfl rfl (rfl) ?_
      refine zs_iconst (n := 1) rfl ⟨by omega, by omega⟩ ?_
      exact zs_zreturn rfl rfl (by omega) (⟨by first | rw [if_pos (by omega)] | rw [if_neg (by omega)], by first | rw [if_pos (by omega)] | rw [if_neg (by omega)]⟩)
    · refine zs_iconst (n := 0) rfl ⟨by omega, by omega⟩ ?_
      exact zs_zreturn rfl rfl (by omega) (⟨by first | rw [if_pos (by omega)] | rw [if_neg (by omega)], by first | rw [if_pos (by omega)] | rw [if_neg (by omega)]⟩)

def cFeed (g : ZG) (s : Int) : Int × ZG := if s < 0 ∨ 127 < s then (-2, g) else if 0 ≤ g 5 0 0 ∧ g 5 0 0 < 100 then (g 5 0 0 + 1, zup (zup g 22 0 (g 5 0 0).toNat s) 5 0 0 (g 5 0 0 + 1)) else (-4, g)
theorem c_X7_feed (s : Int) : ZC mX7_feed 2 (fun av g => av = [ZR 7 0, ZI s] ∧ True) (fun _ g r g' => r = some (ZI (cFeed g s).1) ∧ g' = (cFeed g s).2) := by
  refine zc_of gX7_feed (fun av g hp => by obtain ⟨rfl, -⟩ := hp; exact Nat.le_of_ble_eq_true rfl) (fun Y av g hwf hrg hp hok => ?_)
  obtain ⟨rfl, hp⟩ := hp
  show ZVV _ _ _ 0 [ZR 7 0, ZI s] [] _
  refine zs_iload_n (j := 1) (i := 1) rfl rfl rfl ?_
  refine zs_if_lt 10 rfl (by omega) (fun hc_1 => ?_) (fun hc_1 => ?_)
  · refine zs_bipush (n := (-2)) rfl ⟨by omega, by omega⟩ ?_
    exact zs_ireturn rfl rfl (by unfold cFeed; first | (rw [if_pos (by omega)]; exact ⟨rfl, rfl⟩) | (rw [if_neg (by omega), if_pos (by omega)]; exact ⟨rfl, rfl⟩) | (rw [if_neg (by omega), if_neg (by omega)]; exact ⟨rfl, rfl⟩))
  · refine zs_iload_n (j := 1) (i := 1) rfl rfl rfl ?_
    refine zs_bipush (n := 127) rfl ⟨by omega, by omega⟩ ?_
    refine zs_icmp_le 13 rfl (by omega) (fun hc_7 => ?_) (fun hc_7 => ?_)
    · refine zs_aload_n (j := 0) (i := 0) rfl rfl rfl ?_
      refine zs_getfield (f := 7) (k := 2) rfl rfl (trivial) ?_
      show ZVV _ _ _ _ _ (ZR 5 0 :: _) _
      refine zs_iload_n (j := 1) (i := 1) rfl rfl rfl ?_
      refine zs_callV (host := "") rfl kX7_122 vX5_append (c_X5_append s) [ZI s] [] rfl (zroom_of (by omega)) rfl (Nat.le_of_ble_eq_true rfl) (⟨rfl, by omega, by omega⟩) (fun r_18 g_18 hq_18 => ?_)
      obtain ⟨hr_18, hg_18⟩ := hq_18
      rw [hr_18, hg_18]
      show ZVV _ _ _ 21 _ [ZI (if 0 ≤ g 5 0 0 ∧ g 5 0 0 < 100 then 1 else 0)] _
      refine zs_if_eq 34 rfl (by omega) (fun hc_21 => ?_) (fun hc_21 => ?_)
      · have hlen : ¬ (0 ≤ g 5 0 0 ∧ g 5 0 0 < 100) := by omega
        rw [if_neg hlen]
        refine zs_bipush (n := (-4)) rfl ⟨by omega, by omega⟩ ?_
        exact zs_ireturn rfl rfl (by unfold cFeed; first | (rw [if_pos (by omega)]; exact ⟨rfl, rfl⟩) | (rw [if_neg (by omega), if_pos (by omega)]; exact ⟨rfl, rfl⟩) | (rw [if_neg (by omega), if_neg (by omega)]; exact ⟨rfl, rfl⟩))
      · have hlen : 0 ≤ g 5 0 0 ∧ g 5 0 0 < 100 := by omega
        rw [if_pos hlen]
        refine zs_aload_n (j := 0) (i := 0) rfl rfl rfl ?_
        refine zs_getfield (f := 7) (k := 2) rfl rfl (trivial) ?_
        show ZVV _ _ _ _ _ (ZR 5 0 :: _) _
        refine zs_getfield (f := 5) (k := 0) rfl rfl (trivial) ?_
        show ZVV _ _ _ _ _ (ZI (g 5 0 0 + 1) :: _) _
        refine zs_goto 36 rfl (by omega) ?_
        exact zs_ireturn rfl rfl (by unfold cFeed; first | (rw [if_pos (by omega)]; exact ⟨rfl, rfl⟩) | (rw [if_neg (by omega), if_pos (by omega)]; exact ⟨rfl, rfl⟩) | (rw [if_neg (by omega), if_neg (by omega)]; exact ⟨rfl, rfl⟩))
    · refine zs_bipush (n := (-2)) rfl ⟨by omega, by omega⟩ ?_
      exact zs_ireturn rfl rfl (by unfold cFeed; first | (rw [if_pos (by omega)]; exact ⟨rfl, rfl⟩) | (rw [if_neg (by omega), if_pos (by omega)]; exact ⟨rfl, rfl⟩) | (rw [if_neg (by omega), if_neg (by omega)]; exact ⟨rfl, rfl⟩))

