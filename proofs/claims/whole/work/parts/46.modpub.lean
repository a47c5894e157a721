def mTown (g : ZG) (n sh : Int) : Int × ZG := if sh < 0 ∨ 2 < sh then (-1, g) else if n < 3 ∨ 8 < n then (-2, g) else if zfst (fun p => decide (n ≤ g 33 0 p)) (g 8 0 2).toNat 0 ≠ -1 then (-3, g) else (g 8 0 0, zup (zup g 8 0 0 n) 8 0 1 sh)
theorem l_X8_town {Y : ZW} {Q : Option ZV → ZG → Prop} {g : ZG} {n sh : Int} (hn6 : 0 ≤ g 8 0 2 ∧ g 8 0 2 ≤ 6) (hn : 3 ≤ n ∧ n ≤ 8) (hs : 0 ≤ sh ∧ sh ≤ 2) : ∀ m k : Nat, (k : Int) + m = g 8 0 2 → (zfst (fun p => decide (n ≤ g 33 0 p)) m k ≠ -1 → Q (some (ZI (-3))) g) → (zfst (fun p => decide (n ≤ g 33 0 p)) m k = -1 → Q (some (ZI (g 8 0 0))) (zup (zup g 8 0 0 n) 8 0 1 sh)) → ZVV Y mX8_town (zcx Y 4 Q) 28 [ZR 8 0, ZI n, ZI sh, ZI (k : Int)] [] g := by
  intro m
  induction m with
  | zero =>
    intro k hk hq hr
    refine zs_iload_n (j := 3) (i := 3) rfl rfl rfl ?_
    refine zs_aload_n (j := 0) (i := 0) rfl rfl rfl ?_
    refine zs_getfield (f := 8) (k := 2) rfl rfl (trivial) ?_
    show ZVV _ _ _ _ _ (ZI (g 8 0 2) :: _) _
    refine zs_icmp_ge 55 rfl (by omega) (fun hc_33 => ?_) (fun hc_33 => ?_)
    · refine zs_aload_n (j := 0) (i := 0) rfl rfl rfl ?_
      refine zs_getfield (f := 8) (k := 0) rfl rfl (trivial) ?_
      show ZVV _ _ _ _ _ (ZI (g 8 0 0) :: _) _
      refine zs_istore_n (j := 3) (i := 3) rfl rfl (by decide) (by intro r x hr; have hr2 : r = 2 := (by omega); subst hr2; intro z; cases z) ?_
      show ZVV _ _ _ _ [ZR 8 0, ZI n, ZI sh, ZI (g 8 0 0)] _ _
      refine zs_aload_n (j := 0) (i := 0) rfl rfl rfl ?_
      refine zs_iload_n (j := 1) (i := 1) rfl rfl rfl ?_
      refine zs_putfield (f := 8) (k := 0) (x := n) rfl rfl (rfl) ?_
      refine zs_aload_n (j := 0) (i := 0) rfl rfl rfl ?_
      show ZVV _ _ _ 66 _ _ _
      refine zs_iload_n (j := 2) (i := 2) rfl rfl rfl ?_
      refine zs_putfield (f := 8) (k := 1) (x := sh) rfl rfl (rfl) ?_
      refine zs_iload_n (j := 3) (i := 3) rfl rfl rfl ?_
      exact zs_ireturn rfl rfl (hr rfl)
    · exfalso; omega
  | succ m ih =>
    intro k hk hq hr
    refine zs_iload_n (j := 3) (i := 3) rfl rfl rfl ?_
    refine zs_aload_n (j := 0) (i := 0) rfl rfl rfl ?_
    refine zs_getfield (f := 8) (k := 2) rfl rfl (trivial) ?_
    show ZVV _ _ _ _ _ (ZI (g 8 0 2) :: _) _
    refine zs_icmp_ge 55 rfl (by omega) (fun hc_33 => ?_) (fun hc_33 => ?_)
    · exfalso; omega
    · refine zs_aload_n (j := 0) (i := 0) rfl rfl rfl ?_
      refine zs_getfield (f := 8) (k := 7) rfl rfl (trivial) ?_
      show ZVV _ _ _ _ _ (ZR 33 0 :: _) _
      refine zs_iload_n (j := 3) (i := 3) rfl rfl rfl ?_
      refine zs_iald (n := 6) rfl rfl (by omega) (by omega) ?_
      show ZVV _ _ _ _ _ (ZI (g 33 0 k) :: _) _
      refine zs_iload_n (j := 1) (i := 1) rfl rfl rfl ?_
      refine zs_icmp_lt 49 rfl (by omega) (fun hc_43 => ?_) (fun hc_43 => ?_)
      · refine zs_iinc_r (i := 3) rfl rfl (by intro r x hr; have hr2 : r = 2 := (by omega); subst hr2; intro z; cases z) ⟨by omega, by omega⟩ ?_
        show ZVV _ _ _ _ [ZR 8 0, ZI n, ZI sh, ZI ((k : Int) + 1)] _ _
        refine zs_goto 28 rfl (by omega) ?_
        have hz : decide (n ≤ g 33 0 k) = false := decide_eq_false (by omega)
        exact ih (k + 1) (by omega) (fun z => hq (by rw [zfst_f (P := fun p => decide (n ≤ g 33 0 p)) hz]; exact z)) (fun z => hr (by rw [zfst_f (P := fun p => decide (n ≤ g 33 0 p)) hz]; exact z))
      · refine zs_bipush (n := (-3)) rfl ⟨by omega, by omega⟩ ?_
        exact zs_ireturn rfl rfl (hq (by
      have hz : decide (n ≤ g 33 0 k) = true := decide_eq_true (by omega)
      rw [zfst_t (P := fun p => decide (n ≤ g 33 0 p)) hz]; omega))
theorem c_X8_town (n sh : Int) : ZC mX8_town 4 (fun av g => av = [ZR 8 0, ZI n, ZI sh] ∧ (0 ≤ g 8 0 2 ∧ g 8 0 2 ≤ 6) ∧ True) (fun _ g r g' => r = some (ZI (mTown g n sh).1) ∧ g' = (mTown g n sh).2) := by
  refine zc_of gX8_town (fun av g hp => by obtain ⟨rfl, -⟩ := hp; exact Nat.le_of_ble_eq_true rfl) (fun Y av g hwf hrg hp hok => ?_)
  obtain ⟨rfl, hp⟩ := hp
  show ZVV _ _ _ 0 [ZR 8 0, ZI n, ZI sh, ZX 99] [] _
  have hn6 := hp.1
  refine zs_aload_n (j := 0) (i := 0) rfl rfl rfl ?_
  refine zs_iload_n (j := 2) (i := 2) rfl rfl rfl ?_
  refine zs_iconst (n := 0) rfl ⟨by omega, by omega⟩ ?_
  refine zs_iconst (n := 2) rfl ⟨by omega, by omega⟩ ?_
  refine zs_callV (host := "") rfl kX8_170 vX8_in (c_X8_in sh 0 2) [ZI sh, ZI 0, ZI 2] [] rfl (zroom_of (by omega)) rfl (Nat.le_of_ble_eq_true rfl) (⟨rfl, trivial⟩) (fun r_4 g_4 hq_4 => ?_)
  obtain ⟨hr_4, hg_4⟩ := hq_4
  rw [hr_4, hg_4]
  show ZVV _ _ _ 7 _ [ZI (if 0 ≤ sh ∧ sh ≤ 2 then 1 else 0)] _
  refine zs_if_ne 12 rfl (by omega) (fun hc_7 => ?_) (fun hc_7 => ?_)
  · refine zs_aload_n (j := 0) (i := 0) rfl rfl rfl ?_
    refine zs_iload_n (j := 1) (i := 1) rfl rfl rfl ?_
    refine zs_iconst (n := 3) rfl ⟨by omega, by omega⟩ ?_
    refine zs_bipush (n := 8) rfl ⟨by omega, by omega⟩ ?_
    refine zs_callV (host := "") rfl kX8_170 vX8_in (c_X8_in n 3 8) [ZI n, ZI 3, ZI 8] [] rfl (zroom_of (by omega)) rfl (Nat.le_of_ble_eq_true rfl) (⟨rfl, trivial⟩) (fun r_17 g_17 hq_17 => ?_)
    obtain ⟨hr_17, hg_17⟩ := hq_17
    rw [hr_17, hg_17]
    show ZVV _ _ _ 20 _ [ZI (if 3 ≤ n ∧ n ≤ 8 then 1 else 0)] _
    refine zs_if_ne 26 rfl (by omega) (fun hc_20 => ?_) (fun hc_20 => ?_)
    · refine zs_iconst (n := 0) rfl ⟨by omega, by omega⟩ ?_
      refine zs_istore_n (j := 3) (i := 3) rfl rfl (by decide) (by intro r x hr; have hr2 : r = 2 := (by omega); subst hr2; intro z; cases z) ?_
      show ZVV _ _ _ _ [ZR 8 0, ZI n, ZI sh, ZI 0] _ _
      exact l_X8_town hn6 (by omega) (by omega) (g 8 0 2).toNat 0 (by omega) (fun z => by unfold mTown; rw [if_neg (by omega), if_neg (by omega), if_pos z]; exact ⟨rfl, rfl⟩) (fun z => by unfold mTown; rw [if_neg (by omega), if_neg (by omega), if_neg (fun w => w z)]; exact ⟨rfl, rfl⟩)
    · refine zs_bipush (n := (-2)) rfl ⟨by omega, by omega⟩ ?_
      exact zs_ireturn rfl rfl (by unfold mTown; rw [if_neg (by omega), if_pos (by omega)]; exact ⟨rfl, rfl⟩)
  · refine zs_iconst (n := (-1)) rfl ⟨by omega, by omega⟩ ?_
    exact zs_ireturn rfl rfl (by unfold mTown; rw [if_pos (by omega)]; exact ⟨rfl, rfl⟩)

def mPut (g : ZG) (p h : Int) : Int × ZG := if ¬ (0 ≤ p ∧ p < g 8 0 2) ∨ ¬ (0 ≤ h ∧ h < g 8 0 0) then (-1, g) else if zwho (g 8 0 2) (g 33 0) h ≠ -1 then (-3, g) else (g 33 0 p.toNat, zup g 33 0 p.toNat h)
theorem c_X8_put (p h : Int) : ZC mX8_put 4 (fun av g => av = [ZR 8 0, ZI p, ZI h] ∧ (0 ≤ g 8 0 2 ∧ g 8 0 2 ≤ 6) ∧ (3 ≤ g 8 0 0 ∧ g 8 0 0 ≤ 8)) (fun _ g r g' => r = some (ZI (mPut g p h).1) ∧ g' = (mPut g p h).2) := by
  refine zc_of gX8_put (fun av g hp => by obtain ⟨rfl, -⟩ := hp; exact Nat.le_of_ble_eq_true rfl) (fun Y av g hwf hrg hp hok => ?_)
  obtain ⟨rfl, hp⟩ := hp
  show ZVV _ _ _ 0 [ZR 8 0, ZI p, ZI h, ZX 99] [] _
  have hn6 := hp.1
  have hn8 := hp.2
  refine zs_aload_n (j := 0) (i := 0) rfl rfl rfl ?_
  refine zs_iload_n (j := 1) (i := 1) rfl rfl rfl ?_
  refine zs_callV (host := "") rfl kX8_186 vX8_isPerson (c_X8_isPerson p) [ZI p] [] rfl (zroom_of (by omega)) rfl (Nat.le_of_ble_eq_true rfl) (⟨rfl, by omega⟩) (fun r_2 g_2 hq_2 => ?_)
  obtain ⟨hr_2, hg_2⟩ := hq_2
  rw [hr_2, hg_2]
  show ZVV _ _ _ 5 _ [ZI (if 0 ≤ p ∧ p < g 8 0 2 then 1 else 0)] _
  refine zs_if_eq 16 rfl (by omega) (fun hc_5 => ?_) (fun hc_5 => ?_)
  · refine zs_iconst (n := (-1)) rfl ⟨by omega, by omega⟩ ?_
    exact zs_ireturn rfl rfl (by unfold mPut; first | (rw [if_pos (by omega)]; exact ⟨rfl, rfl⟩) | (rw [if_neg (by omega), if_pos (by omega)]; exact ⟨rfl, rfl⟩) | (rw [if_neg (by omega), if_neg (by omega)]; exact ⟨rfl, rfl⟩))
  · refine zs_aload_n (j := 0) (i := 0) rfl rfl rfl ?_
    refine zs_iload_n (j := 2) (i := 2) rfl rfl rfl ?_
    refine zs_callV (host := "") rfl kX8_174 vX8_isHouse (c_X8_isHouse h) [ZI h] [] rfl (zroom_of (by omega)) rfl (Nat.le_of_ble_eq_true rfl) (⟨rfl, by omega⟩) (fun r_10 g_10 hq_10 => ?_)
    obtain ⟨hr_10, hg_10⟩ := hq_10
    rw [hr_10, hg_10]
    show ZVV _ _ _ 13 _ [ZI (if 0 ≤ h ∧ h < g 8 0 0 then 1 else 0)] _
    refine zs_if_ne 18 rfl (by omega) (fun hc_13 => ?_) (fun hc_13 => ?_)
    · refine zs_aload_n (j := 0) (i := 0) rfl rfl rfl ?_
      refine zs_iload_n (j := 2) (i := 2) rfl rfl rfl ?_
      refine zs_callV (host := "") rfl kX8_182 vX8_whoIn (c_X8_whoIn h) [ZI h] [] rfl (zroom_of (by omega)) rfl (Nat.le_of_ble_eq_true rfl) (⟨rfl, by omega⟩) (fun r_20 g_20 hq_20 => ?_)
      obtain ⟨hr_20, hg_20⟩ := hq_20
      rw [hr_20, hg_20]
      show ZVV _ _ _ 23 _ [ZI (zwho (g 8 0 2) (g 33 0) h)] _
      have hw := zfst_rng (fun p => decide (g 33 0 p = h)) (g 8 0 2).toNat 0
      have hw2 : zwho (g 8 0 2) (g 33 0) h = -1 ∨ 0 ≤ zwho (g 8 0 2) (g 33 0) h := by unfold zwho; omega
      refine zs_if_lt 29 rfl (by omega) (fun hc_23 => ?_) (fun hc_23 => ?_)
      · refine zs_aload_n (j := 0) (i := 0) rfl rfl rfl ?_
        refine zs_getfield (f := 8) (k := 7) rfl rfl (trivial) ?_
        show ZVV _ _ _ _ _ (ZR 33 0 :: _) _
        refine zs_iload_n (j := 1) (i := 1) rfl rfl rfl ?_
        refine zs_iald (n := 6) rfl rfl (by omega) (by omega) ?_
        refine zs_istore_n (j := 3) (i := 3) rfl rfl (by decide) (by intro r x hr; have hr2 : r = 2 := (by omega); subst hr2; intro z; cases z) ?_
        show ZVV _ _ _ _ [ZR 8 0, ZI p, ZI h, ZI (g 33 0 p.toNat)] _ _
        refine zs_aload_n (j := 0) (i := 0) rfl rfl rfl ?_
        refine zs_getfield (f := 8) (k := 7) rfl rfl (trivial) ?_
        show ZVV _ _ _ _ _ (ZR 33 0 :: _) _
        show ZVV _ _ _ 40 _ _ _
        refine zs_iload_n (j := 1) (i := 1) rfl rfl rfl ?_
        refine zs_iload_n (j := 2) (i := 2) rfl rfl rfl ?_
        refine zs_iast (n := 6) rfl rfl (by omega) (by omega) ?_
        refine zs_iload_n (j := 3) (i := 3) rfl rfl rfl ?_
        exact zs_ireturn rfl rfl (by unfold mPut; first | (rw [if_pos (by omega)]; exact ⟨rfl, rfl⟩) | (rw [if_neg (by omega), if_pos (by omega)]; exact ⟨rfl, rfl⟩) | (rw [if_neg (by omega), if_neg (by omega)]; exact ⟨rfl, rfl⟩))
      · refine zs_bipush (n := (-3)) rfl ⟨by omega, by omega⟩ ?_
        exact zs_ireturn rfl rfl (by unfold mPut; first | (rw [if_pos (by omega)]; exact ⟨rfl, rfl⟩) | (rw [if_neg (by omega), if_pos (by omega)]; exact ⟨rfl, rfl⟩) | (rw [if_neg (by omega), if_neg (by omega)]; exact ⟨rfl, rfl⟩))
    · refine zs_iconst (n := (-1)) rfl ⟨by omega, by omega⟩ ?_
      exact zs_ireturn rfl rfl (by unfold mPut; first | (rw [if_pos (by omega)]; exact ⟨rfl, rfl⟩) | (rw [if_neg (by omega), if_pos (by omega)]; exact ⟨rfl, rfl⟩) | (rw [if_neg (by omega), if_neg (by omega)]; exact ⟨rfl, rfl⟩))

def mPer (g : ZG) (k v s h : Int) : Int × ZG := if (k < 0 ∨ 6 < k) ∨ (s < 0 ∨ 2 < s) ∨ ¬ (0 ≤ h ∧ h < g 8 0 0) then (-1, g) else if v < 0 ∨ 9 < v then (-2, g) else if zwho (g 8 0 2) (g 33 0) h ≠ -1 then (-3, g) else if 6 ≤ g 8 0 2 then (-4, g) else (g 8 0 2 + 1 - 1, zup (zup (zup (zup (zup g 30 0 (g 8 0 2).toNat k) 31 0 (g 8 0 2).toNat v) 32 0 (g 8 0 2).toNat s) 33 0 (g 8 0 2).toNat h) 8 0 2 (g 8 0 2 + 1))
theorem c_X8_person (k v s h : Int) : ZC mX8_person 4 (fun av g => av = [ZR 8 0, ZI k, ZI v, ZI s, ZI h] ∧ (0 ≤ g 8 0 2 ∧ g 8 0 2 ≤ 6) ∧ (3 ≤ g 8 0 0 ∧ g 8 0 0 ≤ 8)) (fun _ g r g' => r = some (ZI (mPer g k v s h).1) ∧ g' = (mPer g k v s h).2) := by
  refine zc_of gX8_person (fun av g hp => by obtain ⟨rfl, -⟩ := hp; exact Nat.le_of_ble_eq_true rfl) (fun Y av g hwf hrg hp hok => ?_)
  obtain ⟨rfl, hp⟩ := hp
  show ZVV _ _ _ 0 [ZR 8 0, ZI k, ZI v, ZI s, ZI h] [] _
  have hn6 := hp.1
  have hn8 := hp.2
  refine zs_aload_n (j := 0) (i := 0) rfl rfl rfl ?_
  refine zs_iload_n (j := 1) (i := 1) rfl rfl rfl ?_
  refine zs_iconst (n := 0) rfl ⟨by omega, by omega⟩ ?_
  refine zs_bipush (n := 6) rfl ⟨by omega, by omega⟩ ?_
  refine zs_callV (host := "") rfl kX8_170 vX8_in (c_X8_in k 0 6) [ZI k, ZI 0, ZI 6] [] rfl (zroom_of (by omega)) rfl (Nat.le_of_ble_eq_true rfl) (⟨rfl, trivial⟩) (fun r_5 g_5 hq_5 => ?_)
  obtain ⟨hr_5, hg_5⟩ := hq_5
  rw [hr_5, hg_5]
  show ZVV _ _ _ 8 _ [ZI (if 0 ≤ k ∧ k ≤ 6 then 1 else 0)] _
  refine zs_if_eq 30 rfl (by omega) (fun hc_8 => ?_) (fun hc_8 => ?_)
  · refine zs_iconst (n := (-1)) rfl ⟨by omega, by omega⟩ ?_
    exact zs_ireturn rfl rfl (by unfold mPer; first | (rw [if_pos (by omega)]; exact ⟨rfl, rfl⟩) | (rw [if_neg (by omega), if_pos (by omega)]; exact ⟨rfl, rfl⟩) | (rw [if_neg (by omega), if_neg (by omega), if_pos (by omega)]; exact ⟨rfl, rfl⟩) | (rw [if_neg (by omega), if_neg (by omega), if_neg (by omega), if_pos (by omega)]; exact ⟨rfl, rfl⟩) | (rw [if_neg (by omega), if_neg (by omega), if_neg (by omega), if_neg (by omega)]; exact ⟨rfl, rfl⟩))
  · refine zs_aload_n (j := 0) (i := 0) rfl rfl rfl ?_
    refine zs_iload_n (j := 3) (i := 3) rfl rfl rfl ?_
    refine zs_iconst (n := 0) rfl ⟨by omega, by omega⟩ ?_
    refine zs_iconst (n := 2) rfl ⟨by omega, by omega⟩ ?_
    refine zs_callV (host := "") rfl kX8_170 vX8_in (c_X8_in s 0 2) [ZI s, ZI 0, ZI 2] [] rfl (zroom_of (by omega)) rfl (Nat.le_of_ble_eq_true rfl) (⟨rfl, trivial⟩) (fun r_15 g_15 hq_15 => ?_)
    obtain ⟨hr_15, hg_15⟩ := hq_15
    rw [hr_15, hg_15]
    show ZVV _ _ _ 18 _ [ZI (if 0 ≤ s ∧ s ≤ 2 then 1 else 0)] _
    refine zs_if_eq 30 rfl (by omega) (fun hc_18 => ?_) (fun hc_18 => ?_)
    · refine zs_iconst (n := (-1)) rfl ⟨by omega, by omega⟩ ?_
      exact zs_ireturn rfl rfl (by unfold mPer; first | (rw [if_pos (by omega)]; exact ⟨rfl, rfl⟩) | (rw [if_neg (by omega), if_pos (by omega)]; exact ⟨rfl, rfl⟩) | (rw [if_neg (by omega), if_neg (by omega), if_pos (by omega)]; exact ⟨rfl, rfl⟩) | (rw [if_neg (by omega), if_neg (by omega), if_neg (by omega), if_pos (by omega)]; exact ⟨rfl, rfl⟩) | (rw [if_neg (by omega), if_neg (by omega), if_neg (by omega), if_neg (by omega)]; exact ⟨rfl, rfl⟩))
    · refine zs_aload_n (j := 0) (i := 0) rfl rfl rfl ?_
      refine zs_iload (i := 4) rfl rfl ?_
      refine zs_callV (host := "") rfl kX8_174 vX8_isHouse (c_X8_isHouse h) [ZI h] [] rfl (zroom_of (by omega)) rfl (Nat.le_of_ble_eq_true rfl) (⟨rfl, by omega⟩) (fun r_24 g_24 hq_24 => ?_)
      obtain ⟨hr_24, hg_24⟩ := hq_24
      rw [hr_24, hg_24]
      show ZVV _ _ _ 27 _ [ZI (if 0 ≤ h ∧ h < g 8 0 0 then 1 else 0)] _
      refine zs_if_ne 32 rfl (by omega) (fun hc_27 => ?_) (fun hc_27 => ?_)
      · refine zs_aload_n (j := 0) (i := 0) rfl rfl rfl ?_
        refine zs_iload_n (j := 2) (i := 2) rfl rfl rfl ?_
        refine zs_iconst (n := 0) rfl ⟨by omega, by omega⟩ ?_
        refine zs_bipush (n := 9) rfl ⟨by omega, by omega⟩ ?_
        refine zs_callV (host := "") rfl kX8_170 vX8_in (c_X8_in v 0 9) [ZI v, ZI 0, ZI 9] [] rfl (zroom_of (by omega)) rfl (Nat.le_of_ble_eq_true rfl) (⟨rfl, trivial⟩) (fun r_37 g_37 hq_37 => ?_)
        obtain ⟨hr_37, hg_37⟩ := hq_37
        rw [hr_37, hg_37]
        show ZVV _ _ _ 40 _ [ZI (if 0 ≤ v ∧ v ≤ 9 then 1 else 0)] _
        refine zs_if_ne 46 rfl (by omega) (fun hc_40 => ?_) (fun hc_40 => ?_)
        · refine zs_aload_n (j := 0) (i := 0) rfl rfl rfl ?_
          refine zs_iload (i := 4) rfl rfl ?_
          refine zs_callV (host := "") rfl kX8_182 vX8_whoIn (c_X8_whoIn h) [ZI h] [] rfl (zroom_of (by omega)) rfl (Nat.le_of_ble_eq_true rfl) (⟨rfl, by omega⟩) (fun r_49 g_49 hq_49 => ?_)
          obtain ⟨hr_49, hg_49⟩ := hq_49
          rw [hr_49, hg_49]
          show ZVV _ _ _ 52 _ [ZI (zwho (g 8 0 2) (g 33 0) h)] _
          have hw := zfst_rng (fun p => decide (g 33 0 p = h)) (g 8 0 2).toNat 0
          have hw2 : zwho (g 8 0 2) (g 33 0) h = -1 ∨ 0 ≤ zwho (g 8 0 2) (g 33 0) h := by unfold zwho; omega
          refine zs_if_lt 58 rfl (by omega) (fun hc_52 => ?_) (fun hc_52 => ?_)
          · refine zs_aload_n (j := 0) (i := 0) rfl rfl rfl ?_
            refine zs_getfield (f := 8) (k := 2) rfl rfl (trivial) ?_
            show ZVV _ _ _ _ _ (ZI (g 8 0 2) :: _) _
            refine zs_bipush (n := 6) rfl ⟨by omega, by omega⟩ ?_
            refine zs_icmp_ne 70 rfl (by omega) (fun hc_64 => ?_) (fun hc_64 => ?_)
            · refine zs_aload_n (j := 0) (i := 0) rfl rfl rfl ?_
              refine zs_getfield (f := 8) (k := 4) rfl rfl (trivial) ?_
              show ZVV _ _ _ _ _ (ZR 30 0 :: _) _
              refine zs_aload_n (j := 0) (i := 0) rfl rfl rfl ?_
              refine zs_getfield (f := 8) (k := 2) rfl rfl (trivial) ?_
              show ZVV _ _ _ _ _ (ZI (g 8 0 2) :: _) _
              refine zs_iload_n (j := 1) (i := 1) rfl rfl rfl ?_
              refine zs_iast (n := 6) rfl rfl (by omega) (by omega) ?_
              refine zs_aload_n (j := 0) (i := 0) rfl rfl rfl ?_
              show ZVV _ _ _ 81 _ _ _
              refine zs_getfield (f := 8) (k := 5) rfl rfl (trivial) ?_
              show ZVV _ _ _ _ _ (ZR 31 0 :: _) _
              refine zs_aload_n (j := 0) (i := 0) rfl rfl rfl ?_
              refine zs_getfield (f := 8) (k := 2) rfl rfl (trivial) ?_
              show ZVV _ _ _ _ _ (ZI (g 8 0 2) :: _) _
              refine zs_iload_n (j := 2) (i := 2) rfl rfl rfl ?_
              refine zs_iast (n := 6) rfl rfl (by omega) (by omega) ?_
              refine zs_aload_n (j := 0) (i := 0) rfl rfl rfl ?_
              refine zs_getfield (f := 8) (k := 6) rfl rfl (trivial) ?_
              show ZVV _ _ _ _ _ (ZR 32 0 :: _) _
              refine zs_aload_n (j := 0) (i := 0) rfl rfl rfl ?_
              show ZVV _ _ _ 95 _ _ _
              refine zs_getfield (f := 8) (k := 2) rfl rfl (trivial) ?_
              show ZVV _ _ _ _ _ (ZI (g 8 0 2) :: _) _
              refine zs_iload_n (j := 3) (i := 3) rfl rfl rfl ?_
              refine zs_iast (n := 6) rfl rfl (by omega) (by omega) ?_
              refine zs_aload_n (j := 0) (i := 0) rfl rfl rfl ?_
              refine zs_getfield (f := 8) (k := 7) rfl rfl (trivial) ?_
              show ZVV _ _ _ _ _ (ZR 33 0 :: _) _
              refine zs_aload_n (j := 0) (i := 0) rfl rfl rfl ?_
              refine zs_getfield (f := 8) (k := 2) rfl rfl (trivial) ?_
              show ZVV _ _ _ _ _ (ZI (g 8 0 2) :: _) _
              refine zs_iload (i := 4) rfl rfl ?_
              show ZVV _ _ _ 110 _ _ _
              refine zs_iast (n := 6) rfl rfl (by omega) (by omega) ?_
              refine zs_aload_n (j := 0) (i := 0) rfl rfl rfl ?_
              refine zs_dup rfl (by intro x z; cases z) ?_
              refine zs_getfield (f := 8) (k := 2) rfl rfl (trivial) ?_
              show ZVV _ _ _ _ _ (ZI (g 8 0 2) :: _) _
              refine zs_iconst (n := 1) rfl ⟨by omega, by omega⟩ ?_
              refine zs_iadd_r rfl ⟨by omega, by omega⟩ ?_
              refine zs_putfield (f := 8) (k := 2) (x := (g 8 0 2) + 1) rfl rfl (rfl) ?_
              refine zs_aload_n (j := 0) (i := 0) rfl rfl rfl ?_
              show ZVV _ _ _ 122 _ _ _
              refine zs_getfield (f := 8) (k := 2) rfl rfl (trivial) ?_
              show ZVV _ _ _ _ _ (ZI ((g 8 0 2) + 1) :: _) _
              refine zs_iconst (n := 1) rfl ⟨by omega, by omega⟩ ?_
              refine zs_isub_r rfl ⟨by omega, by omega⟩ ?_
              exact zs_ireturn rfl rfl (by unfold mPer; first | (rw [if_pos (by omega)]; exact ⟨rfl, rfl⟩) | (rw [if_neg (by omega), if_pos (by omega)]; exact ⟨rfl, rfl⟩) | (rw [if_neg (by omega), if_neg (by omega), if_pos (by omega)]; exact ⟨rfl, rfl⟩) | (rw [if_neg (by omega), if_neg (by omega), if_neg (by omega), if_pos (by omega)]; exact ⟨rfl, rfl⟩) | (rw [if_neg (by omega), if_neg (by omega), if_neg (by omega), if_neg (by omega)]; exact ⟨rfl, rfl⟩))
            · refine zs_bipush (n := (-4)) rfl ⟨by omega, by omega⟩ ?_
              exact zs_ireturn rfl rfl (by unfold mPer; first | (rw [if_pos (by omega)]; exact ⟨rfl, rfl⟩) | (rw [if_neg (by omega), if_pos (by omega)]; exact ⟨rfl, rfl⟩) | (rw [if_neg (by omega), if_neg (by omega), if_pos (by omega)]; exact ⟨rfl, rfl⟩) | (rw [if_neg (by omega), if_neg (by omega), if_neg (by omega), if_pos (by omega)]; exact ⟨rfl, rfl⟩) | (rw [if_neg (by omega), if_neg (by omega), if_neg (by omega), if_neg (by omega)]; exact ⟨rfl, rfl⟩))
          · refine zs_bipush (n := (-3)) rfl ⟨by omega, by omega⟩ ?_
            exact zs_ireturn rfl rfl (by unfold mPer; first | (rw [if_pos (by omega)]; exact ⟨rfl, rfl⟩) | (rw [if_neg (by omega), if_pos (by omega)]; exact ⟨rfl, rfl⟩) | (rw [if_neg (by omega), if_neg (by omega), if_pos (by omega)]; exact ⟨rfl, rfl⟩) | (rw [if_neg (by omega), if_neg (by omega), if_neg (by omega), if_pos (by omega)]; exact ⟨rfl, rfl⟩) | (rw [if_neg (by omega), if_neg (by omega), if_neg (by omega), if_neg (by omega)]; exact ⟨rfl, rfl⟩))
        · refine zs_bipush (n := (-2)) rfl ⟨by omega, by omega⟩ ?_
          exact zs_ireturn rfl rfl (by unfold mPer; first | (rw [if_pos (by omega)]; exact ⟨rfl, rfl⟩) | (rw [if_neg (by omega), if_pos (by omega)]; exact ⟨rfl, rfl⟩) | (rw [if_neg (by omega), if_neg (by omega), if_pos (by omega)]; exact ⟨rfl, rfl⟩) | (rw [if_neg (by omega), if_neg (by omega), if_neg (by omega), if_pos (by omega)]; exact ⟨rfl, rfl⟩) | (rw [if_neg (by omega), if_neg (by omega), if_neg (by omega), if_neg (by omega)]; exact ⟨rfl, rfl⟩))
      · refine zs_iconst (n := (-1)) rfl ⟨by omega, by omega⟩ ?_
        exact zs_ireturn rfl rfl (by unfold mPer; first | (rw [if_pos (by omega)]; exact ⟨rfl, rfl⟩) | (rw [if_neg (by omega), if_pos (by omega)]; exact ⟨rfl, rfl⟩) | (rw [if_neg (by omega), if_neg (by omega), if_pos (by omega)]; exact ⟨rfl, rfl⟩) | (rw [if_neg (by omega), if_neg (by omega), if_neg (by omega), if_pos (by omega)]; exact ⟨rfl, rfl⟩) | (rw [if_neg (by omega), if_neg (by omega), if_neg (by omega), if_neg (by omega)]; exact ⟨rfl, rfl⟩))

def mFeed (g : ZG) (s : Int) : Int × ZG := if s < 0 ∨ 127 < s then (-2, g) else if g 8 0 10 = 100 then (-4, g) else (g 8 0 10 + 1, zup (zup g 34 0 (g 8 0 10).toNat s) 8 0 10 (g 8 0 10 + 1))
theorem c_X8_feed (s : Int) : ZC mX8_feed 4 (fun av g => av = [ZR 8 0, ZI s] ∧ 0 ≤ g 8 0 10 ∧ g 8 0 10 ≤ 100) (fun _ g r g' => r = some (ZI (mFeed g s).1) ∧ g' = (mFeed g s).2) := by
  refine zc_of gX8_feed (fun av g hp => by obtain ⟨rfl, -⟩ := hp; exact Nat.le_of_ble_eq_true rfl) (fun Y av g hwf hrg hp hok => ?_)
  obtain ⟨rfl, hp⟩ := hp
  show ZVV _ _ _ 0 [ZR 8 0, ZI s] [] _
  refine zs_aload_n (j := 0) (i := 0) rfl rfl rfl ?_
  refine zs_iload_n (j := 1) (i := 1) rfl rfl rfl ?_
  refine zs_iconst (n := 0) rfl ⟨by omega, by omega⟩ ?_
  refine zs_bipush (n := 127) rfl ⟨by omega, by omega⟩ ?_
  refine zs_callV (host := "") rfl kX8_170 vX8_in (c_X8_in s 0 127) [ZI s, ZI 0, ZI 127] [] rfl (zroom_of (by omega)) rfl (Nat.le_of_ble_eq_true rfl) (⟨rfl, trivial⟩) (fun r_5 g_5 hq_5 => ?_)
  obtain ⟨hr_5, hg_5⟩ := hq_5
  rw [hr_5, hg_5]
  show ZVV _ _ _ 8 _ [ZI (if 0 ≤ s ∧ s ≤ 127 then 1 else 0)] _
  refine zs_if_ne 14 rfl (by omega) (fun hc_8 => ?_) (fun hc_8 => ?_)
  · refine zs_aload_n (j := 0) (i := 0) rfl rfl rfl ?_
    refine zs_getfield (f := 8) (k := 10) rfl rfl (trivial) ?_
    show ZVV _ _ _ _ _ (ZI (g 8 0 10) :: _) _
    refine zs_bipush (n := 100) rfl ⟨by omega, by omega⟩ ?_
    refine zs_icmp_ne 26 rfl (by omega) (fun hc_20 => ?_) (fun hc_20 => ?_)
    · refine zs_aload_n (j := 0) (i := 0) rfl rfl rfl ?_
      refine zs_getfield (f := 8) (k := 13) rfl rfl (trivial) ?_
      show ZVV _ _ _ _ _ (ZR 34 0 :: _) _
      refine zs_aload_n (j := 0) (i := 0) rfl rfl rfl ?_
      refine zs_getfield (f := 8) (k := 10) rfl rfl (trivial) ?_
      show ZVV _ _ _ _ _ (ZI (g 8 0 10) :: _) _
      refine zs_iload_n (j := 1) (i := 1) rfl rfl rfl ?_
      refine zs_iast (n := 100) rfl rfl (by omega) (by omega) ?_
      refine zs_aload_n (j := 0) (i := 0) rfl rfl rfl ?_
      show ZVV _ _ _ 37 _ _ _
      refine zs_dup rfl (by intro x z; cases z) ?_
      refine zs_getfield (f := 8) (k := 10) rfl rfl (trivial) ?_
      show ZVV _ _ _ _ _ (ZI (g 8 0 10) :: _) _
      refine zs_iconst (n := 1) rfl ⟨by omega, by omega⟩ ?_
      refine zs_iadd_r rfl ⟨by omega, by omega⟩ ?_
      refine zs_putfield (f := 8) (k := 10) (x := (g 8 0 10) + 1) rfl rfl (rfl) ?_
      refine zs_aload_n (j := 0) (i := 0) rfl rfl rfl ?_
      refine zs_getfield (f := 8) (k := 10) rfl rfl (trivial) ?_
      show ZVV _ _ _ _ _ (ZI ((g 8 0 10) + 1) :: _) _
      exact zs_ireturn rfl rfl (by unfold mFeed; first | (rw [if_pos (by omega)]; exact ⟨rfl, rfl⟩) | (rw [if_neg (by omega), if_pos (by omega)]; exact ⟨rfl, rfl⟩) | (rw [if_neg (by omega), if_neg (by omega)]; exact ⟨rfl, rfl⟩))
    · refine zs_bipush (n := (-4)) rfl ⟨by omega, by omega⟩ ?_
      exact zs_ireturn rfl rfl (by unfold mFeed; first | (rw [if_pos (by omega)]; exact ⟨rfl, rfl⟩) | (rw [if_neg (by omega), if_pos (by omega)]; exact ⟨rfl, rfl⟩) | (rw [if_neg (by omega), if_neg (by omega)]; exact ⟨rfl, rfl⟩))
  · refine zs_bipush (n := (-2)) rfl ⟨by omega, by omega⟩ ?_
    exact zs_ireturn rfl rfl (by unfold mFeed; first | (rw [if_pos (by omega)]; exact ⟨rfl, rfl⟩) | (rw [if_neg (by omega), if_pos (by omega)]; exact ⟨rfl, rfl⟩) | (rw [if_neg (by omega), if_neg (by omega)]; exact ⟨rfl, rfl⟩))

def mCount (g : ZG) (w : Int) : Int × ZG := if w = 0 then (g 8 0 2, g) else if w = 1 then (g 8 0 8, g) else if w = 2 then (g 8 0 32, g) else if w = 3 then (g 8 0 10, g) else if w = 4 then (g 8 0 46, g) else (-2, g)
theorem c_X8_count (w : Int) : ZC mX8_count 1 (fun av g => av = [ZR 8 0, ZI w] ∧ True) (fun _ g r g' => r = some (ZI (mCount g w).1) ∧ g' = (mCount g w).2) := by
  refine zc_of gX8_count (fun av g hp => by obtain ⟨rfl, -⟩ := hp; exact Nat.le_of_ble_eq_true rfl) (fun Y av g hwf hrg hp hok => ?_)
  obtain ⟨rfl, hp⟩ := hp
  show ZVV _ _ _ 0 [ZR 8 0, ZI w] [] _
  refine zs_iload_n (j := 1) (i := 1) rfl rfl rfl ?_
  by_cases hs_1_0 : w = 0
  · refine zs_tsIn 36 rfl (by omega) (by omega) (off := 35) (by rw [hs_1_0]; rfl) (by omega) ?_
    refine zs_aload_n (j := 0) (i := 0) rfl rfl rfl ?_
    refine zs_getfield (f := 8) (k := 2) rfl rfl (trivial) ?_
    show ZVV _ _ _ _ _ (ZI (g 8 0 2) :: _) _
    exact zs_ireturn rfl rfl (by unfold mCount; first | (rw [if_pos (by omega)]; exact ⟨rfl, rfl⟩) | (rw [if_neg (by omega), if_pos (by omega)]; exact ⟨rfl, rfl⟩) | (rw [if_neg (by omega), if_neg (by omega), if_pos (by omega)]; exact ⟨rfl, rfl⟩) | (rw [if_neg (by omega), if_neg (by omega), if_neg (by omega), if_pos (by omega)]; exact ⟨rfl, rfl⟩) | (rw [if_neg (by omega), if_neg (by omega), if_neg (by omega), if_neg (by omega), if_pos (by omega)]; exact ⟨rfl, rfl⟩) | (rw [if_neg (by omega), if_neg (by omega), if_neg (by omega), if_neg (by omega), if_neg (by omega)]; exact ⟨rfl, rfl⟩))
  by_cases hs_1_1 : w = 1
  · refine zs_tsIn 41 rfl (by omega) (by omega) (off := 40) (by rw [hs_1_1]; rfl) (by omega) ?_
    refine zs_aload_n (j := 0) (i := 0) rfl rfl rfl ?_
    refine zs_getfield (f := 8) (k := 8) rfl rfl (trivial) ?_
    show ZVV _ _ _ _ _ (ZI (g 8 0 8) :: _) _
    exact zs_ireturn rfl rfl (by unfold mCount; first | (rw [if_pos (by omega)]; exact ⟨rfl, rfl⟩) | (rw [if_neg (by omega), if_pos (by omega)]; exact ⟨rfl, rfl⟩) | (rw [if_neg (by omega), if_neg (by omega), if_pos (by omega)]; exact ⟨rfl, rfl⟩) | (rw [if_neg (by omega), if_neg (by omega), if_neg (by omega), if_pos (by omega)]; exact ⟨rfl, rfl⟩) | (rw [if_neg (by omega), if_neg (by omega), if_neg (by omega), if_neg (by omega), if_pos (by omega)]; exact ⟨rfl, rfl⟩) | (rw [if_neg (by omega), if_neg (by omega), if_neg (by omega), if_neg (by omega), if_neg (by omega)]; exact ⟨rfl, rfl⟩))
  by_cases hs_1_2 : w = 2
  · refine zs_tsIn 46 rfl (by omega) (by omega) (off := 45) (by rw [hs_1_2]; rfl) (by omega) ?_
    refine zs_aload_n (j := 0) (i := 0) rfl rfl rfl ?_
    refine zs_getfield (f := 8) (k := 32) rfl rfl (trivial) ?_
    show ZVV _ _ _ _ _ (ZI (g 8 0 32) :: _) _
    exact zs_ireturn rfl rfl (by unfold mCount; first | (rw [if_pos (by omega)]; exact ⟨rfl, rfl⟩) | (rw [if_neg (by omega), if_pos (by omega)]; exact ⟨rfl, rfl⟩) | (rw [if_neg (by omega), if_neg (by omega), if_pos (by omega)]; exact ⟨rfl, rfl⟩) | (rw [if_neg (by omega), if_neg (by omega), if_neg (by omega), if_pos (by omega)]; exact ⟨rfl, rfl⟩) | (rw [if_neg (by omega), if_neg (by omega), if_neg (by omega), if_neg (by omega), if_pos (by omega)]; exact ⟨rfl, rfl⟩) | (rw [if_neg (by omega), if_neg (by omega), if_neg (by omega), if_neg (by omega), if_neg (by omega)]; exact ⟨rfl, rfl⟩))
  by_cases hs_1_3 : w = 3
  · refine zs_tsIn 51 rfl (by omega) (by omega) (off := 50) (by rw [hs_1_3]; rfl) (by omega) ?_
    refine zs_aload_n (j := 0) (i := 0) rfl rfl rfl ?_
    refine zs_getfield (f := 8) (k := 10) rfl rfl (trivial) ?_
    show ZVV _ _ _ _ _ (ZI (g 8 0 10) :: _) _
    exact zs_ireturn rfl rfl (by unfold mCount; first | (rw [if_pos (by omega)]; exact ⟨rfl, rfl⟩) | (rw [if_neg (by omega), if_pos (by omega)]; exact ⟨rfl, rfl⟩) | (rw [if_neg (by omega), if_neg (by omega), if_pos (by omega)]; exact ⟨rfl, rfl⟩) | (rw [if_neg (by omega), if_neg (by omega), if_neg (by omega), if_pos (by omega)]; exact ⟨rfl, rfl⟩) | (rw [if_neg (by omega), if_neg (by omega), if_neg (by omega), if_neg (by omega), if_pos (by omega)]; exact ⟨rfl, rfl⟩) | (rw [if_neg (by omega), if_neg (by omega), if_neg (by omega), if_neg (by omega), if_neg (by omega)]; exact ⟨rfl, rfl⟩))
  by_cases hs_1_4 : w = 4
  · refine zs_tsIn 56 rfl (by omega) (by omega) (off := 55) (by rw [hs_1_4]; rfl) (by omega) ?_
    refine zs_aload_n (j := 0) (i := 0) rfl rfl rfl ?_
    refine zs_getfield (f := 8) (k := 46) rfl rfl (trivial) ?_
    show ZVV _ _ _ _ _ (ZI (g 8 0 46) :: _) _
    exact zs_ireturn rfl rfl (by unfold mCount; first | (rw [if_pos (by omega)]; exact ⟨rfl, rfl⟩) | (rw [if_neg (by omega), if_pos (by omega)]; exact ⟨rfl, rfl⟩) | (rw [if_neg (by omega), if_neg (by omega), if_pos (by omega)]; exact ⟨rfl, rfl⟩) | (rw [if_neg (by omega), if_neg (by omega), if_neg (by omega), if_pos (by omega)]; exact ⟨rfl, rfl⟩) | (rw [if_neg (by omega), if_neg (by omega), if_neg (by omega), if_neg (by omega), if_pos (by omega)]; exact ⟨rfl, rfl⟩) | (rw [if_neg (by omega), if_neg (by omega), if_neg (by omega), if_neg (by omega), if_neg (by omega)]; exact ⟨rfl, rfl⟩))
  refine zs_tsOut 61 rfl (by omega) (by omega) ?_
  refine zs_bipush (n := (-2)) rfl ⟨by omega, by omega⟩ ?_
  exact zs_ireturn rfl rfl (by unfold mCount; first | (rw [if_pos (by omega)]; exact ⟨rfl, rfl⟩) | (rw [if_neg (by omega), if_pos (by omega)]; exact ⟨rfl, rfl⟩) | (rw [if_neg (by omega), if_neg (by omega), if_pos (by omega)]; exact ⟨rfl, rfl⟩) | (rw [if_neg (by omega), if_neg (by omega), if_neg (by omega), if_pos (by omega)]; exact ⟨rfl, rfl⟩) | (rw [if_neg (by omega), if_neg (by omega), if_neg (by omega), if_neg (by omega), if_pos (by omega)]; exact ⟨rfl, rfl⟩) | (rw [if_neg (by omega), if_neg (by omega), if_neg (by omega), if_neg (by omega), if_neg (by omega)]; exact ⟨rfl, rfl⟩))

def mTrace (g : ZG) (i : Int) : Int × ZG := if i < 0 ∨ g 8 0 46 ≤ i ∨ 20 ≤ i then (-1, g) else (g 52 0 i.toNat, g)
theorem c_X8_trace (i : Int) : ZC mX8_trace 2 (fun av g => av = [ZR 8 0, ZI i] ∧ True) (fun _ g r g' => r = some (ZI (mTrace g i).1) ∧ g' = (mTrace g i).2) := by
  refine zc_of gX8_trace (fun av g hp => by obtain ⟨rfl, -⟩ := hp; exact Nat.le_of_ble_eq_true rfl) (fun Y av g hwf hrg hp hok => ?_)
  obtain ⟨rfl, hp⟩ := hp
  show ZVV _ _ _ 0 [ZR 8 0, ZI i] [] _
  refine zs_aload_n (j := 0) (i := 0) rfl rfl rfl ?_
  refine zs_iload_n (j := 1) (i := 1) rfl rfl rfl ?_
  refine zs_iconst (n := 0) rfl ⟨by omega, by omega⟩ ?_
  refine zs_bipush (n := 19) rfl ⟨by omega, by omega⟩ ?_
  refine zs_callV (host := "") rfl kX8_170 vX8_in (c_X8_in i 0 19) [ZI i, ZI 0, ZI 19] [] rfl (zroom_of (by omega)) rfl (Nat.le_of_ble_eq_true rfl) (⟨rfl, trivial⟩) (fun r_5 g_5 hq_5 => ?_)
  obtain ⟨hr_5, hg_5⟩ := hq_5
  rw [hr_5, hg_5]
  show ZVV _ _ _ 8 _ [ZI (if 0 ≤ i ∧ i ≤ 19 then 1 else 0)] _
  refine zs_if_eq 28 rfl (by omega) (fun hc_8 => ?_) (fun hc_8 => ?_)
  · refine zs_iconst (n := (-1)) rfl ⟨by omega, by omega⟩ ?_
    exact zs_ireturn rfl rfl (by unfold mTrace; first | (rw [if_pos (by omega)]; exact ⟨rfl, rfl⟩) | (rw [if_neg (by omega)]; exact ⟨rfl, rfl⟩))
  · refine zs_iload_n (j := 1) (i := 1) rfl rfl rfl ?_
    refine zs_aload_n (j := 0) (i := 0) rfl rfl rfl ?_
    refine zs_getfield (f := 8) (k := 46) rfl rfl (trivial) ?_
    show ZVV _ _ _ _ _ (ZI (g 8 0 46) :: _) _
    refine zs_icmp_ge 28 rfl (by omega) (fun hc_16 => ?_) (fun hc_16 => ?_)
    · refine zs_iconst (n := (-1)) rfl ⟨by omega, by omega⟩ ?_
      exact zs_ireturn rfl rfl (by unfold mTrace; first | (rw [if_pos (by omega)]; exact ⟨rfl, rfl⟩) | (rw [if_neg (by omega)]; exact ⟨rfl, rfl⟩))
    · refine zs_aload_n (j := 0) (i := 0) rfl rfl rfl ?_
      refine zs_getfield (f := 8) (k := 47) rfl rfl (trivial) ?_
      show ZVV _ _ _ _ _ (ZR 52 0 :: _) _
      refine zs_iload_n (j := 1) (i := 1) rfl rfl rfl ?_
      refine zs_iald (n := 20) rfl rfl (by omega) (by omega) ?_
      refine zs_goto 29 rfl (by omega) ?_
      exact zs_ireturn rfl rfl (by unfold mTrace; first | (rw [if_pos (by omega)]; exact ⟨rfl, rfl⟩) | (rw [if_neg (by omega)]; exact ⟨rfl, rfl⟩))

def mBook (g : ZG) (t : Int) : Int × ZG := if t = -1 then (0, zup g 8 0 32 0) else if t < 0 ∨ 57 < t ∨ 8 ≤ t % 10 then (-1, g) else if 12 ≤ g 8 0 32 then (-4, g) else (g 8 0 32 + 1, zup (zup g 46 0 (g 8 0 32).toNat t) 8 0 32 (g 8 0 32 + 1))
theorem c_X8_book (t : Int) : ZC mX8_book 2 (fun av g => av = [ZR 8 0, ZI t] ∧ (0 ≤ g 8 0 32 ∧ g 8 0 32 ≤ 12) ∧ True) (fun _ g r g' => r = some (ZI (mBook g t).1) ∧ g' = (mBook g t).2) := by
  refine zc_of gX8_book (fun av g hp => by obtain ⟨rfl, -⟩ := hp; exact Nat.le_of_ble_eq_true rfl) (fun Y av g hwf hrg hp hok => ?_)
  obtain ⟨rfl, hp⟩ := hp
  show ZVV _ _ _ 0 [ZR 8 0, ZI t] [] _
  have hb := hp.1
  refine zs_iload_n (j := 1) (i := 1) rfl rfl rfl ?_
  refine zs_iconst (n := (-1)) rfl ⟨by omega, by omega⟩ ?_
  refine zs_icmp_ne 12 rfl (by omega) (fun hc_2 => ?_) (fun hc_2 => ?_)
  · refine zs_aload_n (j := 0) (i := 0) rfl rfl rfl ?_
    refine zs_iload_n (j := 1) (i := 1) rfl rfl rfl ?_
    refine zs_iconst (n := 0) rfl ⟨by omega, by omega⟩ ?_
    refine zs_bipush (n := 57) rfl ⟨by omega, by omega⟩ ?_
    refine zs_callV (host := "") rfl kX8_170 vX8_in (c_X8_in t 0 57) [ZI t, ZI 0, ZI 57] [] rfl (zroom_of (by omega)) rfl (Nat.le_of_ble_eq_true rfl) (⟨rfl, trivial⟩) (fun r_17 g_17 hq_17 => ?_)
    obtain ⟨hr_17, hg_17⟩ := hq_17
    rw [hr_17, hg_17]
    show ZVV _ _ _ 20 _ [ZI (if 0 ≤ t ∧ t ≤ 57 then 1 else 0)] _
    refine zs_if_eq 37 rfl (by omega) (fun hc_20 => ?_) (fun hc_20 => ?_)
    · refine zs_iconst (n := (-1)) rfl ⟨by omega, by omega⟩ ?_
      exact zs_ireturn rfl rfl (by unfold mBook; first | (rw [if_pos (by omega)]; exact ⟨rfl, rfl⟩) | (rw [if_neg (by omega), if_pos (by omega)]; exact ⟨rfl, rfl⟩) | (rw [if_neg (by omega), if_neg (by omega), if_pos (by omega)]; exact ⟨rfl, rfl⟩) | (rw [if_neg (by omega), if_neg (by omega), if_neg (by omega)]; exact ⟨rfl, rfl⟩))
    · refine zs_aload_n (j := 0) (i := 0) rfl rfl rfl ?_
      refine zs_iload_n (j := 1) (i := 1) rfl rfl rfl ?_
      refine zs_bipush (n := 10) rfl ⟨by omega, by omega⟩ ?_
      refine zs_irem_p rfl (by omega) (by omega) ?_
      refine zs_iconst (n := 0) rfl ⟨by omega, by omega⟩ ?_
      refine zs_bipush (n := 7) rfl ⟨by omega, by omega⟩ ?_
      refine zs_callV (host := "") rfl kX8_170 vX8_in (c_X8_in (t % 10) 0 7) [ZI (t % 10), ZI 0, ZI 7] [] rfl (zroom_of (by omega)) rfl (Nat.le_of_ble_eq_true rfl) (⟨rfl, trivial⟩) (fun r_31 g_31 hq_31 => ?_)
      obtain ⟨hr_31, hg_31⟩ := hq_31
      rw [hr_31, hg_31]
      show ZVV _ _ _ 34 _ [ZI (if 0 ≤ t % 10 ∧ t % 10 ≤ 7 then 1 else 0)] _
      show ZVV _ _ _ 34 _ _ _
      refine zs_if_ne 39 rfl (by omega) (fun hc_34 => ?_) (fun hc_34 => ?_)
      · refine zs_aload_n (j := 0) (i := 0) rfl rfl rfl ?_
        refine zs_getfield (f := 8) (k := 32) rfl rfl (trivial) ?_
        show ZVV _ _ _ _ _ (ZI (g 8 0 32) :: _) _
        refine zs_bipush (n := 12) rfl ⟨by omega, by omega⟩ ?_
        refine zs_icmp_ne 51 rfl (by omega) (fun hc_45 => ?_) (fun hc_45 => ?_)
        · refine zs_aload_n (j := 0) (i := 0) rfl rfl rfl ?_
          refine zs_getfield (f := 8) (k := 33) rfl rfl (trivial) ?_
          show ZVV _ _ _ _ _ (ZR 46 0 :: _) _
          refine zs_aload_n (j := 0) (i := 0) rfl rfl rfl ?_
          refine zs_getfield (f := 8) (k := 32) rfl rfl (trivial) ?_
          show ZVV _ _ _ _ _ (ZI (g 8 0 32) :: _) _
          refine zs_iload_n (j := 1) (i := 1) rfl rfl rfl ?_
          refine zs_iast (n := 12) rfl rfl (by omega) (by omega) ?_
          refine zs_aload_n (j := 0) (i := 0) rfl rfl rfl ?_
          show ZVV _ _ _ 62 _ _ _
          refine zs_dup rfl (by intro x z; cases z) ?_
          refine zs_getfield (f := 8) (k := 32) rfl rfl (trivial) ?_
          show ZVV _ _ _ _ _ (ZI (g 8 0 32) :: _) _
          refine zs_iconst (n := 1) rfl ⟨by omega, by omega⟩ ?_
          refine zs_iadd_r rfl ⟨by omega, by omega⟩ ?_
          refine zs_putfield (f := 8) (k := 32) (x := (g 8 0 32) + 1) rfl rfl (rfl) ?_
          refine zs_aload_n (j := 0) (i := 0) rfl rfl rfl ?_
          refine zs_getfield (f := 8) (k := 32) rfl rfl (trivial) ?_
          show ZVV _ _ _ _ _ (ZI ((g 8 0 32) + 1) :: _) _
          exact zs_ireturn rfl rfl (by unfold mBook; first | (rw [if_pos (by omega)]; exact ⟨rfl, rfl⟩) | (rw [if_neg (by omega), if_pos (by omega)]; exact ⟨rfl, rfl⟩) | (rw [if_neg (by omega), if_neg (by omega), if_pos (by omega)]; exact ⟨rfl, rfl⟩) | (rw [if_neg (by omega), if_neg (by omega), if_neg (by omega)]; exact ⟨rfl, rfl⟩))
        · refine zs_bipush (n := (-4)) rfl ⟨by omega, by omega⟩ ?_
          exact zs_ireturn rfl rfl (by unfold mBook; first | (rw [if_pos (by omega)]; exact ⟨rfl, rfl⟩) | (rw [if_neg (by omega), if_pos (by omega)]; exact ⟨rfl, rfl⟩) | (rw [if_neg (by omega), if_neg (by omega), if_pos (by omega)]; exact ⟨rfl, rfl⟩) | (rw [if_neg (by omega), if_neg (by omega), if_neg (by omega)]; exact ⟨rfl, rfl⟩))
      · refine zs_iconst (n := (-1)) rfl ⟨by omega, by omega⟩ ?_
        exact zs_ireturn rfl rfl (by unfold mBook; first | (rw [if_pos (by omega)]; exact ⟨rfl, rfl⟩) | (rw [if_neg (by omega), if_pos (by omega)]; exact ⟨rfl, rfl⟩) | (rw [if_neg (by omega), if_neg (by omega), if_pos (by omega)]; exact ⟨rfl, rfl⟩) | (rw [if_neg (by omega), if_neg (by omega), if_neg (by omega)]; exact ⟨rfl, rfl⟩))
  · refine zs_aload_n (j := 0) (i := 0) rfl rfl rfl ?_
    refine zs_iconst (n := 0) rfl ⟨by omega, by omega⟩ ?_
    refine zs_putfield (f := 8) (k := 32) (x := 0) rfl rfl (rfl) ?_
    refine zs_iconst (n := 0) rfl ⟨by omega, by omega⟩ ?_
    exact zs_ireturn rfl rfl (by unfold mBook; first | (rw [if_pos (by omega)]; exact ⟨rfl, rfl⟩) | (rw [if_neg (by omega), if_pos (by omega)]; exact ⟨rfl, rfl⟩) | (rw [if_neg (by omega), if_neg (by omega), if_pos (by omega)]; exact ⟨rfl, rfl⟩) | (rw [if_neg (by omega), if_neg (by omega), if_neg (by omega)]; exact ⟨rfl, rfl⟩))

def mTaken (g : ZG) (p k : Int) : Int × ZG := if k < 0 ∨ 6 < k then (-2, g) else if ¬ (0 ≤ p ∧ p < g 8 0 2) then (-11, g) else if k = 0 ∨ g 30 0 p.toNat = k ∨ (k = 1 ∧ g 30 0 p.toNat = 4) ∨ (k = 2 ∧ g 30 0 p.toNat = 5) ∨ (k = 3 ∧ g 30 0 p.toNat = 6) then (g 30 0 p.toNat, g) else (-12, g)
theorem c_X8_taken (p k : Int) : ZC mX8_taken 4 (fun av g => av = [ZR 8 0, ZI p, ZI k] ∧ (0 ≤ g 8 0 2 ∧ g 8 0 2 ≤ 6) ∧ True) (fun _ g r g' => r = some (ZI (mTaken g p k).1) ∧ g' = (mTaken g p k).2) := by
  refine zc_of gX8_taken (fun av g hp => by obtain ⟨rfl, -⟩ := hp; exact Nat.le_of_ble_eq_true rfl) (fun Y av g hwf hrg hp hok => ?_)
  obtain ⟨rfl, hp⟩ := hp
  show ZVV _ _ _ 0 [ZR 8 0, ZI p, ZI k, ZX 99] [] _
  have hn6 := hp.1
  refine zs_aload_n (j := 0) (i := 0) rfl rfl rfl ?_
  refine zs_iload_n (j := 2) (i := 2) rfl rfl rfl ?_
  refine zs_iconst (n := 0) rfl ⟨by omega, by omega⟩ ?_
  refine zs_bipush (n := 6) rfl ⟨by omega, by omega⟩ ?_
  refine zs_callV (host := "") rfl kX8_170 vX8_in (c_X8_in k 0 6) [ZI k, ZI 0, ZI 6] [] rfl (zroom_of (by omega)) rfl (Nat.le_of_ble_eq_true rfl) (⟨rfl, trivial⟩) (fun r_5 g_5 hq_5 => ?_)
  obtain ⟨hr_5, hg_5⟩ := hq_5
  rw [hr_5, hg_5]
  show ZVV _ _ _ 8 _ [ZI (if 0 ≤ k ∧ k ≤ 6 then 1 else 0)] _
  refine zs_if_ne 14 rfl (by omega) (fun hc_8 => ?_) (fun hc_8 => ?_)
  · refine zs_aload_n (j := 0) (i := 0) rfl rfl rfl ?_
    refine zs_iload_n (j := 1) (i := 1) rfl rfl rfl ?_
    refine zs_callV (host := "") rfl kX8_186 vX8_isPerson (c_X8_isPerson p) [ZI p] [] rfl (zroom_of (by omega)) rfl (Nat.le_of_ble_eq_true rfl) (⟨rfl, by omega⟩) (fun r_16 g_16 hq_16 => ?_)
    obtain ⟨hr_16, hg_16⟩ := hq_16
    rw [hr_16, hg_16]
    show ZVV _ _ _ 19 _ [ZI (if 0 ≤ p ∧ p < g 8 0 2 then 1 else 0)] _
    refine zs_if_ne 25 rfl (by omega) (fun hc_19 => ?_) (fun hc_19 => ?_)
    · refine zs_aload_n (j := 0) (i := 0) rfl rfl rfl ?_
      refine zs_getfield (f := 8) (k := 4) rfl rfl (trivial) ?_
      show ZVV _ _ _ _ _ (ZR 30 0 :: _) _
      refine zs_iload_n (j := 1) (i := 1) rfl rfl rfl ?_
      refine zs_iald (n := 6) rfl rfl (by omega) (by omega) ?_
      refine zs_istore_n (j := 3) (i := 3) rfl rfl (by decide) (by intro r x hr; have hr2 : r = 2 := (by omega); subst hr2; intro z; cases z) ?_
      show ZVV _ _ _ _ [ZR 8 0, ZI p, ZI k, ZI (g 30 0 p.toNat)] _ _
      refine zs_iload_n (j := 2) (i := 2) rfl rfl rfl ?_
      refine zs_if_eq 72 rfl (by omega) (fun hc_33 => ?_) (fun hc_33 => ?_)
      · refine zs_iload_n (j := 3) (i := 3) rfl rfl rfl ?_
        refine zs_goto 78 rfl (by omega) ?_
        exact zs_ireturn rfl rfl (by unfold mTaken; first | (rw [if_pos (by omega)]; exact ⟨rfl, rfl⟩) | (rw [if_neg (by omega), if_pos (by omega)]; exact ⟨rfl, rfl⟩) | (rw [if_neg (by omega), if_neg (by omega), if_pos (by omega)]; exact ⟨rfl, rfl⟩) | (rw [if_neg (by omega), if_neg (by omega), if_neg (by omega)]; exact ⟨rfl, rfl⟩))
      · refine zs_iload_n (j := 3) (i := 3) rfl rfl rfl ?_
        refine zs_iload_n (j := 2) (i := 2) rfl rfl rfl ?_
        refine zs_icmp_eq 72 rfl (by omega) (fun hc_38 => ?_) (fun hc_38 => ?_)
        · refine zs_iload_n (j := 3) (i := 3) rfl rfl rfl ?_
          refine zs_goto 78 rfl (by omega) ?_
          exact zs_ireturn rfl rfl (by unfold mTaken; first | (rw [if_pos (by omega)]; exact ⟨rfl, rfl⟩) | (rw [if_neg (by omega), if_pos (by omega)]; exact ⟨rfl, rfl⟩) | (rw [if_neg (by omega), if_neg (by omega), if_pos (by omega)]; exact ⟨rfl, rfl⟩) | (rw [if_neg (by omega), if_neg (by omega), if_neg (by omega)]; exact ⟨rfl, rfl⟩))
        · refine zs_iload_n (j := 2) (i := 2) rfl rfl rfl ?_
          refine zs_iconst (n := 1) rfl ⟨by omega, by omega⟩ ?_
          refine zs_icmp_ne 51 rfl (by omega) (fun hc_43 => ?_) (fun hc_43 => ?_)
          · refine zs_iload_n (j := 2) (i := 2) rfl rfl rfl ?_
            refine zs_iconst (n := 2) rfl ⟨by omega, by omega⟩ ?_
            refine zs_icmp_ne 61 rfl (by omega) (fun hc_53 => ?_) (fun hc_53 => ?_)
            · refine zs_iload_n (j := 2) (i := 2) rfl rfl rfl ?_
              refine zs_iconst (n := 3) rfl ⟨by omega, by omega⟩ ?_
              refine zs_icmp_ne 76 rfl (by omega) (fun hc_63 => ?_) (fun hc_63 => ?_)
              · refine zs_bipush (n := (-12)) rfl ⟨by omega, by omega⟩ ?_
                exact zs_ireturn rfl rfl (by unfold mTaken; first | (rw [if_pos (by omega)]; exact ⟨rfl, rfl⟩) | (rw [if_neg (by omega), if_pos (by omega)]; exact ⟨rfl, rfl⟩) | (rw [if_neg (by omega), if_neg (by omega), if_pos (by omega)]; exact ⟨rfl, rfl⟩) | (rw [if_neg (by omega), if_neg (by omega), if_neg (by omega)]; exact ⟨rfl, rfl⟩))
              · refine zs_iload_n (j := 3) (i := 3) rfl rfl rfl ?_
                refine zs_bipush (n := 6) rfl ⟨by omega, by omega⟩ ?_
                refine zs_icmp_ne 76 rfl (by omega) (fun hc_69 => ?_) (fun hc_69 => ?_)
                · refine zs_bipush (n := (-12)) rfl ⟨by omega, by omega⟩ ?_
                  exact zs_ireturn rfl rfl (by unfold mTaken; first | (rw [if_pos (by omega)]; exact ⟨rfl, rfl⟩) | (rw [if_neg (by omega), if_pos (by omega)]; exact ⟨rfl, rfl⟩) | (rw [if_neg (by omega), if_neg (by omega), if_pos (by omega)]; exact ⟨rfl, rfl⟩) | (rw [if_neg (by omega), if_neg (by omega), if_neg (by omega)]; exact ⟨rfl, rfl⟩))
                · refine zs_iload_n (j := 3) (i := 3) rfl rfl rfl ?_
                  refine zs_goto 78 rfl (by omega) ?_
                  exact zs_ireturn rfl rfl (by unfold mTaken; first | (rw [if_pos (by omega)]; exact ⟨rfl, rfl⟩) | (rw [if_neg (by omega), if_pos (by omega)]; exact ⟨rfl, rfl⟩) | (rw [if_neg (by omega), if_neg (by omega), if_pos (by omega)]; exact ⟨rfl, rfl⟩) | (rw [if_neg (by omega), if_neg (by omega), if_neg (by omega)]; exact ⟨rfl, rfl⟩))
            · refine zs_iload_n (j := 3) (i := 3) rfl rfl rfl ?_
              refine zs_iconst (n := 5) rfl ⟨by omega, by omega⟩ ?_
              refine zs_icmp_eq 72 rfl (by omega) (fun hc_58 => ?_) (fun hc_58 => ?_)
              · refine zs_iload_n (j := 3) (i := 3) rfl rfl rfl ?_
                refine zs_goto 78 rfl (by omega) ?_
                exact zs_ireturn rfl rfl (by unfold mTaken; first | (rw [if_pos (by omega)]; exact ⟨rfl, rfl⟩) | (rw [if_neg (by omega), if_pos (by omega)]; exact ⟨rfl, rfl⟩) | (rw [if_neg (by omega), if_neg (by omega), if_pos (by omega)]; exact ⟨rfl, rfl⟩) | (rw [if_neg (by omega), if_neg (by omega), if_neg (by omega)]; exact ⟨rfl, rfl⟩))
              · refine zs_iload_n (j := 2) (i := 2) rfl rfl rfl ?_
                refine zs_iconst (n := 3) rfl ⟨by omega, by omega⟩ ?_
                refine zs_icmp_ne 76 rfl (by omega) (fun hc_63 => ?_) (fun hc_63 => ?_)
                · refine zs_bipush (n := (-12)) rfl ⟨by omega, by omega⟩ ?_
                  exact zs_ireturn rfl rfl (by unfold mTaken; first | (rw [if_pos (by omega)]; exact ⟨rfl, rfl⟩) | (rw [if_neg (by omega), if_pos (by omega)]; exact ⟨rfl, rfl⟩) | (rw [if_neg (by omega), if_neg (by omega), if_pos (by omega)]; exact ⟨rfl, rfl⟩) | (rw [if_neg (by omega), if_neg (by omega), if_neg (by omega)]; exact ⟨rfl, rfl⟩))
                · refine zs_iload_n (j := 3) (i := 3) rfl rfl rfl ?_
                  refine zs_bipush (n := 6) rfl ⟨by omega, by omega⟩ ?_
                  refine zs_icmp_ne 76 rfl (by omega) (fun hc_69 => ?_) (fun hc_69 => ?_)
                  · refine zs_bipush (n := (-12)) rfl ⟨by omega, by omega⟩ ?_
                    exact zs_ireturn rfl rfl (by unfold mTaken; first | (rw [if_pos (by omega)]; exact ⟨rfl, rfl⟩) | (rw [if_neg (by omega), if_pos (by omega)]; exact ⟨rfl, rfl⟩) | (rw [if_neg (by omega), if_neg (by omega), if_pos (by omega)]; exact ⟨rfl, rfl⟩) | (rw [if_neg (by omega), if_neg (by omega), if_neg (by omega)]; exact ⟨rfl, rfl⟩))
                  · refine zs_iload_n (j := 3) (i := 3) rfl rfl rfl ?_
                    refine zs_goto 78 rfl (by omega) ?_
                    exact zs_ireturn rfl rfl (by unfold mTaken; first | (rw [if_pos (by omega)]; exact ⟨rfl, rfl⟩) | (rw [if_neg (by omega), if_pos (by omega)]; exact ⟨rfl, rfl⟩) | (rw [if_neg (by omega), if_neg (by omega), if_pos (by omega)]; exact ⟨rfl, rfl⟩) | (rw [if_neg (by omega), if_neg (by omega), if_neg (by omega)]; exact ⟨rfl, rfl⟩))
          · refine zs_iload_n (j := 3) (i := 3) rfl rfl rfl ?_
            refine zs_iconst (n := 4) rfl ⟨by omega, by omega⟩ ?_
            refine zs_icmp_eq 72 rfl (by omega) (fun hc_48 => ?_) (fun hc_48 => ?_)
            · refine zs_iload_n (j := 3) (i := 3) rfl rfl rfl ?_
              refine zs_goto 78 rfl (by omega) ?_
              exact zs_ireturn rfl rfl (by unfold mTaken; first | (rw [if_pos (by omega)]; exact ⟨rfl, rfl⟩) | (rw [if_neg (by omega), if_pos (by omega)]; exact ⟨rfl, rfl⟩) | (rw [if_neg (by omega), if_neg (by omega), if_pos (by omega)]; exact ⟨rfl, rfl⟩) | (rw [if_neg (by omega), if_neg (by omega), if_neg (by omega)]; exact ⟨rfl, rfl⟩))
            · refine zs_iload_n (j := 2) (i := 2) rfl rfl rfl ?_
              refine zs_iconst (n := 2) rfl ⟨by omega, by omega⟩ ?_
              refine zs_icmp_ne 61 rfl (by omega) (fun hc_53 => ?_) (fun hc_53 => ?_)
              · refine zs_iload_n (j := 2) (i := 2) rfl rfl rfl ?_
                refine zs_iconst (n := 3) rfl ⟨by omega, by omega⟩ ?_
                refine zs_icmp_ne 76 rfl (by omega) (fun hc_63 => ?_) (fun hc_63 => ?_)
                · refine zs_bipush (n := (-12)) rfl ⟨by omega, by omega⟩ ?_
                  exact zs_ireturn rfl rfl (by unfold mTaken; first | (rw [if_pos (by omega)]; exact ⟨rfl, rfl⟩) | (rw [if_neg (by omega), if_pos (by omega)]; exact ⟨rfl, rfl⟩) | (rw [if_neg (by omega), if_neg (by omega), if_pos (by omega)]; exact ⟨rfl, rfl⟩) | (rw [if_neg (by omega), if_neg (by omega), if_neg (by omega)]; exact ⟨rfl, rfl⟩))
                · refine zs_iload_n (j := 3) (i := 3) rfl rfl rfl ?_
                  refine zs_bipush (n := 6) rfl ⟨by omega, by omega⟩ ?_
                  refine zs_icmp_ne 76 rfl (by omega) (fun hc_69 => ?_) (fun hc_69 => ?_)
                  · refine zs_bipush (n := (-12)) rfl ⟨by omega, by omega⟩ ?_
                    exact zs_ireturn rfl rfl (by unfold mTaken; first | (rw [if_pos (by omega)]; exact ⟨rfl, rfl⟩) | (rw [if_neg (by omega), if_pos (by omega)]; exact ⟨rfl, rfl⟩) | (rw [if_neg (by omega), if_neg (by omega), if_pos (by omega)]; exact ⟨rfl, rfl⟩) | (rw [if_neg (by omega), if_neg (by omega), if_neg (by omega)]; exact ⟨rfl, rfl⟩))
                  · refine zs_iload_n (j := 3) (i := 3) rfl rfl rfl ?_
                    refine zs_goto 78 rfl (by omega) ?_
                    exact zs_ireturn rfl rfl (by unfold mTaken; first | (rw [if_pos (by omega)]; exact ⟨rfl, rfl⟩) | (rw [if_neg (by omega), if_pos (by omega)]; exact ⟨rfl, rfl⟩) | (rw [if_neg (by omega), if_neg (by omega), if_pos (by omega)]; exact ⟨rfl, rfl⟩) | (rw [if_neg (by omega), if_neg (by omega), if_neg (by omega)]; exact ⟨rfl, rfl⟩))
              · refine zs_iload_n (j := 3) (i := 3) rfl rfl rfl ?_
                refine zs_iconst (n := 5) rfl ⟨by omega, by omega⟩ ?_
                refine zs_icmp_eq 72 rfl (by omega) (fun hc_58 => ?_) (fun hc_58 => ?_)
                · refine zs_iload_n (j := 3) (i := 3) rfl rfl rfl ?_
                  refine zs_goto 78 rfl (by omega) ?_
                  exact zs_ireturn rfl rfl (by unfold mTaken; first | (rw [if_pos (by omega)]; exact ⟨rfl, rfl⟩) | (rw [if_neg (by omega), if_pos (by omega)]; exact ⟨rfl, rfl⟩) | (rw [if_neg (by omega), if_neg (by omega), if_pos (by omega)]; exact ⟨rfl, rfl⟩) | (rw [if_neg (by omega), if_neg (by omega), if_neg (by omega)]; exact ⟨rfl, rfl⟩))
                · refine zs_iload_n (j := 2) (i := 2) rfl rfl rfl ?_
                  refine zs_iconst (n := 3) rfl ⟨by omega, by omega⟩ ?_
                  refine zs_icmp_ne 76 rfl (by omega) (fun hc_63 => ?_) (fun hc_63 => ?_)
                  · refine zs_bipush (n := (-12)) rfl ⟨by omega, by omega⟩ ?_
                    exact zs_ireturn rfl rfl (by unfold mTaken; first | (rw [if_pos (by omega)]; exact ⟨rfl, rfl⟩) | (rw [if_neg (by omega), if_pos (by omega)]; exact ⟨rfl, rfl⟩) | (rw [if_neg (by omega), if_neg (by omega), if_pos (by omega)]; exact ⟨rfl, rfl⟩) | (rw [if_neg (by omega), if_neg (by omega), if_neg (by omega)]; exact ⟨rfl, rfl⟩))
                  · refine zs_iload_n (j := 3) (i := 3) rfl rfl rfl ?_
                    refine zs_bipush (n := 6) rfl ⟨by omega, by omega⟩ ?_
                    refine zs_icmp_ne 76 rfl (by omega) (fun hc_69 => ?_) (fun hc_69 => ?_)
                    · refine zs_bipush (n := (-12)) rfl ⟨by omega, by omega⟩ ?_
                      exact zs_ireturn rfl rfl (by unfold mTaken; first | (rw [if_pos (by omega)]; exact ⟨rfl, rfl⟩) | (rw [if_neg (by omega), if_pos (by omega)]; exact ⟨rfl, rfl⟩) | (rw [if_neg (by omega), if_neg (by omega), if_pos (by omega)]; exact ⟨rfl, rfl⟩) | (rw [if_neg (by omega), if_neg (by omega), if_neg (by omega)]; exact ⟨rfl, rfl⟩))
                    · refine zs_iload_n (j := 3) (i := 3) rfl rfl rfl ?_
                      refine zs_goto 78 rfl (by omega) ?_
                      exact zs_ireturn rfl rfl (by unfold mTaken; first | (rw [if_pos (by omega)]; exact ⟨rfl, rfl⟩) | (rw [if_neg (by omega), if_pos (by omega)]; exact ⟨rfl, rfl⟩) | (rw [if_neg (by omega), if_neg (by omega), if_pos (by omega)]; exact ⟨rfl, rfl⟩) | (rw [if_neg (by omega), if_neg (by omega), if_neg (by omega)]; exact ⟨rfl, rfl⟩))
    · refine zs_bipush (n := (-11)) rfl ⟨by omega, by omega⟩ ?_
      exact zs_ireturn rfl rfl (by unfold mTaken; first | (rw [if_pos (by omega)]; exact ⟨rfl, rfl⟩) | (rw [if_neg (by omega), if_pos (by omega)]; exact ⟨rfl, rfl⟩) | (rw [if_neg (by omega), if_neg (by omega), if_pos (by omega)]; exact ⟨rfl, rfl⟩) | (rw [if_neg (by omega), if_neg (by omega), if_neg (by omega)]; exact ⟨rfl, rfl⟩))
  · refine zs_bipush (n := (-2)) rfl ⟨by omega, by omega⟩ ?_
    exact zs_ireturn rfl rfl (by unfold mTaken; first | (rw [if_pos (by omega)]; exact ⟨rfl, rfl⟩) | (rw [if_neg (by omega), if_pos (by omega)]; exact ⟨rfl, rfl⟩) | (rw [if_neg (by omega), if_neg (by omega), if_pos (by omega)]; exact ⟨rfl, rfl⟩) | (rw [if_neg (by omega), if_neg (by omega), if_neg (by omega)]; exact ⟨rfl, rfl⟩))

theorem c_X8_narrow (s x : Int) : ZC mX8_narrow 1 (fun av g => av = [ZR 8 0, ZI s, ZJ x] ∧ True) (fun _ g r g' => r = some (ZJ (zcut s x)) ∧ g' = g) := by
  refine zc_of gX8_narrow (fun av g hp => by obtain ⟨rfl, -⟩ := hp; exact Nat.le_of_ble_eq_true rfl) (fun Y av g hwf hrg hp hok => ?_)
  obtain ⟨rfl, hp⟩ := hp
  show ZVV _ _ _ 0 [ZR 8 0, ZI s, ZJ x, ZX 99] [] _
  refine zs_iload_n (j := 1) (i := 1) rfl rfl rfl ?_
  refine zs_if_ne 11 rfl (by omega) (fun hc_1 => ?_) (fun hc_1 => ?_)
  · refine zs_iload_n (j := 1) (i := 1) rfl rfl rfl ?_
    refine zs_iconst (n := 1) rfl ⟨by omega, by omega⟩ ?_
    refine zs_icmp_ne 23 rfl (by omega) (fun hc_13 => ?_) (fun hc_13 => ?_)
    · refine zs_iload_n (j := 1) (i := 1) rfl rfl rfl ?_
      refine zs_iconst (n := 2) rfl ⟨by omega, by omega⟩ ?_
      refine zs_icmp_ne 34 rfl (by omega) (fun hc_25 => ?_) (fun hc_25 => ?_)
      · refine zs_iload_n (j := 1) (i := 1) rfl rfl rfl ?_
        refine zs_iconst (n := 4) rfl ⟨by omega, by omega⟩ ?_
        refine zs_icmp_ne 53 rfl (by omega) (fun hc_36 => ?_) (fun hc_36 => ?_)
        · refine zs_lload_n (j := 2) (i := 2) rfl rfl rfl ?_
          exact zs_lreturn rfl rfl (⟨by
    unfold zcut
    first
    | (rw [if_pos (by omega)])
    | (rw [if_neg (by omega), if_pos (by omega)])
    | (rw [if_neg (by omega), if_neg (by omega), if_pos (by omega)])
    | (rw [if_neg (by omega), if_neg (by omega), if_neg (by omega), if_pos (by omega), if_pos (by omega)])
    | (rw [if_neg (by omega), if_neg (by omega), if_neg (by omega), if_pos (by omega), if_neg (by omega)])
    | (rw [if_neg (by omega), if_neg (by omega), if_neg (by omega), if_neg (by omega)]), rfl⟩)
        · refine zs_lload_n (j := 2) (i := 2) rfl rfl rfl ?_
          refine zs_lconst (n := 0) rfl ?_
          show ZVV _ _ _ _ _ (ZJ 0 :: _) _
          refine zs_lcmp rfl ?_
          refine zs_if_eq 49 rfl (by omega) (fun hc_42 => ?_) (fun hc_42 => ?_)
          · refine zs_lconst (n := 0) rfl ?_
            show ZVV _ _ _ _ _ (ZJ 0 :: _) _
            refine zs_goto 54 rfl (by omega) ?_
            exact zs_lreturn rfl rfl (⟨by
    unfold zcut
    first
    | (rw [if_pos (by omega)])
    | (rw [if_neg (by omega), if_pos (by omega)])
    | (rw [if_neg (by omega), if_neg (by omega), if_pos (by omega)])
    | (rw [if_neg (by omega), if_neg (by omega), if_neg (by omega), if_pos (by omega), if_pos (by omega)])
    | (rw [if_neg (by omega), if_neg (by omega), if_neg (by omega), if_pos (by omega), if_neg (by omega)])
    | (rw [if_neg (by omega), if_neg (by omega), if_neg (by omega), if_neg (by omega)]), rfl⟩)
          · refine zs_lconst (n := 1) rfl ?_
            show ZVV _ _ _ _ _ (ZJ 1 :: _) _
            refine zs_goto 54 rfl (by omega) ?_
            exact zs_lreturn rfl rfl (⟨by
    unfold zcut
    first
    | (rw [if_pos (by omega)])
    | (rw [if_neg (by omega), if_pos (by omega)])
    | (rw [if_neg (by omega), if_neg (by omega), if_pos (by omega)])
    | (rw [if_neg (by omega), if_neg (by omega), if_neg (by omega), if_pos (by omega), if_pos (by omega)])
    | (rw [if_neg (by omega), if_neg (by omega), if_neg (by omega), if_pos (by omega), if_neg (by omega)])
    | (rw [if_neg (by omega), if_neg (by omega), if_neg (by omega), if_neg (by omega)]), rfl⟩)
      · refine zs_lload_n (j := 2) (i := 2) rfl rfl rfl ?_
        refine zs_l2i rfl ?_
        refine zs_i2l rfl ?_
        refine zs_goto 54 rfl (by omega) ?_
        exact zs_lreturn rfl rfl (⟨by
    unfold zcut
    first
    | (rw [if_pos (by omega)])
    | (rw [if_neg (by omega), if_pos (by omega)])
    | (rw [if_neg (by omega), if_neg (by omega), if_pos (by omega)])
    | (rw [if_neg (by omega), if_neg (by omega), if_neg (by omega), if_pos (by omega), if_pos (by omega)])
    | (rw [if_neg (by omega), if_neg (by omega), if_neg (by omega), if_pos (by omega), if_neg (by omega)])
    | (rw [if_neg (by omega), if_neg (by omega), if_neg (by omega), if_neg (by omega)]), rfl⟩)
    · refine zs_lload_n (j := 2) (i := 2) rfl rfl rfl ?_
      refine zs_l2i rfl ?_
      refine zs_i2s rfl ?_
      refine zs_i2l rfl ?_
      refine zs_goto 54 rfl (by omega) ?_
      exact zs_lreturn rfl rfl (⟨by
    unfold zcut
    first
    | (rw [if_pos (by omega)])
    | (rw [if_neg (by omega), if_pos (by omega)])
    | (rw [if_neg (by omega), if_neg (by omega), if_pos (by omega)])
    | (rw [if_neg (by omega), if_neg (by omega), if_neg (by omega), if_pos (by omega), if_pos (by omega)])
    | (rw [if_neg (by omega), if_neg (by omega), if_neg (by omega), if_pos (by omega), if_neg (by omega)])
    | (rw [if_neg (by omega), if_neg (by omega), if_neg (by omega), if_neg (by omega)]), rfl⟩)
  · refine zs_lload_n (j := 2) (i := 2) rfl rfl rfl ?_
    refine zs_l2i rfl ?_
    refine zs_i2b rfl ?_
    refine zs_i2l rfl ?_
    refine zs_goto 54 rfl (by omega) ?_
    exact zs_lreturn rfl rfl (⟨by
    unfold zcut
    first
    | (rw [if_pos (by omega)])
    | (rw [if_neg (by omega), if_pos (by omega)])
    | (rw [if_neg (by omega), if_neg (by omega), if_pos (by omega)])
    | (rw [if_neg (by omega), if_neg (by omega), if_neg (by omega), if_pos (by omega), if_pos (by omega)])
    | (rw [if_neg (by omega), if_neg (by omega), if_neg (by omega), if_pos (by omega), if_neg (by omega)])
    | (rw [if_neg (by omega), if_neg (by omega), if_neg (by omega), if_neg (by omega)]), rfl⟩)

def mItem (g : ZG) (t i x : Int) : Int × ZG := if ¬ (0 ≤ t ∧ t ≤ 5) then (-1, g) else if g 53 0 t.toNat < 0 then (-11, g) else if i < 0 ∨ g 54 0 t.toNat ≤ i then (-13, g) else (1, zup g 55 0 (60 * t + i).toNat (zcut (g 53 0 t.toNat) x))
theorem c_X8_item (t i x : Int) : ZC mX8_item 3 (fun av g => av = [ZR 8 0, ZI t, ZI i, ZJ x] ∧ (∀ q : Nat, q < 6 → 0 ≤ g 54 0 q ∧ g 54 0 q ≤ 60) ∧ True) (fun _ g r g' => r = some (ZI (mItem g t i x).1) ∧ g' = (mItem g t i x).2) := by
  refine zc_of gX8_item (fun av g hp => by obtain ⟨rfl, -⟩ := hp; exact Nat.le_of_ble_eq_true rfl) (fun Y av g hwf hrg hp hok => ?_)
  obtain ⟨rfl, hp⟩ := hp
  show ZVV _ _ _ 0 [ZR 8 0, ZI t, ZI i, ZJ x, ZX 99] [] _
  refine zs_aload_n (j := 0) (i := 0) rfl rfl rfl ?_
  refine zs_iload_n (j := 1) (i := 1) rfl rfl rfl ?_
  refine zs_callV (host := "") rfl kX8_364 vX8_isTape (c_X8_isTape t) [ZI t] [] rfl (zroom_of (by omega)) rfl (Nat.le_of_ble_eq_true rfl) (⟨rfl, trivial⟩) (fun r_2 g_2 hq_2 => ?_)
  obtain ⟨hr_2, hg_2⟩ := hq_2
  rw [hr_2, hg_2]
  show ZVV _ _ _ 5 _ [ZI (if 0 ≤ t ∧ t ≤ 5 then 1 else 0)] _
  refine zs_if_ne 10 rfl (by omega) (fun hc_5 => ?_) (fun hc_5 => ?_)
  · have hl := hp.1 t.toNat (by omega)
    refine zs_aload_n (j := 0) (i := 0) rfl rfl rfl ?_
    refine zs_getfield (f := 8) (k := 48) rfl rfl (trivial) ?_
    show ZVV _ _ _ _ _ (ZR 53 0 :: _) _
    refine zs_iload_n (j := 1) (i := 1) rfl rfl rfl ?_
    refine zs_iald (n := 6) rfl rfl (by omega) (by omega) ?_
    refine zs_if_ge 22 rfl (by omega) (fun hc_16 => ?_) (fun hc_16 => ?_)
    · refine zs_aload_n (j := 0) (i := 0) rfl rfl rfl ?_
      refine zs_iload_n (j := 2) (i := 2) rfl rfl rfl ?_
      refine zs_iconst (n := 0) rfl ⟨by omega, by omega⟩ ?_
      refine zs_aload_n (j := 0) (i := 0) rfl rfl rfl ?_
      refine zs_getfield (f := 8) (k := 49) rfl rfl (trivial) ?_
      show ZVV _ _ _ _ _ (ZR 54 0 :: _) _
      refine zs_iload_n (j := 1) (i := 1) rfl rfl rfl ?_
      refine zs_iald (n := 6) rfl rfl (by omega) (by omega) ?_
      show ZVV _ _ _ 31 _ _ _
      refine zs_iconst (n := 1) rfl ⟨by omega, by omega⟩ ?_
      refine zs_isub_r rfl ⟨by omega, by omega⟩ ?_
      refine zs_callV (host := "") rfl kX8_170 vX8_in (c_X8_in i 0 ((g 54 0 t.toNat) - 1)) [ZI i, ZI 0, ZI ((g 54 0 t.toNat) - 1)] [] rfl (zroom_of (by omega)) rfl (Nat.le_of_ble_eq_true rfl) (⟨rfl, trivial⟩) (fun r_33 g_33 hq_33 => ?_)
      obtain ⟨hr_33, hg_33⟩ := hq_33
      rw [hr_33, hg_33]
      show ZVV _ _ _ 36 _ [ZI (if 0 ≤ i ∧ i ≤ (g 54 0 t.toNat) - 1 then 1 else 0)] _
      refine zs_if_ne 42 rfl (by omega) (fun hc_36 => ?_) (fun hc_36 => ?_)
      · refine zs_aload_n (j := 0) (i := 0) rfl rfl rfl ?_
        refine zs_getfield (f := 8) (k := 50) rfl rfl (trivial) ?_
        show ZVV _ _ _ _ _ (ZR 55 0 :: _) _
        refine zs_bipush (n := 60) rfl ⟨by omega, by omega⟩ ?_
        refine zs_iload_n (j := 1) (i := 1) rfl rfl rfl ?_
        refine zs_imul_r rfl ⟨by omega, by omega⟩ ?_
        refine zs_iload_n (j := 2) (i := 2) rfl rfl rfl ?_
        refine zs_iadd_r rfl ⟨by omega, by omega⟩ ?_
        show ZVV _ _ _ 52 _ _ _
        refine zs_aload_n (j := 0) (i := 0) rfl rfl rfl ?_
        refine zs_aload_n (j := 0) (i := 0) rfl rfl rfl ?_
        refine zs_getfield (f := 8) (k := 48) rfl rfl (trivial) ?_
        show ZVV _ _ _ _ _ (ZR 53 0 :: _) _
        refine zs_iload_n (j := 1) (i := 1) rfl rfl rfl ?_
        refine zs_iald (n := 6) rfl rfl (by omega) (by omega) ?_
        refine zs_lload_n (j := 3) (i := 3) rfl rfl rfl ?_
        refine zs_callV (host := "") rfl kX8_391 vX8_narrow (c_X8_narrow (g 53 0 t.toNat) x) [ZI (g 53 0 t.toNat), ZJ x] [ZI ((60 * t) + i), ZR 55 0] rfl (zroom_of (by omega)) rfl (Nat.le_of_ble_eq_true rfl) (⟨rfl, trivial⟩) (fun r_60 g_60 hq_60 => ?_)
        obtain ⟨hr_60, hg_60⟩ := hq_60
        rw [hr_60, hg_60]
        show ZVV _ _ _ 63 _ [ZJ (zcut (g 53 0 t.toNat) x), ZI ((60 * t) + i), ZR 55 0] _
        refine zs_last (n := 360) rfl rfl (by omega) (by omega) ?_
        show ZVV _ _ _ 64 _ _ _
        refine zs_iconst (n := 1) rfl ⟨by omega, by omega⟩ ?_
        exact zs_ireturn rfl rfl (by unfold mItem; first | (rw [if_pos (by omega)]; exact ⟨rfl, rfl⟩) | (rw [if_neg (by omega), if_pos (by omega)]; exact ⟨rfl, rfl⟩) | (rw [if_neg (by omega), if_neg (by omega), if_pos (by omega)]; exact ⟨rfl, rfl⟩) | (rw [if_neg (by omega), if_neg (by omega), if_neg (by omega)]; exact ⟨rfl, rfl⟩))
      · refine zs_bipush (n := (-13)) rfl ⟨by omega, by omega⟩ ?_
        exact zs_ireturn rfl rfl (by unfold mItem; first | (rw [if_pos (by omega)]; exact ⟨rfl, rfl⟩) | (rw [if_neg (by omega), if_pos (by omega)]; exact ⟨rfl, rfl⟩) | (rw [if_neg (by omega), if_neg (by omega), if_pos (by omega)]; exact ⟨rfl, rfl⟩) | (rw [if_neg (by omega), if_neg (by omega), if_neg (by omega)]; exact ⟨rfl, rfl⟩))
    · refine zs_bipush (n := (-11)) rfl ⟨by omega, by omega⟩ ?_
      exact zs_ireturn rfl rfl (by unfold mItem; first | (rw [if_pos (by omega)]; exact ⟨rfl, rfl⟩) | (rw [if_neg (by omega), if_pos (by omega)]; exact ⟨rfl, rfl⟩) | (rw [if_neg (by omega), if_neg (by omega), if_pos (by omega)]; exact ⟨rfl, rfl⟩) | (rw [if_neg (by omega), if_neg (by omega), if_neg (by omega)]; exact ⟨rfl, rfl⟩))
  · refine zs_iconst (n := (-1)) rfl ⟨by omega, by omega⟩ ?_
    exact zs_ireturn rfl rfl (by unfold mItem; first | (rw [if_pos (by omega)]; exact ⟨rfl, rfl⟩) | (rw [if_neg (by omega), if_pos (by omega)]; exact ⟨rfl, rfl⟩) | (rw [if_neg (by omega), if_neg (by omega), if_pos (by omega)]; exact ⟨rfl, rfl⟩) | (rw [if_neg (by omega), if_neg (by omega), if_neg (by omega)]; exact ⟨rfl, rfl⟩))

def mRead (g : ZG) (t i : Int) : Int × ZG := if ¬ (0 ≤ t ∧ t ≤ 5) ∨ g 53 0 t.toNat < 0 ∨ i < 0 ∨ g 54 0 t.toNat ≤ i then (-9223372036854775808, g) else (g 55 0 (60 * t + i).toNat, g)
theorem c_X8_read (t i : Int) : ZC mX8_read 3 (fun av g => av = [ZR 8 0, ZI t, ZI i] ∧ (∀ q : Nat, q < 6 → 0 ≤ g 54 0 q ∧ g 54 0 q ≤ 60) ∧ True) (fun _ g r g' => r = some (ZJ (mRead g t i).1) ∧ g' = (mRead g t i).2) := by
  refine zc_of gX8_read (fun av g hp => by obtain ⟨rfl, -⟩ := hp; exact Nat.le_of_ble_eq_true rfl) (fun Y av g hwf hrg hp hok => ?_)
  obtain ⟨rfl, hp⟩ := hp
  show ZVV _ _ _ 0 [ZR 8 0, ZI t, ZI i] [] _
  refine zs_aload_n (j := 0) (i := 0) rfl rfl rfl ?_
  refine zs_iload_n (j := 1) (i := 1) rfl rfl rfl ?_
  refine zs_callV (host := "") rfl kX8_364 vX8_isTape (c_X8_isTape t) [ZI t] [] rfl (zroom_of (by omega)) rfl (Nat.le_of_ble_eq_true rfl) (⟨rfl, trivial⟩) (fun r_2 g_2 hq_2 => ?_)
  obtain ⟨hr_2, hg_2⟩ := hq_2
  rw [hr_2, hg_2]
  show ZVV _ _ _ 5 _ [ZI (if 0 ≤ t ∧ t ≤ 5 then 1 else 0)] _
  refine zs_if_eq 34 rfl (by omega) (fun hc_5 => ?_) (fun hc_5 => ?_)
  · refine zs_ldc2 (x := (-9223372036854775808)) rfl rfl ?_
    refine zs_goto 51 rfl (by omega) ?_
    exact zs_lreturn rfl rfl (by unfold mRead; first | (rw [if_pos (by omega)]; exact ⟨rfl, rfl⟩) | (rw [if_neg (by omega)]; exact ⟨rfl, rfl⟩))
  · have hl := hp.1 t.toNat (by omega)
    refine zs_aload_n (j := 0) (i := 0) rfl rfl rfl ?_
    refine zs_getfield (f := 8) (k := 48) rfl rfl (trivial) ?_
    show ZVV _ _ _ _ _ (ZR 53 0 :: _) _
    refine zs_iload_n (j := 1) (i := 1) rfl rfl rfl ?_
    refine zs_iald (n := 6) rfl rfl (by omega) (by omega) ?_
    refine zs_if_lt 34 rfl (by omega) (fun hc_14 => ?_) (fun hc_14 => ?_)
    · refine zs_ldc2 (x := (-9223372036854775808)) rfl rfl ?_
      refine zs_goto 51 rfl (by omega) ?_
      exact zs_lreturn rfl rfl (by unfold mRead; first | (rw [if_pos (by omega)]; exact ⟨rfl, rfl⟩) | (rw [if_neg (by omega)]; exact ⟨rfl, rfl⟩))
    · refine zs_aload_n (j := 0) (i := 0) rfl rfl rfl ?_
      refine zs_iload_n (j := 2) (i := 2) rfl rfl rfl ?_
      refine zs_iconst (n := 0) rfl ⟨by omega, by omega⟩ ?_
      refine zs_aload_n (j := 0) (i := 0) rfl rfl rfl ?_
      refine zs_getfield (f := 8) (k := 49) rfl rfl (trivial) ?_
      show ZVV _ _ _ _ _ (ZR 54 0 :: _) _
      refine zs_iload_n (j := 1) (i := 1) rfl rfl rfl ?_
      refine zs_iald (n := 6) rfl rfl (by omega) (by omega) ?_
      show ZVV _ _ _ 26 _ _ _
      refine zs_iconst (n := 1) rfl ⟨by omega, by omega⟩ ?_
      refine zs_isub_r rfl ⟨by omega, by omega⟩ ?_
      refine zs_callV (host := "") rfl kX8_170 vX8_in (c_X8_in i 0 ((g 54 0 t.toNat) - 1)) [ZI i, ZI 0, ZI ((g 54 0 t.toNat) - 1)] [] rfl (zroom_of (by omega)) rfl (Nat.le_of_ble_eq_true rfl) (⟨rfl, trivial⟩) (fun r_28 g_28 hq_28 => ?_)
      obtain ⟨hr_28, hg_28⟩ := hq_28
      rw [hr_28, hg_28]
      show ZVV _ _ _ 31 _ [ZI (if 0 ≤ i ∧ i ≤ (g 54 0 t.toNat) - 1 then 1 else 0)] _
      refine zs_if_ne 40 rfl (by omega) (fun hc_31 => ?_) (fun hc_31 => ?_)
      · refine zs_aload_n (j := 0) (i := 0) rfl rfl rfl ?_
        refine zs_getfield (f := 8) (k := 50) rfl rfl (trivial) ?_
        show ZVV _ _ _ _ _ (ZR 55 0 :: _) _
        refine zs_bipush (n := 60) rfl ⟨by omega, by omega⟩ ?_
        refine zs_iload_n (j := 1) (i := 1) rfl rfl rfl ?_
        refine zs_imul_r rfl ⟨by omega, by omega⟩ ?_
        refine zs_iload_n (j := 2) (i := 2) rfl rfl rfl ?_
        refine zs_iadd_r rfl ⟨by omega, by omega⟩ ?_
        show ZVV _ _ _ 50 _ _ _
        refine zs_lald (n := 360) rfl rfl (by omega) (by omega) ?_
        exact zs_lreturn rfl rfl (by unfold mRead; first | (rw [if_pos (by omega)]; exact ⟨rfl, rfl⟩) | (rw [if_neg (by omega)]; exact ⟨rfl, rfl⟩))
      · refine zs_ldc2 (x := (-9223372036854775808)) rfl rfl ?_
        refine zs_goto 51 rfl (by omega) ?_
        exact zs_lreturn rfl rfl (by unfold mRead; first | (rw [if_pos (by omega)]; exact ⟨rfl, rfl⟩) | (rw [if_neg (by omega)]; exact ⟨rfl, rfl⟩))

theorem mzero_k (g : ZG) {f q a b : Nat} (h : a < b) {x : Nat} (hx : x = a) : mzero (zup g f q x 0) f q (a + 1) b = mzero g f q a b := by
  subst hx
  unfold mzero
  funext c i k
  unfold zup
  by_cases hk : c = f ∧ k = x ∧ i = q
  · obtain ⟨rfl, rfl, rfl⟩ := hk
    rw [if_neg (by omega), if_pos ⟨rfl, rfl, rfl⟩, if_pos ⟨rfl, ⟨by omega, h⟩, rfl⟩]
  · rw [if_neg hk]
    by_cases h2 : c = f ∧ (x ≤ k ∧ k < b) ∧ i = q
    · have h3 : k ≠ x := fun z => hk ⟨h2.1, z, h2.2.2⟩
      rw [if_pos h2, if_pos ⟨h2.1, ⟨by omega, h2.2.1.2⟩, h2.2.2⟩]
    · rw [if_neg h2, if_neg (fun z => h2 ⟨z.1, ⟨by omega, z.2.1.2⟩, z.2.2⟩)]
theorem mzero_e8 (g : ZG) {f q a b : Nat} (h : b ≤ a) : mzero g f q a b = g := by
  funext x i k; unfold mzero; rw [if_neg (by omega)]
theorem zcpy_s (g : ZG) (fs is fd id sp dp k : Nat) {x : Nat} {v : Int} (hx : x = dp + k) (hv : v = g fs is (sp + k)) : zup (zcpy g fs is fd id sp dp k) fd id x v = zcpy g fs is fd id sp dp (k + 1) := by
  subst hx hv
  funext a b c
  unfold zup zcpy
  by_cases h : a = fd ∧ c = dp + k ∧ b = id
  · obtain ⟨rfl, rfl, rfl⟩ := h
    rw [if_pos ⟨rfl, rfl, rfl⟩, if_pos ⟨rfl, rfl, by omega, by omega⟩, show dp + k - dp = k by omega]
  · rw [if_neg h]
    by_cases h2 : a = fd ∧ b = id ∧ dp ≤ c ∧ c < dp + k
    · rw [if_pos h2, if_pos ⟨h2.1, h2.2.1, h2.2.2.1, by omega⟩]
    · rw [if_neg h2, if_neg (fun z => by
        by_cases hc : c = dp + k
        · exact h ⟨z.1, hc, z.2.1⟩
        · exact h2 ⟨z.1, z.2.1, z.2.2.1, by omega⟩)]
theorem zcpy_0 (g : ZG) (fs is fd id sp dp : Nat) : zcpy g fs is fd id sp dp 0 = g := by
  funext a b c; unfold zcpy; rw [if_neg (by omega)]
def mTape (g : ZG) (t s n : Int) : Int × ZG := if ¬ (0 ≤ t ∧ t ≤ 5) then (-1, g) else if s < -1 ∨ 4 < s ∨ (0 ≤ s ∧ 60 < n) then (-2, g) else if 0 ≤ s ∧ n < 0 then (-14, g) else (1, (mzero (zup (zup g 53 0 t.toNat s) 54 0 t.toNat (if s < 0 then 0 else n)) 55 0 (60 * t).toNat ((60 * t).toNat + 60)))
theorem l_X8_tape {Y : ZW} {Q : Option ZV → ZG → Prop} {t s n : Int} (ht : 0 ≤ t ∧ t ≤ 5) : ∀ (m k : Nat) (G : ZG), (k : Int) + m = 60 → Q (some (ZI 1)) (mzero G 55 0 ((60 * t).toNat + k) ((60 * t).toNat + 60)) → ZVV Y mX8_tape (zcx Y 3 Q) 69 [ZR 8 0, ZI t, ZI s, ZI n, ZI (k : Int)] [] G := by
  intro m
  induction m with
  | zero =>
    intro k G hk hq
    rw [mzero_e8 _ (by omega)] at hq
    refine zs_iload (i := 4) rfl rfl ?_
    refine zs_bipush (n := 60) rfl ⟨by omega, by omega⟩ ?_
    refine zs_icmp_ge 95 rfl (by omega) (fun hc_73 => ?_) (fun hc_73 => ?_)
    · refine zs_iconst (n := 1) rfl ⟨by omega, by omega⟩ ?_
      exact zs_ireturn rfl rfl (hq)
    · exfalso; omega
  | succ m ih =>
    intro k G hk hq
    refine zs_iload (i := 4) rfl rfl ?_
    refine zs_bipush (n := 60) rfl ⟨by omega, by omega⟩ ?_
    refine zs_icmp_ge 95 rfl (by omega) (fun hc_73 => ?_) (fun hc_73 => ?_)
    · exfalso; omega
    · refine zs_aload_n (j := 0) (i := 0) rfl rfl rfl ?_
      refine zs_getfield (f := 8) (k := 50) rfl rfl (trivial) ?_
      show ZVV _ _ _ _ _ (ZR 55 0 :: _) _
      refine zs_bipush (n := 60) rfl ⟨by omega, by omega⟩ ?_
      refine zs_iload_n (j := 1) (i := 1) rfl rfl rfl ?_
      refine zs_imul_r rfl ⟨by omega, by omega⟩ ?_
      refine zs_iload (i := 4) rfl rfl ?_
      refine zs_iadd_r rfl ⟨by omega, by omega⟩ ?_
      show ZVV _ _ _ 87 _ _ _
      refine zs_lconst (n := 0) rfl ?_
      show ZVV _ _ _ _ _ (ZJ 0 :: _) _
      refine zs_last (n := 360) rfl rfl (by omega) (by omega) ?_
      refine zs_iinc_r (i := 4) rfl rfl (by intro r x hr; have hr2 : r = 3 := (by omega); subst hr2; intro z; cases z) ⟨by omega, by omega⟩ ?_
      show ZVV _ _ _ _ [ZR 8 0, ZI t, ZI s, ZI n, ZI ((k : Int) + 1)] _ _
      refine zs_goto 69 rfl (by omega) ?_
      exact ih (k + 1) _ (by omega) (by rw [show (60 * t).toNat + (k + 1) = (60 * t).toNat + k + 1 from rfl, mzero_k _ (by omega) (by omega)]; exact hq)
theorem c_X8_tape (t s n : Int) : ZC mX8_tape 3 (fun av g => av = [ZR 8 0, ZI t, ZI s, ZI n] ∧ True) (fun _ g r g' => r = some (ZI (mTape g t s n).1) ∧ g' = (mTape g t s n).2) := by
  refine zc_of gX8_tape (fun av g hp => by obtain ⟨rfl, -⟩ := hp; exact Nat.le_of_ble_eq_true rfl) (fun Y av g hwf hrg hp hok => ?_)
  obtain ⟨rfl, hp⟩ := hp
  show ZVV _ _ _ 0 [ZR 8 0, ZI t, ZI s, ZI n, ZX 99] [] _
  refine zs_aload_n (j := 0) (i := 0) rfl rfl rfl ?_
  refine zs_iload_n (j := 1) (i := 1) rfl rfl rfl ?_
  refine zs_callV (host := "") rfl kX8_364 vX8_isTape (c_X8_isTape t) [ZI t] [] rfl (zroom_of (by omega)) rfl (Nat.le_of_ble_eq_true rfl) (⟨rfl, trivial⟩) (fun r_2 g_2 hq_2 => ?_)
  obtain ⟨hr_2, hg_2⟩ := hq_2
  rw [hr_2, hg_2]
  show ZVV _ _ _ 5 _ [ZI (if 0 ≤ t ∧ t ≤ 5 then 1 else 0)] _
  refine zs_if_ne 10 rfl (by omega) (fun hc_5 => ?_) (fun hc_5 => ?_)
  · refine zs_aload_n (j := 0) (i := 0) rfl rfl rfl ?_
    refine zs_iload_n (j := 2) (i := 2) rfl rfl rfl ?_
    refine zs_iconst (n := (-1)) rfl ⟨by omega, by omega⟩ ?_
    refine zs_iconst (n := 4) rfl ⟨by omega, by omega⟩ ?_
    refine zs_callV (host := "") rfl kX8_170 vX8_in (c_X8_in s (-1) 4) [ZI s, ZI (-1), ZI 4] [] rfl (zroom_of (by omega)) rfl (Nat.le_of_ble_eq_true rfl) (⟨rfl, trivial⟩) (fun r_14 g_14 hq_14 => ?_)
    obtain ⟨hr_14, hg_14⟩ := hq_14
    rw [hr_14, hg_14]
    show ZVV _ _ _ 17 _ [ZI (if -1 ≤ s ∧ s ≤ 4 then 1 else 0)] _
    refine zs_if_eq 30 rfl (by omega) (fun hc_17 => ?_) (fun hc_17 => ?_)
    · refine zs_bipush (n := (-2)) rfl ⟨by omega, by omega⟩ ?_
      exact zs_ireturn rfl rfl (by unfold mTape; rw [if_neg (by omega), if_pos (by omega)]; exact ⟨rfl, rfl⟩)
    · refine zs_iload_n (j := 2) (i := 2) rfl rfl rfl ?_
      refine zs_if_lt 33 rfl (by omega) (fun hc_21 => ?_) (fun hc_21 => ?_)
      · refine zs_iload_n (j := 2) (i := 2) rfl rfl rfl ?_
        refine zs_if_lt 44 rfl (by omega) (fun hc_34 => ?_) (fun hc_34 => ?_)
        · refine zs_aload_n (j := 0) (i := 0) rfl rfl rfl ?_
          refine zs_getfield (f := 8) (k := 48) rfl rfl (trivial) ?_
          show ZVV _ _ _ _ _ (ZR 53 0 :: _) _
          refine zs_iload_n (j := 1) (i := 1) rfl rfl rfl ?_
          refine zs_iload_n (j := 2) (i := 2) rfl rfl rfl ?_
          refine zs_iast (n := 6) rfl rfl (by omega) (by omega) ?_
          refine zs_aload_n (j := 0) (i := 0) rfl rfl rfl ?_
          refine zs_getfield (f := 8) (k := 49) rfl rfl (trivial) ?_
          show ZVV _ _ _ _ _ (ZR 54 0 :: _) _
          show ZVV _ _ _ 55 _ _ _
          refine zs_iload_n (j := 1) (i := 1) rfl rfl rfl ?_
          refine zs_iload_n (j := 2) (i := 2) rfl rfl rfl ?_
          refine zs_if_ge 64 rfl (by omega) (fun hc_57 => ?_) (fun hc_57 => ?_)
          · refine zs_iload_n (j := 3) (i := 3) rfl rfl rfl ?_
            refine zs_iast (n := 6) rfl rfl (by omega) (by omega) ?_
            refine zs_iconst (n := 0) rfl ⟨by omega, by omega⟩ ?_
            refine zs_istore (i := 4) rfl (by decide) (by intro r x hr; have hr2 : r = 3 := (by omega); subst hr2; intro z; cases z) ?_
            show ZVV _ _ _ _ [ZR 8 0, ZI t, ZI s, ZI n, ZI 0] _ _
            exact l_X8_tape (by omega) 60 0 _ rfl (by unfold mTape; rw [if_neg (by omega), if_neg (by omega), if_neg (by omega), if_neg (show ¬ s < 0 by omega)]; exact ⟨rfl, rfl⟩)
          · refine zs_iconst (n := 0) rfl ⟨by omega, by omega⟩ ?_
            refine zs_goto 65 rfl (by omega) ?_
            refine zs_iast (n := 6) rfl rfl (by omega) (by omega) ?_
            refine zs_iconst (n := 0) rfl ⟨by omega, by omega⟩ ?_
            refine zs_istore (i := 4) rfl (by decide) (by intro r x hr; have hr2 : r = 3 := (by omega); subst hr2; intro z; cases z) ?_
            show ZVV _ _ _ _ [ZR 8 0, ZI t, ZI s, ZI n, ZI 0] _ _
            exact l_X8_tape (by omega) 60 0 _ rfl (by unfold mTape; rw [if_neg (by omega), if_neg (by omega), if_neg (by omega), if_pos (show s < 0 by omega)]; exact ⟨rfl, rfl⟩)
        · refine zs_iload_n (j := 3) (i := 3) rfl rfl rfl ?_
          refine zs_if_ge 44 rfl (by omega) (fun hc_38 => ?_) (fun hc_38 => ?_)
          · refine zs_aload_n (j := 0) (i := 0) rfl rfl rfl ?_
            refine zs_getfield (f := 8) (k := 48) rfl rfl (trivial) ?_
            show ZVV _ _ _ _ _ (ZR 53 0 :: _) _
            refine zs_iload_n (j := 1) (i := 1) rfl rfl rfl ?_
            refine zs_iload_n (j := 2) (i := 2) rfl rfl rfl ?_
            refine zs_iast (n := 6) rfl rfl (by omega) (by omega) ?_
            refine zs_aload_n (j := 0) (i := 0) rfl rfl rfl ?_
            refine zs_getfield (f := 8) (k := 49) rfl rfl (trivial) ?_
            show ZVV _ _ _ _ _ (ZR 54 0 :: _) _
            show ZVV _ _ _ 55 _ _ _
            refine zs_iload_n (j := 1) (i := 1) rfl rfl rfl ?_
            refine zs_iload_n (j := 2) (i := 2) rfl rfl rfl ?_
            refine zs_if_ge 64 rfl (by omega) (fun hc_57 => ?_) (fun hc_57 => ?_)
            · refine zs_iload_n (j := 3) (i := 3) rfl rfl rfl ?_
              refine zs_iast (n := 6) rfl rfl (by omega) (by omega) ?_
              refine zs_iconst (n := 0) rfl ⟨by omega, by omega⟩ ?_
              refine zs_istore (i := 4) rfl (by decide) (by intro r x hr; have hr2 : r = 3 := (by omega); subst hr2; intro z; cases z) ?_
              show ZVV _ _ _ _ [ZR 8 0, ZI t, ZI s, ZI n, ZI 0] _ _
              exact l_X8_tape (by omega) 60 0 _ rfl (by unfold mTape; rw [if_neg (by omega), if_neg (by omega), if_neg (by omega), if_neg (show ¬ s < 0 by omega)]; exact ⟨rfl, rfl⟩)
            · refine zs_iconst (n := 0) rfl ⟨by omega, by omega⟩ ?_
              refine zs_goto 65 rfl (by omega) ?_
              refine zs_iast (n := 6) rfl rfl (by omega) (by omega) ?_
              refine zs_iconst (n := 0) rfl ⟨by omega, by omega⟩ ?_
              refine zs_istore (i := 4) rfl (by decide) (by intro r x hr; have hr2 : r = 3 := (by omega); subst hr2; intro z; cases z) ?_
              show ZVV _ _ _ _ [ZR 8 0, ZI t, ZI s, ZI n, ZI 0] _ _
              exact l_X8_tape (by omega) 60 0 _ rfl (by unfold mTape; rw [if_neg (by omega), if_neg (by omega), if_neg (by omega), if_pos (show s < 0 by omega)]; exact ⟨rfl, rfl⟩)
          · refine zs_bipush (n := (-14)) rfl ⟨by omega, by omega⟩ ?_
            exact zs_ireturn rfl rfl (by unfold mTape; rw [if_neg (by omega), if_neg (by omega), if_pos (by omega)]; exact ⟨rfl, rfl⟩)
      · refine zs_iload_n (j := 3) (i := 3) rfl rfl rfl ?_
        refine zs_bipush (n := 60) rfl ⟨by omega, by omega⟩ ?_
        refine zs_icmp_le 33 rfl (by omega) (fun hc_27 => ?_) (fun hc_27 => ?_)
        · refine zs_iload_n (j := 2) (i := 2) rfl rfl rfl ?_
          refine zs_if_lt 44 rfl (by omega) (fun hc_34 => ?_) (fun hc_34 => ?_)
          · refine zs_aload_n (j := 0) (i := 0) rfl rfl rfl ?_
            refine zs_getfield (f := 8) (k := 48) rfl rfl (trivial) ?_
            show ZVV _ _ _ _ _ (ZR 53 0 :: _) _
            refine zs_iload_n (j := 1) (i := 1) rfl rfl rfl ?_
            refine zs_iload_n (j := 2) (i := 2) rfl rfl rfl ?_
            refine zs_iast (n := 6) rfl rfl (by omega) (by omega) ?_
            refine zs_aload_n (j := 0) (i := 0) rfl rfl rfl ?_
            refine zs_getfield (f := 8) (k := 49) rfl rfl (trivial) ?_
            show ZVV _ _ _ _ _ (ZR 54 0 :: _) _
            show ZVV _ _ _ 55 _ _ _
            refine zs_iload_n (j := 1) (i := 1) rfl rfl rfl ?_
            refine zs_iload_n (j := 2) (i := 2) rfl rfl rfl ?_
            refine zs_if_ge 64 rfl (by omega) (fun hc_57 => ?_) (fun hc_57 => ?_)
            · refine zs_iload_n (j := 3) (i := 3) rfl rfl rfl ?_
              refine zs_iast (n := 6) rfl rfl (by omega) (by omega) ?_
              refine zs_iconst (n := 0) rfl ⟨by omega, by omega⟩ ?_
              refine zs_istore (i := 4) rfl (by decide) (by intro r x hr; have hr2 : r = 3 := (by omega); subst hr2; intro z; cases z) ?_
              show ZVV _ _ _ _ [ZR 8 0, ZI t, ZI s, ZI n, ZI 0] _ _
              exact l_X8_tape (by omega) 60 0 _ rfl (by unfold mTape; rw [if_neg (by omega), if_neg (by omega), if_neg (by omega), if_neg (show ¬ s < 0 by omega)]; exact ⟨rfl, rfl⟩)
            · refine zs_iconst (n := 0) rfl ⟨by omega, by omega⟩ ?_
              refine zs_goto 65 rfl (by omega) ?_
              refine zs_iast (n := 6) rfl rfl (by omega) (by omega) ?_
              refine zs_iconst (n := 0) rfl ⟨by omega, by omega⟩ ?_
              refine zs_istore (i := 4) rfl (by decide) (by intro r x hr; have hr2 : r = 3 := (by omega); subst hr2; intro z; cases z) ?_
              show ZVV _ _ _ _ [ZR 8 0, ZI t, ZI s, ZI n, ZI 0] _ _
              exact l_X8_tape (by omega) 60 0 _ rfl (by unfold mTape; rw [if_neg (by omega), if_neg (by omega), if_neg (by omega), if_pos (show s < 0 by omega)]; exact ⟨rfl, rfl⟩)
          · refine zs_iload_n (j := 3) (i := 3) rfl rfl rfl ?_
            refine zs_if_ge 44 rfl (by omega) (fun hc_38 => ?_) (fun hc_38 => ?_)
            · refine zs_aload_n (j := 0) (i := 0) rfl rfl rfl ?_
              refine zs_getfield (f := 8) (k := 48) rfl rfl (trivial) ?_
              show ZVV _ _ _ _ _ (ZR 53 0 :: _) _
              refine zs_iload_n (j := 1) (i := 1) rfl rfl rfl ?_
              refine zs_iload_n (j := 2) (i := 2) rfl rfl rfl ?_
              refine zs_iast (n := 6) rfl rfl (by omega) (by omega) ?_
              refine zs_aload_n (j := 0) (i := 0) rfl rfl rfl ?_
              refine zs_getfield (f := 8) (k := 49) rfl rfl (trivial) ?_
              show ZVV _ _ _ _ _ (ZR 54 0 :: _) _
              show ZVV _ _ _ 55 _ _ _
              refine zs_iload_n (j := 1) (i := 1) rfl rfl rfl ?_
              refine zs_iload_n (j := 2) (i := 2) rfl rfl rfl ?_
              refine zs_if_ge 64 rfl (by omega) (fun hc_57 => ?_) (fun hc_57 => ?_)
              · refine zs_iload_n (j := 3) (i := 3) rfl rfl rfl ?_
                refine zs_iast (n := 6) rfl rfl (by omega) (by omega) ?_
                refine zs_iconst (n := 0) rfl ⟨by omega, by omega⟩ ?_
                refine zs_istore (i := 4) rfl (by decide) (by intro r x hr; have hr2 : r = 3 := (by omega); subst hr2; intro z; cases z) ?_
                show ZVV _ _ _ _ [ZR 8 0, ZI t, ZI s, ZI n, ZI 0] _ _
                exact l_X8_tape (by omega) 60 0 _ rfl (by unfold mTape; rw [if_neg (by omega), if_neg (by omega), if_neg (by omega), if_neg (show ¬ s < 0 by omega)]; exact ⟨rfl, rfl⟩)
              · refine zs_iconst (n := 0) rfl ⟨by omega, by omega⟩ ?_
                refine zs_goto 65 rfl (by omega) ?_
                refine zs_iast (n := 6) rfl rfl (by omega) (by omega) ?_
                refine zs_iconst (n := 0) rfl ⟨by omega, by omega⟩ ?_
                refine zs_istore (i := 4) rfl (by decide) (by intro r x hr; have hr2 : r = 3 := (by omega); subst hr2; intro z; cases z) ?_
                show ZVV _ _ _ _ [ZR 8 0, ZI t, ZI s, ZI n, ZI 0] _ _
                exact l_X8_tape (by omega) 60 0 _ rfl (by unfold mTape; rw [if_neg (by omega), if_neg (by omega), if_neg (by omega), if_pos (show s < 0 by omega)]; exact ⟨rfl, rfl⟩)
            · refine zs_bipush (n := (-14)) rfl ⟨by omega, by omega⟩ ?_
              exact zs_ireturn rfl rfl (by unfold mTape; rw [if_neg (by omega), if_neg (by omega), if_pos (by omega)]; exact ⟨rfl, rfl⟩)
        · refine zs_bipush (n := (-2)) rfl ⟨by omega, by omega⟩ ?_
          exact zs_ireturn rfl rfl (by unfold mTape; rw [if_neg (by omega), if_pos (by omega)]; exact ⟨rfl, rfl⟩)
  · refine zs_iconst (n := (-1)) rfl ⟨by omega, by omega⟩ ?_
    exact zs_ireturn rfl rfl (by unfold mTape; rw [if_pos (by omega)]; exact ⟨rfl, rfl⟩)

def mShift (g : ZG) (t i u j n : Int) : Int × ZG := if ¬ (0 ≤ t ∧ t ≤ 5) ∨ ¬ (0 ≤ u ∧ u ≤ 5) then (-1, g) else if g 53 0 t.toNat < 0 ∨ g 53 0 u.toNat < 0 then (-11, g) else if g 53 0 t.toNat ≠ g 53 0 u.toNat then (-12, g) else if n < 0 ∨ i < 0 ∨ j < 0 ∨ g 54 0 t.toNat - n < i ∨ g 54 0 u.toNat - n < j then (-13, g) else (n, zcpy (zcpy g 55 0 56 0 (60 * t + i).toNat 0 n.toNat) 56 0 55 0 0 (60 * u + j).toNat n.toNat)
theorem l_X8_shift2 {Y : ZW} {Q : Option ZV → ZG → Prop} {G : ZG} {t i u j n : Int} (ht : 0 ≤ t ∧ t ≤ 5) (hu : 0 ≤ u ∧ u ≤ 5) (hi : 0 ≤ i) (hj : 0 ≤ j) (hn : 0 ≤ n) (hin : i + n ≤ 60) (hjn : j + n ≤ 60) : ∀ (m k : Nat), (k : Int) + m = n → Q (some (ZI n)) (zcpy G 56 0 55 0 0 (60 * u + j).toNat n.toNat) → ZVV Y mX8_shift (zcx Y 3 Q) 141 [ZR 8 0, ZI t, ZI i, ZI u, ZI j, ZI n, ZI (k : Int)] [] (zcpy G 56 0 55 0 0 (60 * u + j).toNat k) := by
  intro m
  induction m with
  | zero =>
    intro k hk hq
    rw [show n.toNat = k by omega] at hq
    refine zs_iload (i := 6) rfl rfl ?_
    refine zs_iload (i := 5) rfl rfl ?_
    refine zs_icmp_ge 176 rfl (by omega) (fun hc_145 => ?_) (fun hc_145 => ?_)
    · refine zs_iload (i := 5) rfl rfl ?_
      exact zs_ireturn rfl rfl (hq)
    · exfalso; omega
  | succ m ih =>
    intro k hk hq
    have e56 : (zcpy G 56 0 55 0 0 (60 * u + j).toNat k) 56 = G 56 := by funext b c; unfold zcpy; rw [if_neg (fun z => absurd z.1 (by decide))]
    refine zs_iload (i := 6) rfl rfl ?_
    refine zs_iload (i := 5) rfl rfl ?_
    refine zs_icmp_ge 176 rfl (by omega) (fun hc_145 => ?_) (fun hc_145 => ?_)
    · exfalso; omega
    · refine zs_aload_n (j := 0) (i := 0) rfl rfl rfl ?_
      refine zs_getfield (f := 8) (k := 50) rfl rfl (trivial) ?_
      show ZVV _ _ _ _ _ (ZR 55 0 :: _) _
      refine zs_bipush (n := 60) rfl ⟨by omega, by omega⟩ ?_
      refine zs_iload_n (j := 3) (i := 3) rfl rfl rfl ?_
      refine zs_imul_r rfl ⟨by omega, by omega⟩ ?_
      refine zs_iload (i := 4) rfl rfl ?_
      refine zs_iadd_r rfl ⟨by omega, by omega⟩ ?_
      show ZVV _ _ _ 159 _ _ _
      refine zs_iload (i := 6) rfl rfl ?_
      refine zs_iadd_r rfl ⟨by omega, by omega⟩ ?_
      refine zs_aload_n (j := 0) (i := 0) rfl rfl rfl ?_
      refine zs_getfield (f := 8) (k := 51) rfl rfl (trivial) ?_
      show ZVV _ _ _ _ _ (ZR 56 0 :: _) _
      refine zs_iload (i := 6) rfl rfl ?_
      refine zs_lald (n := 60) rfl rfl (by omega) (by omega) ?_
      show ZVV _ _ _ _ _ (ZJ ((zcpy G 56 0 55 0 0 (60 * u + j).toNat k) 56 0 k) :: _) _
      rw [e56]
      refine zs_last (n := 360) rfl rfl (by omega) (by omega) ?_
      refine zs_iinc_r (i := 6) rfl rfl (by intro r x hr; have hr2 : r = 5 := (by omega); subst hr2; intro z; cases z) ⟨by omega, by omega⟩ ?_
      show ZVV _ _ _ _ [ZR 8 0, ZI t, ZI i, ZI u, ZI j, ZI n, ZI ((k : Int) + 1)] _ _
      show ZVV _ _ _ 173 _ _ _
      refine zs_goto 141 rfl (by omega) ?_
      rw [zcpy_s G 56 0 55 0 0 (60 * u + j).toNat k (by omega) (by rw [Nat.zero_add])]
      exact ih (k + 1) (by omega) hq
theorem l_X8_shift1 {Y : ZW} {Q : Option ZV → ZG → Prop} {g : ZG} {t i u j n : Int} (ht : 0 ≤ t ∧ t ≤ 5) (hu : 0 ≤ u ∧ u ≤ 5) (hi : 0 ≤ i) (hj : 0 ≤ j) (hn : 0 ≤ n) (hin : i + n ≤ 60) (hjn : j + n ≤ 60) : ∀ (m k : Nat), (k : Int) + m = n → Q (some (ZI n)) (zcpy (zcpy g 55 0 56 0 (60 * t + i).toNat 0 n.toNat) 56 0 55 0 0 (60 * u + j).toNat n.toNat) → ZVV Y mX8_shift (zcx Y 3 Q) 104 [ZR 8 0, ZI t, ZI i, ZI u, ZI j, ZI n, ZI (k : Int)] [] (zcpy g 55 0 56 0 (60 * t + i).toNat 0 k) := by
  intro m
  induction m with
  | zero =>
    intro k hk hq
    rw [show n.toNat = k by omega] at hq
    refine zs_iload (i := 6) rfl rfl ?_
    refine zs_iload (i := 5) rfl rfl ?_
    refine zs_icmp_ge 138 rfl (by omega) (fun hc_108 => ?_) (fun hc_108 => ?_)
    · refine zs_iconst (n := 0) rfl ⟨by omega, by omega⟩ ?_
      refine zs_istore (i := 6) rfl (by decide) (by intro r x hr; have hr2 : r = 5 := (by omega); subst hr2; intro z; cases z) ?_
      show ZVV _ _ _ _ [ZR 8 0, ZI t, ZI i, ZI u, ZI j, ZI n, ZI 0] _ _
      have := l_X8_shift2 (Y := Y) (Q := Q) (G := zcpy g 55 0 56 0 (60 * t + i).toNat 0 k) ht hu hi hj hn hin hjn n.toNat 0 (by omega) (by rw [show n.toNat = k by omega]; exact hq)
      rw [zcpy_0] at this
      exact this
    · exfalso; omega
  | succ m ih =>
    intro k hk hq
    have e55 : (zcpy g 55 0 56 0 (60 * t + i).toNat 0 k) 55 = g 55 := by funext b c; unfold zcpy; rw [if_neg (fun z => absurd z.1 (by decide))]
    refine zs_iload (i := 6) rfl rfl ?_
    refine zs_iload (i := 5) rfl rfl ?_
    refine zs_icmp_ge 138 rfl (by omega) (fun hc_108 => ?_) (fun hc_108 => ?_)
    · exfalso; omega
    · refine zs_aload_n (j := 0) (i := 0) rfl rfl rfl ?_
      refine zs_getfield (f := 8) (k := 51) rfl rfl (trivial) ?_
      show ZVV _ _ _ _ _ (ZR 56 0 :: _) _
      refine zs_iload (i := 6) rfl rfl ?_
      refine zs_aload_n (j := 0) (i := 0) rfl rfl rfl ?_
      refine zs_getfield (f := 8) (k := 50) rfl rfl (trivial) ?_
      show ZVV _ _ _ _ _ (ZR 55 0 :: _) _
      refine zs_bipush (n := 60) rfl ⟨by omega, by omega⟩ ?_
      refine zs_iload_n (j := 1) (i := 1) rfl rfl rfl ?_
      show ZVV _ _ _ 124 _ _ _
      refine zs_imul_r rfl ⟨by omega, by omega⟩ ?_
      refine zs_iload_n (j := 2) (i := 2) rfl rfl rfl ?_
      refine zs_iadd_r rfl ⟨by omega, by omega⟩ ?_
      refine zs_iload (i := 6) rfl rfl ?_
      refine zs_iadd_r rfl ⟨by omega, by omega⟩ ?_
      refine zs_lald (n := 360) rfl rfl (by omega) (by omega) ?_
      show ZVV _ _ _ _ _ (ZJ ((zcpy g 55 0 56 0 (60 * t + i).toNat 0 k) 55 0 (((60 * t) + i) + (k : Int)).toNat) :: _) _
      rw [e55]
      refine zs_last (n := 60) rfl rfl (by omega) (by omega) ?_
      show ZVV _ _ _ _ _ _ (zup (zcpy g 55 0 56 0 (60 * t + i).toNat 0 k) 56 0 k (g 55 0 (((60 * t) + i) + (k : Int)).toNat))
      refine zs_iinc_r (i := 6) rfl rfl (by intro r x hr; have hr2 : r = 5 := (by omega); subst hr2; intro z; cases z) ⟨by omega, by omega⟩ ?_
      show ZVV _ _ _ _ [ZR 8 0, ZI t, ZI i, ZI u, ZI j, ZI n, ZI ((k : Int) + 1)] _ _
      show ZVV _ _ _ 135 _ _ _
      refine zs_goto 104 rfl (by omega) ?_
      rw [zcpy_s g 55 0 56 0 (60 * t + i).toNat 0 k (by omega) (by congr 1; omega)]
      exact ih (k + 1) (by omega) hq
theorem c_X8_shift (t i u j n : Int) : ZC mX8_shift 3 (fun av g => av = [ZR 8 0, ZI t, ZI i, ZI u, ZI j, ZI n] ∧ (∀ q : Nat, q < 6 → 0 ≤ g 54 0 q ∧ g 54 0 q ≤ 60) ∧ True) (fun _ g r g' => r = some (ZI (mShift g t i u j n).1) ∧ g' = (mShift g t i u j n).2) := by
  refine zc_of gX8_shift (fun av g hp => by obtain ⟨rfl, -⟩ := hp; exact Nat.le_of_ble_eq_true rfl) (fun Y av g hwf hrg hp hok => ?_)
  obtain ⟨rfl, hp⟩ := hp
  show ZVV _ _ _ 0 [ZR 8 0, ZI t, ZI i, ZI u, ZI j, ZI n, ZX 99] [] _
  refine zs_aload_n (j := 0) (i := 0) rfl rfl rfl ?_
  refine zs_iload_n (j := 1) (i := 1) rfl rfl rfl ?_
  refine zs_callV (host := "") rfl kX8_364 vX8_isTape (c_X8_isTape t) [ZI t] [] rfl (zroom_of (by omega)) rfl (Nat.le_of_ble_eq_true rfl) (⟨rfl, trivial⟩) (fun r_2 g_2 hq_2 => ?_)
  obtain ⟨hr_2, hg_2⟩ := hq_2
  rw [hr_2, hg_2]
  show ZVV _ _ _ 5 _ [ZI (if 0 ≤ t ∧ t ≤ 5 then 1 else 0)] _
  refine zs_if_eq 16 rfl (by omega) (fun hc_5 => ?_) (fun hc_5 => ?_)
  · refine zs_iconst (n := (-1)) rfl ⟨by omega, by omega⟩ ?_
    exact zs_ireturn rfl rfl (by unfold mShift; first | (rw [if_pos (by omega)]; exact ⟨rfl, rfl⟩) | (rw [if_neg (by omega), if_pos (by omega)]; exact ⟨rfl, rfl⟩) | (rw [if_neg (by omega), if_neg (by omega), if_pos (by omega)]; exact ⟨rfl, rfl⟩) | (rw [if_neg (by omega), if_neg (by omega), if_neg (by omega), if_pos (by omega)]; exact ⟨rfl, rfl⟩) | (rw [if_neg (by omega), if_neg (by omega), if_neg (by omega), if_neg (by omega)]; exact ⟨rfl, rfl⟩))
  · refine zs_aload_n (j := 0) (i := 0) rfl rfl rfl ?_
    refine zs_iload_n (j := 3) (i := 3) rfl rfl rfl ?_
    refine zs_callV (host := "") rfl kX8_364 vX8_isTape (c_X8_isTape u) [ZI u] [] rfl (zroom_of (by omega)) rfl (Nat.le_of_ble_eq_true rfl) (⟨rfl, trivial⟩) (fun r_10 g_10 hq_10 => ?_)
    obtain ⟨hr_10, hg_10⟩ := hq_10
    rw [hr_10, hg_10]
    show ZVV _ _ _ 13 _ [ZI (if 0 ≤ u ∧ u ≤ 5 then 1 else 0)] _
    refine zs_if_ne 18 rfl (by omega) (fun hc_13 => ?_) (fun hc_13 => ?_)
    · have hnr : -2147483648 ≤ n ∧ n < 2147483648 := hok (ZI n) (by simp)
      have hl := hp.1 t.toNat (by omega)
      have hl2 := hp.1 u.toNat (by omega)
      refine zs_aload_n (j := 0) (i := 0) rfl rfl rfl ?_
      refine zs_getfield (f := 8) (k := 48) rfl rfl (trivial) ?_
      show ZVV _ _ _ _ _ (ZR 53 0 :: _) _
      refine zs_iload_n (j := 1) (i := 1) rfl rfl rfl ?_
      refine zs_iald (n := 6) rfl rfl (by omega) (by omega) ?_
      refine zs_if_lt 36 rfl (by omega) (fun hc_24 => ?_) (fun hc_24 => ?_)
      · refine zs_bipush (n := (-11)) rfl ⟨by omega, by omega⟩ ?_
        exact zs_ireturn rfl rfl (by unfold mShift; first | (rw [if_pos (by omega)]; exact ⟨rfl, rfl⟩) | (rw [if_neg (by omega), if_pos (by omega)]; exact ⟨rfl, rfl⟩) | (rw [if_neg (by omega), if_neg (by omega), if_pos (by omega)]; exact ⟨rfl, rfl⟩) | (rw [if_neg (by omega), if_neg (by omega), if_neg (by omega), if_pos (by omega)]; exact ⟨rfl, rfl⟩) | (rw [if_neg (by omega), if_neg (by omega), if_neg (by omega), if_neg (by omega)]; exact ⟨rfl, rfl⟩))
      · refine zs_aload_n (j := 0) (i := 0) rfl rfl rfl ?_
        refine zs_getfield (f := 8) (k := 48) rfl rfl (trivial) ?_
        show ZVV _ _ _ _ _ (ZR 53 0 :: _) _
        refine zs_iload_n (j := 3) (i := 3) rfl rfl rfl ?_
        refine zs_iald (n := 6) rfl rfl (by omega) (by omega) ?_
        refine zs_if_ge 39 rfl (by omega) (fun hc_33 => ?_) (fun hc_33 => ?_)
        · refine zs_aload_n (j := 0) (i := 0) rfl rfl rfl ?_
          refine zs_getfield (f := 8) (k := 48) rfl rfl (trivial) ?_
          show ZVV _ _ _ _ _ (ZR 53 0 :: _) _
          refine zs_iload_n (j := 1) (i := 1) rfl rfl rfl ?_
          refine zs_iald (n := 6) rfl rfl (by omega) (by omega) ?_
          refine zs_aload_n (j := 0) (i := 0) rfl rfl rfl ?_
          refine zs_getfield (f := 8) (k := 48) rfl rfl (trivial) ?_
          show ZVV _ _ _ _ _ (ZR 53 0 :: _) _
          refine zs_iload_n (j := 3) (i := 3) rfl rfl rfl ?_
          show ZVV _ _ _ 50 _ _ _
          refine zs_iald (n := 6) rfl rfl (by omega) (by omega) ?_
          refine zs_icmp_eq 57 rfl (by omega) (fun hc_51 => ?_) (fun hc_51 => ?_)
          · refine zs_iload (i := 5) rfl rfl ?_
            refine zs_if_lt 98 rfl (by omega) (fun hc_59 => ?_) (fun hc_59 => ?_)
            · refine zs_bipush (n := (-13)) rfl ⟨by omega, by omega⟩ ?_
              exact zs_ireturn rfl rfl (by unfold mShift; first | (rw [if_pos (by omega)]; exact ⟨rfl, rfl⟩) | (rw [if_neg (by omega), if_pos (by omega)]; exact ⟨rfl, rfl⟩) | (rw [if_neg (by omega), if_neg (by omega), if_pos (by omega)]; exact ⟨rfl, rfl⟩) | (rw [if_neg (by omega), if_neg (by omega), if_neg (by omega), if_pos (by omega)]; exact ⟨rfl, rfl⟩) | (rw [if_neg (by omega), if_neg (by omega), if_neg (by omega), if_neg (by omega)]; exact ⟨rfl, rfl⟩))
            · refine zs_iload_n (j := 2) (i := 2) rfl rfl rfl ?_
              refine zs_if_lt 98 rfl (by omega) (fun hc_63 => ?_) (fun hc_63 => ?_)
              · refine zs_bipush (n := (-13)) rfl ⟨by omega, by omega⟩ ?_
                exact zs_ireturn rfl rfl (by unfold mShift; first | (rw [if_pos (by omega)]; exact ⟨rfl, rfl⟩) | (rw [if_neg (by omega), if_pos (by omega)]; exact ⟨rfl, rfl⟩) | (rw [if_neg (by omega), if_neg (by omega), if_pos (by omega)]; exact ⟨rfl, rfl⟩) | (rw [if_neg (by omega), if_neg (by omega), if_neg (by omega), if_pos (by omega)]; exact ⟨rfl, rfl⟩) | (rw [if_neg (by omega), if_neg (by omega), if_neg (by omega), if_neg (by omega)]; exact ⟨rfl, rfl⟩))
              · refine zs_iload (i := 4) rfl rfl ?_
                refine zs_if_lt 98 rfl (by omega) (fun hc_68 => ?_) (fun hc_68 => ?_)
                · refine zs_bipush (n := (-13)) rfl ⟨by omega, by omega⟩ ?_
                  exact zs_ireturn rfl rfl (by unfold mShift; first | (rw [if_pos (by omega)]; exact ⟨rfl, rfl⟩) | (rw [if_neg (by omega), if_pos (by omega)]; exact ⟨rfl, rfl⟩) | (rw [if_neg (by omega), if_neg (by omega), if_pos (by omega)]; exact ⟨rfl, rfl⟩) | (rw [if_neg (by omega), if_neg (by omega), if_neg (by omega), if_pos (by omega)]; exact ⟨rfl, rfl⟩) | (rw [if_neg (by omega), if_neg (by omega), if_neg (by omega), if_neg (by omega)]; exact ⟨rfl, rfl⟩))
                · refine zs_iload_n (j := 2) (i := 2) rfl rfl rfl ?_
                  refine zs_aload_n (j := 0) (i := 0) rfl rfl rfl ?_
                  refine zs_getfield (f := 8) (k := 49) rfl rfl (trivial) ?_
                  show ZVV _ _ _ _ _ (ZR 54 0 :: _) _
                  refine zs_iload_n (j := 1) (i := 1) rfl rfl rfl ?_
                  refine zs_iald (n := 6) rfl rfl (by omega) (by omega) ?_
                  refine zs_iload (i := 5) rfl rfl ?_
                  refine zs_isub_r rfl ⟨by omega, by omega⟩ ?_
                  show ZVV _ _ _ 81 _ _ _
                  refine zs_icmp_gt 98 rfl (by omega) (fun hc_81 => ?_) (fun hc_81 => ?_)
                  · refine zs_bipush (n := (-13)) rfl ⟨by omega, by omega⟩ ?_
                    exact zs_ireturn rfl rfl (by unfold mShift; first | (rw [if_pos (by omega)]; exact ⟨rfl, rfl⟩) | (rw [if_neg (by omega), if_pos (by omega)]; exact ⟨rfl, rfl⟩) | (rw [if_neg (by omega), if_neg (by omega), if_pos (by omega)]; exact ⟨rfl, rfl⟩) | (rw [if_neg (by omega), if_neg (by omega), if_neg (by omega), if_pos (by omega)]; exact ⟨rfl, rfl⟩) | (rw [if_neg (by omega), if_neg (by omega), if_neg (by omega), if_neg (by omega)]; exact ⟨rfl, rfl⟩))
                  · refine zs_iload (i := 4) rfl rfl ?_
                    refine zs_aload_n (j := 0) (i := 0) rfl rfl rfl ?_
                    refine zs_getfield (f := 8) (k := 49) rfl rfl (trivial) ?_
                    show ZVV _ _ _ _ _ (ZR 54 0 :: _) _
                    refine zs_iload_n (j := 3) (i := 3) rfl rfl rfl ?_
                    refine zs_iald (n := 6) rfl rfl (by omega) (by omega) ?_
                    refine zs_iload (i := 5) rfl rfl ?_
                    refine zs_isub_r rfl ⟨by omega, by omega⟩ ?_
                    show ZVV _ _ _ 95 _ _ _
                    refine zs_icmp_le 101 rfl (by omega) (fun hc_95 => ?_) (fun hc_95 => ?_)
                    · refine zs_iconst (n := 0) rfl ⟨by omega, by omega⟩ ?_
                      refine zs_istore (i := 6) rfl (by decide) (by intro r x hr; have hr2 : r = 5 := (by omega); subst hr2; intro z; cases z) ?_
                      show ZVV _ _ _ _ [ZR 8 0, ZI t, ZI i, ZI u, ZI j, ZI n, ZI 0] _ _
                      have := l_X8_shift1 (Y := Y) (Q := fun r g' => r = some (ZI (mShift g t i u j n).1) ∧ g' = (mShift g t i u j n).2) (g := g) (t := t) (i := i) (u := u) (j := j) (n := n) (by omega) (by omega) (by omega) (by omega) (by omega) (by omega) (by omega) n.toNat 0 (by omega) (by unfold mShift; rw [if_neg (by omega), if_neg (by omega), if_neg (by omega), if_neg (by omega)]; exact ⟨rfl, rfl⟩)
                      rw [zcpy_0] at this
                      exact this
                    · refine zs_bipush (n := (-13)) rfl ⟨by omega, by omega⟩ ?_
                      exact zs_ireturn rfl rfl (by unfold mShift; first | (rw [if_pos (by omega)]; exact ⟨rfl, rfl⟩) | (rw [if_neg (by omega), if_pos (by omega)]; exact ⟨rfl, rfl⟩) | (rw [if_neg (by omega), if_neg (by omega), if_pos (by omega)]; exact ⟨rfl, rfl⟩) | (rw [if_neg (by omega), if_neg (by omega), if_neg (by omega), if_pos (by omega)]; exact ⟨rfl, rfl⟩) | (rw [if_neg (by omega), if_neg (by omega), if_neg (by omega), if_neg (by omega)]; exact ⟨rfl, rfl⟩))
          · refine zs_bipush (n := (-12)) rfl ⟨by omega, by omega⟩ ?_
            exact zs_ireturn rfl rfl (by unfold mShift; first | (rw [if_pos (by omega)]; exact ⟨rfl, rfl⟩) | (rw [if_neg (by omega), if_pos (by omega)]; exact ⟨rfl, rfl⟩) | (rw [if_neg (by omega), if_neg (by omega), if_pos (by omega)]; exact ⟨rfl, rfl⟩) | (rw [if_neg (by omega), if_neg (by omega), if_neg (by omega), if_pos (by omega)]; exact ⟨rfl, rfl⟩) | (rw [if_neg (by omega), if_neg (by omega), if_neg (by omega), if_neg (by omega)]; exact ⟨rfl, rfl⟩))
        · refine zs_bipush (n := (-11)) rfl ⟨by omega, by omega⟩ ?_
          exact zs_ireturn rfl rfl (by unfold mShift; first | (rw [if_pos (by omega)]; exact ⟨rfl, rfl⟩) | (rw [if_neg (by omega), if_pos (by omega)]; exact ⟨rfl, rfl⟩) | (rw [if_neg (by omega), if_neg (by omega), if_pos (by omega)]; exact ⟨rfl, rfl⟩) | (rw [if_neg (by omega), if_neg (by omega), if_neg (by omega), if_pos (by omega)]; exact ⟨rfl, rfl⟩) | (rw [if_neg (by omega), if_neg (by omega), if_neg (by omega), if_neg (by omega)]; exact ⟨rfl, rfl⟩))
    · refine zs_iconst (n := (-1)) rfl ⟨by omega, by omega⟩ ?_
      exact zs_ireturn rfl rfl (by unfold mShift; first | (rw [if_pos (by omega)]; exact ⟨rfl, rfl⟩) | (rw [if_neg (by omega), if_pos (by omega)]; exact ⟨rfl, rfl⟩) | (rw [if_neg (by omega), if_neg (by omega), if_pos (by omega)]; exact ⟨rfl, rfl⟩) | (rw [if_neg (by omega), if_neg (by omega), if_neg (by omega), if_pos (by omega)]; exact ⟨rfl, rfl⟩) | (rw [if_neg (by omega), if_neg (by omega), if_neg (by omega), if_neg (by omega)]; exact ⟨rfl, rfl⟩))

def mim (g : ZG) (k : Nat) : ZG := fun f i c => if i = 0 ∧ c < k ∧ (47 ≤ f ∧ f ≤ 50) then g (f - 17) 0 c else g f i c
def mun (g : ZG) (k : Nat) : ZG := fun f i c => if i = 0 ∧ c < k ∧ (30 ≤ f ∧ f ≤ 33) then g (f + 17) 0 c else g f i c
theorem mim_0 (g : ZG) : mim g 0 = g := by funext f i c; unfold mim; rw [if_neg (by omega)]
theorem mun_0 (g : ZG) : mun g 0 = g := by funext f i c; unfold mun; rw [if_neg (by omega)]
theorem mim_f (g : ZG) (k : Nat) {f : Nat} (h : f < 47 ∨ 50 < f) : mim g k f = g f := by funext i c; unfold mim; rw [if_neg (by omega)]
theorem mun_f (g : ZG) (k : Nat) {f : Nat} (h : f < 30 ∨ 33 < f) : mun g k f = g f := by funext i c; unfold mun; rw [if_neg (by omega)]
theorem mim_s (g : ZG) (k : Nat) : zup (zup (zup (zup (mim g k) 47 0 k (g 30 0 k)) 48 0 k (g 31 0 k)) 49 0 k (g 32 0 k)) 50 0 k (g 33 0 k) = mim g (k + 1) := by
  funext f i c
  unfold zup mim
  by_cases h : i = 0 ∧ c = k
  · obtain ⟨rfl, rfl⟩ := h
    by_cases h50 : f = 50
    · subst h50; simp
    · by_cases h49 : f = 49
      · subst h49; simp
      · by_cases h48 : f = 48
        · subst h48; simp
        · by_cases h47 : f = 47
          · subst h47; simp
          · rw [if_neg (fun z => h50 z.1), if_neg (fun z => h49 z.1), if_neg (fun z => h48 z.1), if_neg (fun z => h47 z.1), if_neg (by omega), if_neg (by omega)]
  · rw [if_neg (fun z => h ⟨z.2.2, z.2.1⟩), if_neg (fun z => h ⟨z.2.2, z.2.1⟩), if_neg (fun z => h ⟨z.2.2, z.2.1⟩), if_neg (fun z => h ⟨z.2.2, z.2.1⟩)]
    by_cases h2 : i = 0 ∧ c < k ∧ (47 ≤ f ∧ f ≤ 50)
    · rw [if_pos h2, if_pos ⟨h2.1, by omega, h2.2.2⟩]
    · rw [if_neg h2, if_neg (fun z => h2 ⟨z.1, by have := z.1; have := z.2.1; omega, z.2.2⟩)]
theorem mun_s (g : ZG) (k : Nat) : zup (zup (zup (zup (mun g k) 30 0 k (g 47 0 k)) 31 0 k (g 48 0 k)) 32 0 k (g 49 0 k)) 33 0 k (g 50 0 k) = mun g (k + 1) := by
  funext f i c
  unfold zup mun
  by_cases h : i = 0 ∧ c = k
  · obtain ⟨rfl, rfl⟩ := h
    by_cases h50 : f = 33
    · subst h50; simp
    · by_cases h49 : f = 32
      · subst h49; simp
      · by_cases h48 : f = 31
        · subst h48; simp
        · by_cases h47 : f = 30
          · subst h47; simp
          · rw [if_neg (fun z => h50 z.1), if_neg (fun z => h49 z.1), if_neg (fun z => h48 z.1), if_neg (fun z => h47 z.1), if_neg (by omega), if_neg (by omega)]
  · rw [if_neg (fun z => h ⟨z.2.2, z.2.1⟩), if_neg (fun z => h ⟨z.2.2, z.2.1⟩), if_neg (fun z => h ⟨z.2.2, z.2.1⟩), if_neg (fun z => h ⟨z.2.2, z.2.1⟩)]
    by_cases h2 : i = 0 ∧ c < k ∧ (30 ≤ f ∧ f ≤ 33)
    · rw [if_pos h2, if_pos ⟨h2.1, by omega, h2.2.2⟩]
    · rw [if_neg h2, if_neg (fun z => h2 ⟨z.1, by have := z.1; have := z.2.1; omega, z.2.2⟩)]
theorem l_X8_image2 {Y : ZW} {Q : Option ZV → ZG → Prop} {G : ZG} : ∀ (m k : Nat), (k : Int) + m = 12 → Q (some (ZI ((zcpy G 46 0 51 0 0 0 12) 8 0 2))) (zcpy G 46 0 51 0 0 0 12) → ZVV Y mX8_image (zcx Y 1 Q) 117 [ZR 8 0, ZI (k : Int)] [] (zcpy G 46 0 51 0 0 0 k) := by
  intro m
  induction m with
  | zero =>
    intro k hk hq
    have h12 : k = 12 := by omega
    subst h12
    refine zs_iload_n (j := 1) (i := 1) rfl rfl rfl ?_
    refine zs_bipush (n := 12) rfl ⟨by omega, by omega⟩ ?_
    refine zs_icmp_ge 141 rfl (by omega) (fun hc_120 => ?_) (fun hc_120 => ?_)
    · refine zs_aload_n (j := 0) (i := 0) rfl rfl rfl ?_
      refine zs_getfield (f := 8) (k := 2) rfl rfl (trivial) ?_
      show ZVV _ _ _ _ _ (ZI ((zcpy G 46 0 51 0 0 0 12) 8 0 2) :: _) _
      exact zs_ireturn rfl rfl (hq)
    · exfalso; omega
  | succ m ih =>
    intro k hk hq
    have es : (zcpy G 46 0 51 0 0 0 k) 46 = G 46 := by funext b c; unfold zcpy; rw [if_neg (fun z => absurd z.1 (by decide))]
    refine zs_iload_n (j := 1) (i := 1) rfl rfl rfl ?_
    refine zs_bipush (n := 12) rfl ⟨by omega, by omega⟩ ?_
    refine zs_icmp_ge 141 rfl (by omega) (fun hc_120 => ?_) (fun hc_120 => ?_)
    · exfalso; omega
    · refine zs_aload_n (j := 0) (i := 0) rfl rfl rfl ?_
      refine zs_getfield (f := 8) (k := 45) rfl rfl (trivial) ?_
      show ZVV _ _ _ _ _ (ZR 51 0 :: _) _
      refine zs_iload_n (j := 1) (i := 1) rfl rfl rfl ?_
      refine zs_aload_n (j := 0) (i := 0) rfl rfl rfl ?_
      refine zs_getfield (f := 8) (k := 33) rfl rfl (trivial) ?_
      show ZVV _ _ _ _ _ (ZR 46 0 :: _) _
      refine zs_iload_n (j := 1) (i := 1) rfl rfl rfl ?_
      refine zs_iald (n := 12) rfl rfl (by omega) (by omega) ?_
      show ZVV _ _ _ _ _ (ZI ((zcpy G 46 0 51 0 0 0 k) 46 0 k) :: _) _
      rw [es]
      show ZVV _ _ _ 134 _ _ _
      refine zs_iast (n := 12) rfl rfl (by omega) (by omega) ?_
      show ZVV _ _ _ _ _ _ (zup (zcpy G 46 0 51 0 0 0 k) 51 0 k (G 46 0 k))
      refine zs_iinc_r (i := 1) rfl rfl (by intro r x hr; have hr2 : r = 0 := (by omega); subst hr2; intro z; cases z) ⟨by omega, by omega⟩ ?_
      show ZVV _ _ _ _ [ZR 8 0, ZI ((k : Int) + 1)] _ _
      refine zs_goto 117 rfl (by omega) ?_
      rw [zcpy_s G 46 0 51 0 0 0 k (by omega) (by rw [Nat.zero_add])]
      exact ih (k + 1) (by omega) hq
theorem l_X8_image1 {Y : ZW} {Q : Option ZV → ZG → Prop} {g : ZG} : ∀ (m k : Nat), (k : Int) + m = 6 → Q (some (ZI ((zcpy (mim g 6) 46 0 51 0 0 0 12) 8 0 2))) (zcpy (mim g 6) 46 0 51 0 0 0 12) → ZVV Y mX8_image (zcx Y 1 Q) 55 [ZR 8 0, ZI (k : Int)] [] (mim g k) := by
  intro m
  induction m with
  | zero =>
    intro k hk hq
    have h6 : k = 6 := by omega
    subst h6
    refine zs_iload_n (j := 1) (i := 1) rfl rfl rfl ?_
    refine zs_bipush (n := 6) rfl ⟨by omega, by omega⟩ ?_
    refine zs_icmp_ge 115 rfl (by omega) (fun hc_58 => ?_) (fun hc_58 => ?_)
    · refine zs_iconst (n := 0) rfl ⟨by omega, by omega⟩ ?_
      refine zs_istore_n (j := 1) (i := 1) rfl rfl (by decide) (by intro r x hr; have hr2 : r = 0 := (by omega); subst hr2; intro z; cases z) ?_
      show ZVV _ _ _ _ [ZR 8 0, ZI 0] _ _
      have := l_X8_image2 (Y := Y) (Q := Q) (G := mim g 6) 12 0 (by omega) hq
      rw [zcpy_0] at this
      exact this
    · exfalso; omega
  | succ m ih =>
    intro k hk hq
    have e30 : (mim g k) 30 = g 30 := mim_f g k (by decide)
    have e31 : (mim g k) 31 = g 31 := mim_f g k (by decide)
    have e32 : (mim g k) 32 = g 32 := mim_f g k (by decide)
    have e33 : (mim g k) 33 = g 33 := mim_f g k (by decide)
    refine zs_iload_n (j := 1) (i := 1) rfl rfl rfl ?_
    refine zs_bipush (n := 6) rfl ⟨by omega, by omega⟩ ?_
    refine zs_icmp_ge 115 rfl (by omega) (fun hc_58 => ?_) (fun hc_58 => ?_)
    · exfalso; omega
    · refine zs_aload_n (j := 0) (i := 0) rfl rfl rfl ?_
      refine zs_getfield (f := 8) (k := 41) rfl rfl (trivial) ?_
      show ZVV _ _ _ _ _ (ZR 47 0 :: _) _
      refine zs_iload_n (j := 1) (i := 1) rfl rfl rfl ?_
      refine zs_aload_n (j := 0) (i := 0) rfl rfl rfl ?_
      refine zs_getfield (f := 8) (k := 4) rfl rfl (trivial) ?_
      show ZVV _ _ _ _ _ (ZR 30 0 :: _) _
      refine zs_iload_n (j := 1) (i := 1) rfl rfl rfl ?_
      refine zs_iald (n := 6) rfl rfl (by omega) (by omega) ?_
      show ZVV _ _ _ _ _ (ZI ((mim g k) 30 0 k) :: _) _
      rw [e30]
      show ZVV _ _ _ 72 _ _ _
      refine zs_iast (n := 6) rfl rfl (by omega) (by omega) ?_
      show ZVV _ _ _ _ _ _ (zup (mim g k) 47 0 k (g 30 0 k))
      refine zs_aload_n (j := 0) (i := 0) rfl rfl rfl ?_
      refine zs_getfield (f := 8) (k := 42) rfl rfl (trivial) ?_
      show ZVV _ _ _ _ _ (ZR 48 0 :: _) _
      refine zs_iload_n (j := 1) (i := 1) rfl rfl rfl ?_
      refine zs_aload_n (j := 0) (i := 0) rfl rfl rfl ?_
      refine zs_getfield (f := 8) (k := 5) rfl rfl (trivial) ?_
      show ZVV _ _ _ _ _ (ZR 31 0 :: _) _
      refine zs_iload_n (j := 1) (i := 1) rfl rfl rfl ?_
      refine zs_iald (n := 6) rfl rfl (by omega) (by omega) ?_
      show ZVV _ _ _ _ _ (ZI ((mim g k) 31 0 k) :: _) _
      rw [e31]
      show ZVV _ _ _ 84 _ _ _
      refine zs_iast (n := 6) rfl rfl (by omega) (by omega) ?_
      show ZVV _ _ _ _ _ _ (zup (zup (mim g k) 47 0 k (g 30 0 k)) 48 0 k (g 31 0 k))
      refine zs_aload_n (j := 0) (i := 0) rfl rfl rfl ?_
      refine zs_getfield (f := 8) (k := 43) rfl rfl (trivial) ?_
      show ZVV _ _ _ _ _ (ZR 49 0 :: _) _
      refine zs_iload_n (j := 1) (i := 1) rfl rfl rfl ?_
      refine zs_aload_n (j := 0) (i := 0) rfl rfl rfl ?_
      refine zs_getfield (f := 8) (k := 6) rfl rfl (trivial) ?_
      show ZVV _ _ _ _ _ (ZR 32 0 :: _) _
      refine zs_iload_n (j := 1) (i := 1) rfl rfl rfl ?_
      refine zs_iald (n := 6) rfl rfl (by omega) (by omega) ?_
      show ZVV _ _ _ _ _ (ZI ((mim g k) 32 0 k) :: _) _
      rw [e32]
      show ZVV _ _ _ 96 _ _ _
      refine zs_iast (n := 6) rfl rfl (by omega) (by omega) ?_
      show ZVV _ _ _ _ _ _ (zup (zup (zup (mim g k) 47 0 k (g 30 0 k)) 48 0 k (g 31 0 k)) 49 0 k (g 32 0 k))
      refine zs_aload_n (j := 0) (i := 0) rfl rfl rfl ?_
      refine zs_getfield (f := 8) (k := 44) rfl rfl (trivial) ?_
      show ZVV _ _ _ _ _ (ZR 50 0 :: _) _
      refine zs_iload_n (j := 1) (i := 1) rfl rfl rfl ?_
      refine zs_aload_n (j := 0) (i := 0) rfl rfl rfl ?_
      refine zs_getfield (f := 8) (k := 7) rfl rfl (trivial) ?_
      show ZVV _ _ _ _ _ (ZR 33 0 :: _) _
      refine zs_iload_n (j := 1) (i := 1) rfl rfl rfl ?_
      refine zs_iald (n := 6) rfl rfl (by omega) (by omega) ?_
      show ZVV _ _ _ _ _ (ZI ((mim g k) 33 0 k) :: _) _
      rw [e33]
      show ZVV _ _ _ 108 _ _ _
      refine zs_iast (n := 6) rfl rfl (by omega) (by omega) ?_
      show ZVV _ _ _ _ _ _ (zup (zup (zup (zup (mim g k) 47 0 k (g 30 0 k)) 48 0 k (g 31 0 k)) 49 0 k (g 32 0 k)) 50 0 k (g 33 0 k))
      refine zs_iinc_r (i := 1) rfl rfl (by intro r x hr; have hr2 : r = 0 := (by omega); subst hr2; intro z; cases z) ⟨by omega, by omega⟩ ?_
      show ZVV _ _ _ _ [ZR 8 0, ZI ((k : Int) + 1)] _ _
      refine zs_goto 55 rfl (by omega) ?_
      rw [mim_s]
      exact ih (k + 1) (by omega) hq
theorem l_X8_undo2 {Y : ZW} {Q : Option ZV → ZG → Prop} {G : ZG} : ∀ (m k : Nat), (k : Int) + m = 12 → Q (some (ZI ((zcpy G 51 0 46 0 0 0 12) 8 0 2))) (zcpy G 51 0 46 0 0 0 12) → ZVV Y mX8_undo (zcx Y 1 Q) 122 [ZR 8 0, ZI (k : Int)] [] (zcpy G 51 0 46 0 0 0 k) := by
  intro m
  induction m with
  | zero =>
    intro k hk hq
    have h12 : k = 12 := by omega
    subst h12
    refine zs_iload_n (j := 1) (i := 1) rfl rfl rfl ?_
    refine zs_bipush (n := 12) rfl ⟨by omega, by omega⟩ ?_
    refine zs_icmp_ge 146 rfl (by omega) (fun hc_125 => ?_) (fun hc_125 => ?_)
    · refine zs_aload_n (j := 0) (i := 0) rfl rfl rfl ?_
      refine zs_getfield (f := 8) (k := 2) rfl rfl (trivial) ?_
      show ZVV _ _ _ _ _ (ZI ((zcpy G 51 0 46 0 0 0 12) 8 0 2) :: _) _
      exact zs_ireturn rfl rfl (hq)
    · exfalso; omega
  | succ m ih =>
    intro k hk hq
    have es : (zcpy G 51 0 46 0 0 0 k) 51 = G 51 := by funext b c; unfold zcpy; rw [if_neg (fun z => absurd z.1 (by decide))]
    refine zs_iload_n (j := 1) (i := 1) rfl rfl rfl ?_
    refine zs_bipush (n := 12) rfl ⟨by omega, by omega⟩ ?_
    refine zs_icmp_ge 146 rfl (by omega) (fun hc_125 => ?_) (fun hc_125 => ?_)
    · exfalso; omega
    · refine zs_aload_n (j := 0) (i := 0) rfl rfl rfl ?_
      refine zs_getfield (f := 8) (k := 33) rfl rfl (trivial) ?_
      show ZVV _ _ _ _ _ (ZR 46 0 :: _) _
      refine zs_iload_n (j := 1) (i := 1) rfl rfl rfl ?_
      refine zs_aload_n (j := 0) (i := 0) rfl rfl rfl ?_
      refine zs_getfield (f := 8) (k := 45) rfl rfl (trivial) ?_
      show ZVV _ _ _ _ _ (ZR 51 0 :: _) _
      refine zs_iload_n (j := 1) (i := 1) rfl rfl rfl ?_
      refine zs_iald (n := 12) rfl rfl (by omega) (by omega) ?_
      show ZVV _ _ _ _ _ (ZI ((zcpy G 51 0 46 0 0 0 k) 51 0 k) :: _) _
      rw [es]
      show ZVV _ _ _ 139 _ _ _
      refine zs_iast (n := 12) rfl rfl (by omega) (by omega) ?_
      show ZVV _ _ _ _ _ _ (zup (zcpy G 51 0 46 0 0 0 k) 46 0 k (G 51 0 k))
      refine zs_iinc_r (i := 1) rfl rfl (by intro r x hr; have hr2 : r = 0 := (by omega); subst hr2; intro z; cases z) ⟨by omega, by omega⟩ ?_
      show ZVV _ _ _ _ [ZR 8 0, ZI ((k : Int) + 1)] _ _
      refine zs_goto 122 rfl (by omega) ?_
      rw [zcpy_s G 51 0 46 0 0 0 k (by omega) (by rw [Nat.zero_add])]
      exact ih (k + 1) (by omega) hq
theorem l_X8_undo1 {Y : ZW} {Q : Option ZV → ZG → Prop} {g : ZG} : ∀ (m k : Nat), (k : Int) + m = 6 → Q (some (ZI ((zcpy (mun g 6) 51 0 46 0 0 0 12) 8 0 2))) (zcpy (mun g 6) 51 0 46 0 0 0 12) → ZVV Y mX8_undo (zcx Y 1 Q) 60 [ZR 8 0, ZI (k : Int)] [] (mun g k) := by
  intro m
  induction m with
  | zero =>
    intro k hk hq
    have h6 : k = 6 := by omega
    subst h6
    refine zs_iload_n (j := 1) (i := 1) rfl rfl rfl ?_
    refine zs_bipush (n := 6) rfl ⟨by omega, by omega⟩ ?_
    refine zs_icmp_ge 120 rfl (by omega) (fun hc_63 => ?_) (fun hc_63 => ?_)
    · refine zs_iconst (n := 0) rfl ⟨by omega, by omega⟩ ?_
      refine zs_istore_n (j := 1) (i := 1) rfl rfl (by decide) (by intro r x hr; have hr2 : r = 0 := (by omega); subst hr2; intro z; cases z) ?_
      show ZVV _ _ _ _ [ZR 8 0, ZI 0] _ _
      have := l_X8_undo2 (Y := Y) (Q := Q) (G := mun g 6) 12 0 (by omega) hq
      rw [zcpy_0] at this
      exact this
    · exfalso; omega
  | succ m ih =>
    intro k hk hq
    have e47 : (mun g k) 47 = g 47 := mun_f g k (by decide)
    have e48 : (mun g k) 48 = g 48 := mun_f g k (by decide)
    have e49 : (mun g k) 49 = g 49 := mun_f g k (by decide)
    have e50 : (mun g k) 50 = g 50 := mun_f g k (by decide)
    refine zs_iload_n (j := 1) (i := 1) rfl rfl rfl ?_
    refine zs_bipush (n := 6) rfl ⟨by omega, by omega⟩ ?_
    refine zs_icmp_ge 120 rfl (by omega) (fun hc_63 => ?_) (fun hc_63 => ?_)
    · exfalso; omega
    · refine zs_aload_n (j := 0) (i := 0) rfl rfl rfl ?_
      refine zs_getfield (f := 8) (k := 4) rfl rfl (trivial) ?_
      show ZVV _ _ _ _ _ (ZR 30 0 :: _) _
      refine zs_iload_n (j := 1) (i := 1) rfl rfl rfl ?_
      refine zs_aload_n (j := 0) (i := 0) rfl rfl rfl ?_
      refine zs_getfield (f := 8) (k := 41) rfl rfl (trivial) ?_
      show ZVV _ _ _ _ _ (ZR 47 0 :: _) _
      refine zs_iload_n (j := 1) (i := 1) rfl rfl rfl ?_
      refine zs_iald (n := 6) rfl rfl (by omega) (by omega) ?_
      show ZVV _ _ _ _ _ (ZI ((mun g k) 47 0 k) :: _) _
      rw [e47]
      show ZVV _ _ _ 77 _ _ _
      refine zs_iast (n := 6) rfl rfl (by omega) (by omega) ?_
      show ZVV _ _ _ _ _ _ (zup (mun g k) 30 0 k (g 47 0 k))
      refine zs_aload_n (j := 0) (i := 0) rfl rfl rfl ?_
      refine zs_getfield (f := 8) (k := 5) rfl rfl (trivial) ?_
      show ZVV _ _ _ _ _ (ZR 31 0 :: _) _
      refine zs_iload_n (j := 1) (i := 1) rfl rfl rfl ?_
      refine zs_aload_n (j := 0) (i := 0) rfl rfl rfl ?_
      refine zs_getfield (f := 8) (k := 42) rfl rfl (trivial) ?_
      show ZVV _ _ _ _ _ (ZR 48 0 :: _) _
      refine zs_iload_n (j := 1) (i := 1) rfl rfl rfl ?_
      refine zs_iald (n := 6) rfl rfl (by omega) (by omega) ?_
      show ZVV _ _ _ _ _ (ZI ((mun g k) 48 0 k) :: _) _
      rw [e48]
      show ZVV _ _ _ 89 _ _ _
      refine zs_iast (n := 6) rfl rfl (by omega) (by omega) ?_
      show ZVV _ _ _ _ _ _ (zup (zup (mun g k) 30 0 k (g 47 0 k)) 31 0 k (g 48 0 k))
      refine zs_aload_n (j := 0) (i := 0) rfl rfl rfl ?_
      refine zs_getfield (f := 8) (k := 6) rfl rfl (trivial) ?_
      show ZVV _ _ _ _ _ (ZR 32 0 :: _) _
      refine zs_iload_n (j := 1) (i := 1) rfl rfl rfl ?_
      refine zs_aload_n (j := 0) (i := 0) rfl rfl rfl ?_
      refine zs_getfield (f := 8) (k := 43) rfl rfl (trivial) ?_
      show ZVV _ _ _ _ _ (ZR 49 0 :: _) _
      refine zs_iload_n (j := 1) (i := 1) rfl rfl rfl ?_
      refine zs_iald (n := 6) rfl rfl (by omega) (by omega) ?_
      show ZVV _ _ _ _ _ (ZI ((mun g k) 49 0 k) :: _) _
      rw [e49]
      show ZVV _ _ _ 101 _ _ _
      refine zs_iast (n := 6) rfl rfl (by omega) (by omega) ?_
      show ZVV _ _ _ _ _ _ (zup (zup (zup (mun g k) 30 0 k (g 47 0 k)) 31 0 k (g 48 0 k)) 32 0 k (g 49 0 k))
      refine zs_aload_n (j := 0) (i := 0) rfl rfl rfl ?_
      refine zs_getfield (f := 8) (k := 7) rfl rfl (trivial) ?_
      show ZVV _ _ _ _ _ (ZR 33 0 :: _) _
      refine zs_iload_n (j := 1) (i := 1) rfl rfl rfl ?_
      refine zs_aload_n (j := 0) (i := 0) rfl rfl rfl ?_
      refine zs_getfield (f := 8) (k := 44) rfl rfl (trivial) ?_
      show ZVV _ _ _ _ _ (ZR 50 0 :: _) _
      refine zs_iload_n (j := 1) (i := 1) rfl rfl rfl ?_
      refine zs_iald (n := 6) rfl rfl (by omega) (by omega) ?_
      show ZVV _ _ _ _ _ (ZI ((mun g k) 50 0 k) :: _) _
      rw [e50]
      show ZVV _ _ _ 113 _ _ _
      refine zs_iast (n := 6) rfl rfl (by omega) (by omega) ?_
      show ZVV _ _ _ _ _ _ (zup (zup (zup (zup (mun g k) 30 0 k (g 47 0 k)) 31 0 k (g 48 0 k)) 32 0 k (g 49 0 k)) 33 0 k (g 50 0 k))
      refine zs_iinc_r (i := 1) rfl rfl (by intro r x hr; have hr2 : r = 0 := (by omega); subst hr2; intro z; cases z) ⟨by omega, by omega⟩ ?_
      show ZVV _ _ _ _ [ZR 8 0, ZI ((k : Int) + 1)] _ _
      refine zs_goto 60 rfl (by omega) ?_
      rw [mun_s]
      exact ih (k + 1) (by omega) hq
def mImg (g : ZG) : ZG := zup (zup (zup (zup (zup (zup (zup g 8 0 34 1) 8 0 35 (g 8 0 9)) 8 0 36 (g 8 0 0)) 8 0 37 (g 8 0 1)) 8 0 38 (g 8 0 2)) 8 0 39 (g 8 0 3)) 8 0 40 (g 8 0 32)
def mUnd (g : ZG) : ZG := zup (zup (zup (zup (zup (zup g 8 0 9 (g 8 0 35)) 8 0 0 (g 8 0 36)) 8 0 1 (g 8 0 37)) 8 0 2 (g 8 0 38)) 8 0 3 (g 8 0 39)) 8 0 32 (g 8 0 40)
def mImage (g : ZG) : Int × ZG := (g 8 0 2, zcpy (mim (mImg g) 6) 46 0 51 0 0 0 12)
def mUndo (g : ZG) : Int × ZG := if g 8 0 34 = 0 then (-3, g) else (g 8 0 38, zcpy (mun (mUnd g) 6) 51 0 46 0 0 0 12)
theorem c_X8_image  : ZC mX8_image 1 (fun av g => av = [ZR 8 0] ∧ True) (fun _ g r g' => r = some (ZI (mImage g).1) ∧ g' = (mImage g).2) := by
  refine zc_of gX8_image (fun av g hp => by obtain ⟨rfl, -⟩ := hp; exact Nat.le_of_ble_eq_true rfl) (fun Y av g hwf hrg hp hok => ?_)
  obtain ⟨rfl, hp⟩ := hp
  show ZVV _ _ _ 0 [ZR 8 0, ZX 99] [] _
  refine zs_aload_n (j := 0) (i := 0) rfl rfl rfl ?_
  refine zs_iconst (n := 1) rfl ⟨by omega, by omega⟩ ?_
  refine zs_putfield (f := 8) (k := 34) (x := 1) rfl rfl (zpvZ (x := 1) ⟨by omega, by omega⟩) ?_
  refine zs_aload_n (j := 0) (i := 0) rfl rfl rfl ?_
  refine zs_aload_n (j := 0) (i := 0) rfl rfl rfl ?_
  refine zs_getfield (f := 8) (k := 9) rfl rfl (trivial) ?_
  show ZVV _ _ _ _ _ (ZI (g 8 0 9) :: _) _
  refine zs_putfield (f := 8) (k := 35) (x := g 8 0 9) rfl rfl (rfl) ?_
  show ZVV _ _ _ 13 _ _ _
  refine zs_aload_n (j := 0) (i := 0) rfl rfl rfl ?_
  refine zs_aload_n (j := 0) (i := 0) rfl rfl rfl ?_
  refine zs_getfield (f := 8) (k := 0) rfl rfl (trivial) ?_
  show ZVV _ _ _ _ _ (ZI (g 8 0 0) :: _) _
  refine zs_putfield (f := 8) (k := 36) (x := g 8 0 0) rfl rfl (rfl) ?_
  refine zs_aload_n (j := 0) (i := 0) rfl rfl rfl ?_
  refine zs_aload_n (j := 0) (i := 0) rfl rfl rfl ?_
  refine zs_getfield (f := 8) (k := 1) rfl rfl (trivial) ?_
  show ZVV _ _ _ _ _ (ZI (g 8 0 1) :: _) _
  refine zs_putfield (f := 8) (k := 37) (x := g 8 0 1) rfl rfl (rfl) ?_
  show ZVV _ _ _ 29 _ _ _
  refine zs_aload_n (j := 0) (i := 0) rfl rfl rfl ?_
  refine zs_aload_n (j := 0) (i := 0) rfl rfl rfl ?_
  refine zs_getfield (f := 8) (k := 2) rfl rfl (trivial) ?_
  show ZVV _ _ _ _ _ (ZI (g 8 0 2) :: _) _
  refine zs_putfield (f := 8) (k := 38) (x := g 8 0 2) rfl rfl (rfl) ?_
  refine zs_aload_n (j := 0) (i := 0) rfl rfl rfl ?_
  refine zs_aload_n (j := 0) (i := 0) rfl rfl rfl ?_
  refine zs_getfield (f := 8) (k := 3) rfl rfl (trivial) ?_
  show ZVV _ _ _ _ _ (ZI (g 8 0 3) :: _) _
  refine zs_putfield (f := 8) (k := 39) (x := g 8 0 3) rfl rfl (rfl) ?_
  show ZVV _ _ _ 45 _ _ _
  refine zs_aload_n (j := 0) (i := 0) rfl rfl rfl ?_
  refine zs_aload_n (j := 0) (i := 0) rfl rfl rfl ?_
  refine zs_getfield (f := 8) (k := 32) rfl rfl (trivial) ?_
  show ZVV _ _ _ _ _ (ZI (g 8 0 32) :: _) _
  refine zs_putfield (f := 8) (k := 40) (x := g 8 0 32) rfl rfl (rfl) ?_
  refine zs_iconst (n := 0) rfl ⟨by omega, by omega⟩ ?_
  refine zs_istore_n (j := 1) (i := 1) rfl rfl (by decide) (by intro r x hr; have hr2 : r = 0 := (by omega); subst hr2; intro z; cases z) ?_
  show ZVV _ _ _ _ [ZR 8 0, ZI 0] _ _
  have hh := l_X8_image1 (Y := Y) (Q := fun r g' => r = some (ZI (mImage g).1) ∧ g' = (mImage g).2) (g := mImg g) 6 0 (by omega) ⟨rfl, rfl⟩
  rw [mim_0] at hh
  exact hh

theorem c_X8_undo  : ZC mX8_undo 1 (fun av g => av = [ZR 8 0] ∧ True) (fun _ g r g' => r = some (ZI (mUndo g).1) ∧ g' = (mUndo g).2) := by
  refine zc_of gX8_undo (fun av g hp => by obtain ⟨rfl, -⟩ := hp; exact Nat.le_of_ble_eq_true rfl) (fun Y av g hwf hrg hp hok => ?_)
  obtain ⟨rfl, hp⟩ := hp
  show ZVV _ _ _ 0 [ZR 8 0, ZX 99] [] _
  refine zs_aload_n (j := 0) (i := 0) rfl rfl rfl ?_
  refine zs_getfield (f := 8) (k := 34) rfl rfl (trivial) ?_
  show ZVV _ _ _ _ _ (ZI (g 8 0 34) :: _) _
  refine zs_if_ne 10 rfl (by omega) (fun hc_4 => ?_) (fun hc_4 => ?_)
  · refine zs_aload_n (j := 0) (i := 0) rfl rfl rfl ?_
    refine zs_aload_n (j := 0) (i := 0) rfl rfl rfl ?_
    refine zs_getfield (f := 8) (k := 35) rfl rfl (trivial) ?_
    show ZVV _ _ _ _ _ (ZI (g 8 0 35) :: _) _
    refine zs_putfield (f := 8) (k := 9) (x := g 8 0 35) rfl rfl (rfl) ?_
    refine zs_aload_n (j := 0) (i := 0) rfl rfl rfl ?_
    refine zs_aload_n (j := 0) (i := 0) rfl rfl rfl ?_
    refine zs_getfield (f := 8) (k := 36) rfl rfl (trivial) ?_
    show ZVV _ _ _ _ _ (ZI (g 8 0 36) :: _) _
    show ZVV _ _ _ 23 _ _ _
    refine zs_putfield (f := 8) (k := 0) (x := g 8 0 36) rfl rfl (rfl) ?_
    refine zs_aload_n (j := 0) (i := 0) rfl rfl rfl ?_
    refine zs_aload_n (j := 0) (i := 0) rfl rfl rfl ?_
    refine zs_getfield (f := 8) (k := 37) rfl rfl (trivial) ?_
    show ZVV _ _ _ _ _ (ZI (g 8 0 37) :: _) _
    refine zs_putfield (f := 8) (k := 1) (x := g 8 0 37) rfl rfl (rfl) ?_
    refine zs_aload_n (j := 0) (i := 0) rfl rfl rfl ?_
    refine zs_aload_n (j := 0) (i := 0) rfl rfl rfl ?_
    refine zs_getfield (f := 8) (k := 38) rfl rfl (trivial) ?_
    show ZVV _ _ _ _ _ (ZI (g 8 0 38) :: _) _
    show ZVV _ _ _ 39 _ _ _
    refine zs_putfield (f := 8) (k := 2) (x := g 8 0 38) rfl rfl (rfl) ?_
    refine zs_aload_n (j := 0) (i := 0) rfl rfl rfl ?_
    refine zs_aload_n (j := 0) (i := 0) rfl rfl rfl ?_
    refine zs_getfield (f := 8) (k := 39) rfl rfl (trivial) ?_
    show ZVV _ _ _ _ _ (ZI (g 8 0 39) :: _) _
    refine zs_putfield (f := 8) (k := 3) (x := g 8 0 39) rfl rfl (rfl) ?_
    refine zs_aload_n (j := 0) (i := 0) rfl rfl rfl ?_
    refine zs_aload_n (j := 0) (i := 0) rfl rfl rfl ?_
    refine zs_getfield (f := 8) (k := 40) rfl rfl (trivial) ?_
    show ZVV _ _ _ _ _ (ZI (g 8 0 40) :: _) _
    show ZVV _ _ _ 55 _ _ _
    refine zs_putfield (f := 8) (k := 32) (x := g 8 0 40) rfl rfl (rfl) ?_
    refine zs_iconst (n := 0) rfl ⟨by omega, by omega⟩ ?_
    refine zs_istore_n (j := 1) (i := 1) rfl rfl (by decide) (by intro r x hr; have hr2 : r = 0 := (by omega); subst hr2; intro z; cases z) ?_
    show ZVV _ _ _ _ [ZR 8 0, ZI 0] _ _
    have hh := l_X8_undo1 (Y := Y) (Q := fun r g' => r = some (ZI (mUndo g).1) ∧ g' = (mUndo g).2) (g := mUnd g) 6 0 (by omega) ⟨by unfold mUndo; rw [if_neg (by omega)]; rfl, by unfold mUndo; rw [if_neg (by omega)]⟩
    rw [mun_0] at hh
    exact hh
  · refine zs_bipush (n := (-3)) rfl ⟨by omega, by omega⟩ ?_
    exact zs_ireturn rfl rfl (by unfold mUndo; rw [if_pos (by omega)]; exact ⟨rfl, rfl⟩)

