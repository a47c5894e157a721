theorem zif_iff {p q : Prop} {d : Decidable p} {e : Decidable q} (h : p ↔ q) : (if p then (1 : Int) else 0) = if q then 1 else 0 := by
  by_cases hp : p
  · rw [if_pos hp, if_pos (h.mp hp)]
  · rw [if_neg hp, if_neg (fun z => hp (h.mpr z))]
theorem zbt {b : Bool} {x : Int} (h : x = 1 ∧ b = true ∨ x = 0 ∧ b = false) : x = if b = true then 1 else 0 := by
  rcases h with ⟨rfl, rfl⟩ | ⟨rfl, rfl⟩ <;> rfl
theorem zor_0 {n : Nat} (h : n < 2147483648) : zor (n : Int) 0 = n := by
  have := zor_n (a := n) (b := 0) h (by decide)
  rwa [Nat.or_zero] at this
theorem c_X8_in (x a b : Int) : ZC mX8_in 1 (fun av g => av = [ZR 8 0, ZI x, ZI a, ZI b] ∧ True) (fun _ g r g' => r = some (ZI (if a ≤ x ∧ x ≤ b then 1 else 0)) ∧ g' = g) := by
  refine zc_of gX8_in (fun av g hp => by obtain ⟨rfl, -⟩ := hp; exact Nat.le_of_ble_eq_true rfl) (fun Y av g hwf hrg hp hok => ?_)
  obtain ⟨rfl, hp⟩ := hp
  show ZVV _ _ _ 0 [ZR 8 0, ZI x, ZI a, ZI b] [] _
  refine zs_iload_n (j := 1) (i := 1) rfl rfl rfl ?_
  refine zs_iload_n (j := 2) (i := 2) rfl rfl rfl ?_
  refine zs_icmp_lt 14 rfl (by omega) (fun hc_2 => ?_) (fun hc_2 => ?_)
  · refine zs_iconst (n := 0) rfl ⟨by omega, by omega⟩ ?_
    exact zs_zreturn rfl rfl (by omega) (⟨by first | rw [if_pos (by omega)] | rw [if_neg (by omega)], rfl⟩)
  · refine zs_iload_n (j := 1) (i := 1) rfl rfl rfl ?_
    refine zs_iload_n (j := 3) (i := 3) rfl rfl rfl ?_
    refine zs_icmp_gt 14 rfl (by omega) (fun hc_7 => ?_) (fun hc_7 => ?_)
    · refine zs_iconst (n := 0) rfl ⟨by omega, by omega⟩ ?_
      exact zs_zreturn rfl rfl (by omega) (⟨by first | rw [if_pos (by omega)] | rw [if_neg (by omega)], rfl⟩)
    · refine zs_iconst (n := 1) rfl ⟨by omega, by omega⟩ ?_
      refine zs_goto 15 rfl (by omega) ?_
      exact zs_zreturn rfl rfl (by omega) (⟨by first | rw [if_pos (by omega)] | rw [if_neg (by omega)], rfl⟩)

theorem c_X8_isHouse (h : Int) : ZC mX8_isHouse 2 (fun av g => av = [ZR 8 0, ZI h] ∧ 0 ≤ g 8 0 0 ∧ g 8 0 0 ≤ 8) (fun _ g r g' => r = some (ZI (if 0 ≤ h ∧ h < g 8 0 0 then 1 else 0)) ∧ g' = g) := by
  refine zc_of gX8_isHouse (fun av g hp => by obtain ⟨rfl, -⟩ := hp; exact Nat.le_of_ble_eq_true rfl) (fun Y av g hwf hrg hp hok => ?_)
  obtain ⟨rfl, hp⟩ := hp
  show ZVV _ _ _ 0 [ZR 8 0, ZI h] [] _
  refine zs_aload_n (j := 0) (i := 0) rfl rfl rfl ?_
  refine zs_iload_n (j := 1) (i := 1) rfl rfl rfl ?_
  refine zs_iconst (n := 0) rfl ⟨by omega, by omega⟩ ?_
  refine zs_aload_n (j := 0) (i := 0) rfl rfl rfl ?_
  refine zs_getfield (f := 8) (k := 0) rfl rfl (trivial) ?_
  show ZVV _ _ _ _ _ (ZI (g 8 0 0) :: _) _
  refine zs_iconst (n := 1) rfl ⟨by omega, by omega⟩ ?_
  refine zs_isub_r rfl ⟨by omega, by omega⟩ ?_
  show ZVV _ _ _ 9 _ _ _
  refine zs_callV (host := "") rfl kX8_170 vX8_in (c_X8_in h 0 ((g 8 0 0) - 1)) [ZI h, ZI 0, ZI ((g 8 0 0) - 1)] [] rfl (zroom_of (by omega)) rfl (Nat.le_of_ble_eq_true rfl) (⟨rfl, trivial⟩) (fun r_9 g_9 hq_9 => ?_)
  obtain ⟨hr_9, hg_9⟩ := hq_9
  rw [hr_9, hg_9]
  show ZVV _ _ _ 12 _ [ZI (if 0 ≤ h ∧ h ≤ (g 8 0 0) - 1 then 1 else 0)] _
  exact zs_zreturn rfl rfl (by omega) (⟨by rw [zif_iff (p := 0 ≤ h ∧ h ≤ g 8 0 0 - 1) (q := 0 ≤ h ∧ h < g 8 0 0) (by omega)], rfl⟩)

theorem c_X8_isPerson (h : Int) : ZC mX8_isPerson 2 (fun av g => av = [ZR 8 0, ZI h] ∧ 0 ≤ g 8 0 2 ∧ g 8 0 2 ≤ 8) (fun _ g r g' => r = some (ZI (if 0 ≤ h ∧ h < g 8 0 2 then 1 else 0)) ∧ g' = g) := by
  refine zc_of gX8_isPerson (fun av g hp => by obtain ⟨rfl, -⟩ := hp; exact Nat.le_of_ble_eq_true rfl) (fun Y av g hwf hrg hp hok => ?_)
  obtain ⟨rfl, hp⟩ := hp
  show ZVV _ _ _ 0 [ZR 8 0, ZI h] [] _
  refine zs_aload_n (j := 0) (i := 0) rfl rfl rfl ?_
  refine zs_iload_n (j := 1) (i := 1) rfl rfl rfl ?_
  refine zs_iconst (n := 0) rfl ⟨by omega, by omega⟩ ?_
  refine zs_aload_n (j := 0) (i := 0) rfl rfl rfl ?_
  refine zs_getfield (f := 8) (k := 2) rfl rfl (trivial) ?_
  show ZVV _ _ _ _ _ (ZI (g 8 0 2) :: _) _
  refine zs_iconst (n := 1) rfl ⟨by omega, by omega⟩ ?_
  refine zs_isub_r rfl ⟨by omega, by omega⟩ ?_
  show ZVV _ _ _ 9 _ _ _
  refine zs_callV (host := "") rfl kX8_170 vX8_in (c_X8_in h 0 ((g 8 0 2) - 1)) [ZI h, ZI 0, ZI ((g 8 0 2) - 1)] [] rfl (zroom_of (by omega)) rfl (Nat.le_of_ble_eq_true rfl) (⟨rfl, trivial⟩) (fun r_9 g_9 hq_9 => ?_)
  obtain ⟨hr_9, hg_9⟩ := hq_9
  rw [hr_9, hg_9]
  show ZVV _ _ _ 12 _ [ZI (if 0 ≤ h ∧ h ≤ (g 8 0 2) - 1 then 1 else 0)] _
  exact zs_zreturn rfl rfl (by omega) (⟨by rw [zif_iff (p := 0 ≤ h ∧ h ≤ g 8 0 2 - 1) (q := 0 ≤ h ∧ h < g 8 0 2) (by omega)], rfl⟩)

theorem c_X8_isTape (h : Int) : ZC mX8_isTape 2 (fun av g => av = [ZR 8 0, ZI h] ∧ True) (fun _ g r g' => r = some (ZI (if 0 ≤ h ∧ h ≤ 5 then 1 else 0)) ∧ g' = g) := by
  refine zc_of gX8_isTape (fun av g hp => by obtain ⟨rfl, -⟩ := hp; exact Nat.le_of_ble_eq_true rfl) (fun Y av g hwf hrg hp hok => ?_)
  obtain ⟨rfl, hp⟩ := hp
  show ZVV _ _ _ 0 [ZR 8 0, ZI h] [] _
  refine zs_aload_n (j := 0) (i := 0) rfl rfl rfl ?_
  refine zs_iload_n (j := 1) (i := 1) rfl rfl rfl ?_
  refine zs_iconst (n := 0) rfl ⟨by omega, by omega⟩ ?_
  refine zs_iconst (n := 5) rfl ⟨by omega, by omega⟩ ?_
  refine zs_callV (host := "") rfl kX8_170 vX8_in (c_X8_in h 0 5) [ZI h, ZI 0, ZI 5] [] rfl (zroom_of (by omega)) rfl (Nat.le_of_ble_eq_true rfl) (⟨rfl, trivial⟩) (fun r_4 g_4 hq_4 => ?_)
  obtain ⟨hr_4, hg_4⟩ := hq_4
  rw [hr_4, hg_4]
  show ZVV _ _ _ 7 _ [ZI (if 0 ≤ h ∧ h ≤ 5 then 1 else 0)] _
  exact zs_zreturn rfl rfl (by omega) (⟨rfl, rfl⟩)

theorem c_X8_has (n : Nat) (k : Int) : ZC mX8_has 1 (fun av g => av = [ZR 8 0, ZI (n : Int), ZI k] ∧ n < 2147483648 ∧ 0 ≤ k ∧ k < 31) (fun _ g r g' => r = some (ZI (if n.testBit k.toNat = true then 1 else 0)) ∧ g' = g) := by
  refine zc_of gX8_has (fun av g hp => by obtain ⟨rfl, -⟩ := hp; exact Nat.le_of_ble_eq_true rfl) (fun Y av g hwf hrg hp hok => ?_)
  obtain ⟨rfl, hp⟩ := hp
  show ZVV _ _ _ 0 [ZR 8 0, ZI (n : Int), ZI k] [] _
  refine zs_iload_n (j := 1) (i := 1) rfl rfl rfl ?_
  refine zs_iload_n (j := 2) (i := 2) rfl rfl rfl ?_
  refine zs_ishr rfl ?_
  refine zs_iconst (n := 1) rfl ⟨by omega, by omega⟩ ?_
  refine zs_iand rfl ?_
  have hz : zand (zshr (n : Int) k) 1 = if n.testBit k.toNat = true then 1 else 0 := by
    have := zand1 (a := n) (k := k.toNat) hp.1 (by omega)
    rwa [show ((k.toNat : Nat) : Int) = k by omega] at this
  rw [hz]
  refine zs_iconst (n := 1) rfl ⟨by omega, by omega⟩ ?_
  refine zs_icmp_ne 13 rfl (by omega) (fun hc_6 => ?_) (fun hc_6 => ?_)
  · refine zs_iconst (n := 0) rfl ⟨by omega, by omega⟩ ?_
    exact zs_zreturn rfl rfl (by omega) (⟨by first | rw [if_pos (zhd1 hc_6)] | rw [if_neg (zhd0 hc_6)], rfl⟩)
  · refine zs_iconst (n := 1) rfl ⟨by omega, by omega⟩ ?_
    refine zs_goto 14 rfl (by omega) ?_
    exact zs_zreturn rfl rfl (by omega) (⟨by first | rw [if_pos (zhd1 hc_6)] | rw [if_neg (zhd0 hc_6)], rfl⟩)

theorem c_X8_areNext (a b : Int) : ZC mX8_areNext 2 (fun av g => av = [ZR 8 0, ZI a, ZI b] ∧ (0 ≤ a ∧ a < 9) ∧ (0 ≤ b ∧ b < 9) ∧ (3 ≤ g 8 0 0 ∧ g 8 0 0 ≤ 8)) (fun _ g r g' => r = some (ZI (if nx (g 8 0 0) (g 8 0 1) a b = true then 1 else 0)) ∧ g' = g) := by
  refine zc_of gX8_areNext (fun av g hp => by obtain ⟨rfl, -⟩ := hp; exact Nat.le_of_ble_eq_true rfl) (fun Y av g hwf hrg hp hok => ?_)
  obtain ⟨rfl, hp⟩ := hp
  show ZVV _ _ _ 0 [ZR 8 0, ZI a, ZI b, ZX 99] [] _
  refine zs_iload_n (j := 1) (i := 1) rfl rfl rfl ?_
  refine zs_iload_n (j := 2) (i := 2) rfl rfl rfl ?_
  refine zs_icmp_le 11 rfl (by omega) (fun hc_2 => ?_) (fun hc_2 => ?_)
  · refine zs_iload_n (j := 2) (i := 2) rfl rfl rfl ?_
    refine zs_iload_n (j := 1) (i := 1) rfl rfl rfl ?_
    refine zs_isub_r rfl ⟨by omega, by omega⟩ ?_
    refine zs_istore_n (j := 3) (i := 3) rfl rfl (by decide) (by intro r x hr; have hr2 : r = 2 := (by omega); subst hr2; intro z; cases z) ?_
    show ZVV _ _ _ _ [ZR 8 0, ZI a, ZI b, ZI (b - a)] _ _
    refine zs_aload_n (j := 0) (i := 0) rfl rfl rfl ?_
    refine zs_getfield (f := 8) (k := 1) rfl rfl (trivial) ?_
    show ZVV _ _ _ _ _ (ZI (g 8 0 1) :: _) _
    refine zs_if_ne 47 rfl (by omega) (fun hc_19 => ?_) (fun hc_19 => ?_)
    · refine zs_aload_n (j := 0) (i := 0) rfl rfl rfl ?_
      refine zs_getfield (f := 8) (k := 1) rfl rfl (trivial) ?_
      show ZVV _ _ _ _ _ (ZI (g 8 0 1) :: _) _
      refine zs_iconst (n := 1) rfl ⟨by omega, by omega⟩ ?_
      refine zs_icmp_ne 70 rfl (by omega) (fun hc_52 => ?_) (fun hc_52 => ?_)
      · refine zs_iload_n (j := 3) (i := 3) rfl rfl rfl ?_
        refine zs_if_le 110 rfl (by omega) (fun hc_71 => ?_) (fun hc_71 => ?_)
        · refine zs_iconst (n := 0) rfl ⟨by omega, by omega⟩ ?_
          exact zs_zreturn rfl rfl (by omega) (⟨by refine congrArg (fun z => some (ZI z)) (zbt ?_); unfold nx; rw [if_neg (show ¬ g 8 0 1 = 0 by omega), if_neg (show ¬ g 8 0 1 = 1 by omega)]; exact Or.inr ⟨rfl, decide_eq_false (by omega)⟩, rfl⟩)
        · refine zs_aload_n (j := 0) (i := 0) rfl rfl rfl ?_
          refine zs_iload_n (j := 1) (i := 1) rfl rfl rfl ?_
          refine zs_iconst (n := 4) rfl ⟨by omega, by omega⟩ ?_
          refine zs_idiv_p rfl (by omega) (by omega) ?_
          refine zs_iload_n (j := 2) (i := 2) rfl rfl rfl ?_
          refine zs_iconst (n := 4) rfl ⟨by omega, by omega⟩ ?_
          refine zs_idiv_p rfl (by omega) (by omega) ?_
          show ZVV _ _ _ 81 _ _ _
          refine zs_isub_r rfl ⟨by omega, by omega⟩ ?_
          refine zs_iconst (n := (-1)) rfl ⟨by omega, by omega⟩ ?_
          refine zs_iconst (n := 1) rfl ⟨by omega, by omega⟩ ?_
          refine zs_callV (host := "") rfl kX8_170 vX8_in (c_X8_in ((a / 4) - (b / 4)) (-1) 1) [ZI ((a / 4) - (b / 4)), ZI (-1), ZI 1] [] rfl (zroom_of (by omega)) rfl (Nat.le_of_ble_eq_true rfl) (⟨rfl, trivial⟩) (fun r_84 g_84 hq_84 => ?_)
          obtain ⟨hr_84, hg_84⟩ := hq_84
          rw [hr_84, hg_84]
          show ZVV _ _ _ 87 _ [ZI (if -1 ≤ (a / 4) - (b / 4) ∧ (a / 4) - (b / 4) ≤ 1 then 1 else 0)] _
          refine zs_if_eq 110 rfl (by omega) (fun hc_87 => ?_) (fun hc_87 => ?_)
          · refine zs_iconst (n := 0) rfl ⟨by omega, by omega⟩ ?_
            exact zs_zreturn rfl rfl (by omega) (⟨by refine congrArg (fun z => some (ZI z)) (zbt ?_); unfold nx; rw [if_neg (show ¬ g 8 0 1 = 0 by omega), if_neg (show ¬ g 8 0 1 = 1 by omega)]; exact Or.inr ⟨rfl, decide_eq_false (by omega)⟩, rfl⟩)
          · refine zs_aload_n (j := 0) (i := 0) rfl rfl rfl ?_
            refine zs_iload_n (j := 1) (i := 1) rfl rfl rfl ?_
            refine zs_iconst (n := 4) rfl ⟨by omega, by omega⟩ ?_
            refine zs_irem_p rfl (by omega) (by omega) ?_
            refine zs_iload_n (j := 2) (i := 2) rfl rfl rfl ?_
            refine zs_iconst (n := 4) rfl ⟨by omega, by omega⟩ ?_
            refine zs_irem_p rfl (by omega) (by omega) ?_
            show ZVV _ _ _ 97 _ _ _
            refine zs_isub_r rfl ⟨by omega, by omega⟩ ?_
            refine zs_iconst (n := (-1)) rfl ⟨by omega, by omega⟩ ?_
            refine zs_iconst (n := 1) rfl ⟨by omega, by omega⟩ ?_
            refine zs_callV (host := "") rfl kX8_170 vX8_in (c_X8_in ((a % 4) - (b % 4)) (-1) 1) [ZI ((a % 4) - (b % 4)), ZI (-1), ZI 1] [] rfl (zroom_of (by omega)) rfl (Nat.le_of_ble_eq_true rfl) (⟨rfl, trivial⟩) (fun r_100 g_100 hq_100 => ?_)
            obtain ⟨hr_100, hg_100⟩ := hq_100
            rw [hr_100, hg_100]
            show ZVV _ _ _ 103 _ [ZI (if -1 ≤ (a % 4) - (b % 4) ∧ (a % 4) - (b % 4) ≤ 1 then 1 else 0)] _
            refine zs_if_eq 110 rfl (by omega) (fun hc_103 => ?_) (fun hc_103 => ?_)
            · refine zs_iconst (n := 0) rfl ⟨by omega, by omega⟩ ?_
              exact zs_zreturn rfl rfl (by omega) (⟨by refine congrArg (fun z => some (ZI z)) (zbt ?_); unfold nx; rw [if_neg (show ¬ g 8 0 1 = 0 by omega), if_neg (show ¬ g 8 0 1 = 1 by omega)]; exact Or.inr ⟨rfl, decide_eq_false (by omega)⟩, rfl⟩)
            · refine zs_iconst (n := 1) rfl ⟨by omega, by omega⟩ ?_
              refine zs_goto 111 rfl (by omega) ?_
              exact zs_zreturn rfl rfl (by omega) (⟨by refine congrArg (fun z => some (ZI z)) (zbt ?_); unfold nx; rw [if_neg (show ¬ g 8 0 1 = 0 by omega), if_neg (show ¬ g 8 0 1 = 1 by omega)]; exact Or.inl ⟨rfl, decide_eq_true (by omega)⟩, rfl⟩)
      · refine zs_iload_n (j := 3) (i := 3) rfl rfl rfl ?_
        refine zs_if_le 68 rfl (by omega) (fun hc_56 => ?_) (fun hc_56 => ?_)
        · refine zs_iconst (n := 0) rfl ⟨by omega, by omega⟩ ?_
          exact zs_zreturn rfl rfl (by omega) (⟨by refine congrArg (fun z => some (ZI z)) (zbt ?_); unfold nx; rw [if_neg (show ¬ g 8 0 1 = 0 by omega), if_pos (show g 8 0 1 = 1 by omega)]; exact Or.inr ⟨rfl, decide_eq_false (by omega)⟩, rfl⟩)
        · refine zs_iload_n (j := 3) (i := 3) rfl rfl rfl ?_
          refine zs_iconst (n := 3) rfl ⟨by omega, by omega⟩ ?_
          refine zs_icmp_ge 68 rfl (by omega) (fun hc_61 => ?_) (fun hc_61 => ?_)
          · refine zs_iconst (n := 0) rfl ⟨by omega, by omega⟩ ?_
            exact zs_zreturn rfl rfl (by omega) (⟨by refine congrArg (fun z => some (ZI z)) (zbt ?_); unfold nx; rw [if_neg (show ¬ g 8 0 1 = 0 by omega), if_pos (show g 8 0 1 = 1 by omega)]; exact Or.inr ⟨rfl, decide_eq_false (by omega)⟩, rfl⟩)
          · refine zs_iconst (n := 1) rfl ⟨by omega, by omega⟩ ?_
            refine zs_goto 69 rfl (by omega) ?_
            exact zs_zreturn rfl rfl (by omega) (⟨by refine congrArg (fun z => some (ZI z)) (zbt ?_); unfold nx; rw [if_neg (show ¬ g 8 0 1 = 0 by omega), if_pos (show g 8 0 1 = 1 by omega)]; exact Or.inl ⟨rfl, decide_eq_true (by omega)⟩, rfl⟩)
    · refine zs_iload_n (j := 3) (i := 3) rfl rfl rfl ?_
      refine zs_if_le 45 rfl (by omega) (fun hc_23 => ?_) (fun hc_23 => ?_)
      · refine zs_iconst (n := 0) rfl ⟨by omega, by omega⟩ ?_
        exact zs_zreturn rfl rfl (by omega) (⟨by refine congrArg (fun z => some (ZI z)) (zbt ?_); unfold nx; rw [if_pos (show g 8 0 1 = 0 by omega)]; exact Or.inr ⟨rfl, decide_eq_false (by omega)⟩, rfl⟩)
      · refine zs_iload_n (j := 3) (i := 3) rfl rfl rfl ?_
        refine zs_iconst (n := 3) rfl ⟨by omega, by omega⟩ ?_
        refine zs_icmp_lt 41 rfl (by omega) (fun hc_28 => ?_) (fun hc_28 => ?_)
        · refine zs_iconst (n := 1) rfl ⟨by omega, by omega⟩ ?_
          refine zs_goto 46 rfl (by omega) ?_
          exact zs_zreturn rfl rfl (by omega) (⟨by refine congrArg (fun z => some (ZI z)) (zbt ?_); unfold nx; rw [if_pos (show g 8 0 1 = 0 by omega)]; exact Or.inl ⟨rfl, decide_eq_true (by omega)⟩, rfl⟩)
        · refine zs_aload_n (j := 0) (i := 0) rfl rfl rfl ?_
          refine zs_getfield (f := 8) (k := 0) rfl rfl (trivial) ?_
          show ZVV _ _ _ _ _ (ZI (g 8 0 0) :: _) _
          refine zs_iload_n (j := 3) (i := 3) rfl rfl rfl ?_
          refine zs_isub_r rfl ⟨by omega, by omega⟩ ?_
          refine zs_iconst (n := 3) rfl ⟨by omega, by omega⟩ ?_
          refine zs_icmp_ge 45 rfl (by omega) (fun hc_38 => ?_) (fun hc_38 => ?_)
          · refine zs_iconst (n := 0) rfl ⟨by omega, by omega⟩ ?_
            exact zs_zreturn rfl rfl (by omega) (⟨by refine congrArg (fun z => some (ZI z)) (zbt ?_); unfold nx; rw [if_pos (show g 8 0 1 = 0 by omega)]; exact Or.inr ⟨rfl, decide_eq_false (by omega)⟩, rfl⟩)
          · refine zs_iconst (n := 1) rfl ⟨by omega, by omega⟩ ?_
            refine zs_goto 46 rfl (by omega) ?_
            exact zs_zreturn rfl rfl (by omega) (⟨by refine congrArg (fun z => some (ZI z)) (zbt ?_); unfold nx; rw [if_pos (show g 8 0 1 = 0 by omega)]; exact Or.inl ⟨rfl, decide_eq_true (by omega)⟩, rfl⟩)
  · refine zs_iload_n (j := 1) (i := 1) rfl rfl rfl ?_
    refine zs_iload_n (j := 2) (i := 2) rfl rfl rfl ?_
    refine zs_isub_r rfl ⟨by omega, by omega⟩ ?_
    refine zs_goto 14 rfl (by omega) ?_
    refine zs_istore_n (j := 3) (i := 3) rfl rfl (by decide) (by intro r x hr; have hr2 : r = 2 := (by omega); subst hr2; intro z; cases z) ?_
    show ZVV _ _ _ _ [ZR 8 0, ZI a, ZI b, ZI (a - b)] _ _
    refine zs_aload_n (j := 0) (i := 0) rfl rfl rfl ?_
    refine zs_getfield (f := 8) (k := 1) rfl rfl (trivial) ?_
    show ZVV _ _ _ _ _ (ZI (g 8 0 1) :: _) _
    show ZVV _ _ _ 19 _ _ _
    refine zs_if_ne 47 rfl (by omega) (fun hc_19 => ?_) (fun hc_19 => ?_)
    · refine zs_aload_n (j := 0) (i := 0) rfl rfl rfl ?_
      refine zs_getfield (f := 8) (k := 1) rfl rfl (trivial) ?_
      show ZVV _ _ _ _ _ (ZI (g 8 0 1) :: _) _
      refine zs_iconst (n := 1) rfl ⟨by omega, by omega⟩ ?_
      refine zs_icmp_ne 70 rfl (by omega) (fun hc_52 => ?_) (fun hc_52 => ?_)
      · refine zs_iload_n (j := 3) (i := 3) rfl rfl rfl ?_
        refine zs_if_le 110 rfl (by omega) (fun hc_71 => ?_) (fun hc_71 => ?_)
        · refine zs_iconst (n := 0) rfl ⟨by omega, by omega⟩ ?_
          exact zs_zreturn rfl rfl (by omega) (⟨by refine congrArg (fun z => some (ZI z)) (zbt ?_); unfold nx; rw [if_neg (show ¬ g 8 0 1 = 0 by omega), if_neg (show ¬ g 8 0 1 = 1 by omega)]; exact Or.inr ⟨rfl, decide_eq_false (by omega)⟩, rfl⟩)
        · refine zs_aload_n (j := 0) (i := 0) rfl rfl rfl ?_
          refine zs_iload_n (j := 1) (i := 1) rfl rfl rfl ?_
          refine zs_iconst (n := 4) rfl ⟨by omega, by omega⟩ ?_
          refine zs_idiv_p rfl (by omega) (by omega) ?_
          refine zs_iload_n (j := 2) (i := 2) rfl rfl rfl ?_
          refine zs_iconst (n := 4) rfl ⟨by omega, by omega⟩ ?_
          refine zs_idiv_p rfl (by omega) (by omega) ?_
          show ZVV _ _ _ 81 _ _ _
          refine zs_isub_r rfl ⟨by omega, by omega⟩ ?_
          refine zs_iconst (n := (-1)) rfl ⟨by omega, by omega⟩ ?_
          refine zs_iconst (n := 1) rfl ⟨by omega, by omega⟩ ?_
          refine zs_callV (host := "") rfl kX8_170 vX8_in (c_X8_in ((a / 4) - (b / 4)) (-1) 1) [ZI ((a / 4) - (b / 4)), ZI (-1), ZI 1] [] rfl (zroom_of (by omega)) rfl (Nat.le_of_ble_eq_true rfl) (⟨rfl, trivial⟩) (fun r_84 g_84 hq_84 => ?_)
          obtain ⟨hr_84, hg_84⟩ := hq_84
          rw [hr_84, hg_84]
          show ZVV _ _ _ 87 _ [ZI (if -1 ≤ (a / 4) - (b / 4) ∧ (a / 4) - (b / 4) ≤ 1 then 1 else 0)] _
          refine zs_if_eq 110 rfl (by omega) (fun hc_87 => ?_) (fun hc_87 => ?_)
          · refine zs_iconst (n := 0) rfl ⟨by omega, by omega⟩ ?_
            exact zs_zreturn rfl rfl (by omega) (⟨by refine congrArg (fun z => some (ZI z)) (zbt ?_); unfold nx; rw [if_neg (show ¬ g 8 0 1 = 0 by omega), if_neg (show ¬ g 8 0 1 = 1 by omega)]; exact Or.inr ⟨rfl, decide_eq_false (by omega)⟩, rfl⟩)
          · refine zs_aload_n (j := 0) (i := 0) rfl rfl rfl ?_
            refine zs_iload_n (j := 1) (i := 1) rfl rfl rfl ?_
            refine zs_iconst (n := 4) rfl ⟨by omega, by omega⟩ ?_
            refine zs_irem_p rfl (by omega) (by omega) ?_
            refine zs_iload_n (j := 2) (i := 2) rfl rfl rfl ?_
            refine zs_iconst (n := 4) rfl ⟨by omega, by omega⟩ ?_
            refine zs_irem_p rfl (by omega) (by omega) ?_
            show ZVV _ _ _ 97 _ _ _
            refine zs_isub_r rfl ⟨by omega, by omega⟩ ?_
            refine zs_iconst (n := (-1)) rfl ⟨by omega, by omega⟩ ?_
            refine zs_iconst (n := 1) rfl ⟨by omega, by omega⟩ ?_
            refine zs_callV (host := "") rfl kX8_170 vX8_in (c_X8_in ((a % 4) - (b % 4)) (-1) 1) [ZI ((a % 4) - (b % 4)), ZI (-1), ZI 1] [] rfl (zroom_of (by omega)) rfl (Nat.le_of_ble_eq_true rfl) (⟨rfl, trivial⟩) (fun r_100 g_100 hq_100 => ?_)
            obtain ⟨hr_100, hg_100⟩ := hq_100
            rw [hr_100, hg_100]
            show ZVV _ _ _ 103 _ [ZI (if -1 ≤ (a % 4) - (b % 4) ∧ (a % 4) - (b % 4) ≤ 1 then 1 else 0)] _
            refine zs_if_eq 110 rfl (by omega) (fun hc_103 => ?_) (fun hc_103 => ?_)
            · refine zs_iconst (n := 0) rfl ⟨by omega, by omega⟩ ?_
              exact zs_zreturn rfl rfl (by omega) (⟨by refine congrArg (fun z => some (ZI z)) (zbt ?_); unfold nx; rw [if_neg (show ¬ g 8 0 1 = 0 by omega), if_neg (show ¬ g 8 0 1 = 1 by omega)]; exact Or.inr ⟨rfl, decide_eq_false (by omega)⟩, rfl⟩)
            · refine zs_iconst (n := 1) rfl ⟨by omega, by omega⟩ ?_
              refine zs_goto 111 rfl (by omega) ?_
              exact zs_zreturn rfl rfl (by omega) (⟨by refine congrArg (fun z => some (ZI z)) (zbt ?_); unfold nx; rw [if_neg (show ¬ g 8 0 1 = 0 by omega), if_neg (show ¬ g 8 0 1 = 1 by omega)]; exact Or.inl ⟨rfl, decide_eq_true (by omega)⟩, rfl⟩)
      · refine zs_iload_n (j := 3) (i := 3) rfl rfl rfl ?_
        refine zs_if_le 68 rfl (by omega) (fun hc_56 => ?_) (fun hc_56 => ?_)
        · refine zs_iconst (n := 0) rfl ⟨by omega, by omega⟩ ?_
          exact zs_zreturn rfl rfl (by omega) (⟨by refine congrArg (fun z => some (ZI z)) (zbt ?_); unfold nx; rw [if_neg (show ¬ g 8 0 1 = 0 by omega), if_pos (show g 8 0 1 = 1 by omega)]; exact Or.inr ⟨rfl, decide_eq_false (by omega)⟩, rfl⟩)
        · refine zs_iload_n (j := 3) (i := 3) rfl rfl rfl ?_
          refine zs_iconst (n := 3) rfl ⟨by omega, by omega⟩ ?_
          refine zs_icmp_ge 68 rfl (by omega) (fun hc_61 => ?_) (fun hc_61 => ?_)
          · refine zs_iconst (n := 0) rfl ⟨by omega, by omega⟩ ?_
            exact zs_zreturn rfl rfl (by omega) (⟨by refine congrArg (fun z => some (ZI z)) (zbt ?_); unfold nx; rw [if_neg (show ¬ g 8 0 1 = 0 by omega), if_pos (show g 8 0 1 = 1 by omega)]; exact Or.inr ⟨rfl, decide_eq_false (by omega)⟩, rfl⟩)
          · refine zs_iconst (n := 1) rfl ⟨by omega, by omega⟩ ?_
            refine zs_goto 69 rfl (by omega) ?_
            exact zs_zreturn rfl rfl (by omega) (⟨by refine congrArg (fun z => some (ZI z)) (zbt ?_); unfold nx; rw [if_neg (show ¬ g 8 0 1 = 0 by omega), if_pos (show g 8 0 1 = 1 by omega)]; exact Or.inl ⟨rfl, decide_eq_true (by omega)⟩, rfl⟩)
    · refine zs_iload_n (j := 3) (i := 3) rfl rfl rfl ?_
      refine zs_if_le 45 rfl (by omega) (fun hc_23 => ?_) (fun hc_23 => ?_)
      · refine zs_iconst (n := 0) rfl ⟨by omega, by omega⟩ ?_
        exact zs_zreturn rfl rfl (by omega) (⟨by refine congrArg (fun z => some (ZI z)) (zbt ?_); unfold nx; rw [if_pos (show g 8 0 1 = 0 by omega)]; exact Or.inr ⟨rfl, decide_eq_false (by omega)⟩, rfl⟩)
      · refine zs_iload_n (j := 3) (i := 3) rfl rfl rfl ?_
        refine zs_iconst (n := 3) rfl ⟨by omega, by omega⟩ ?_
        refine zs_icmp_lt 41 rfl (by omega) (fun hc_28 => ?_) (fun hc_28 => ?_)
        · refine zs_iconst (n := 1) rfl ⟨by omega, by omega⟩ ?_
          refine zs_goto 46 rfl (by omega) ?_
          exact zs_zreturn rfl rfl (by omega) (⟨by refine congrArg (fun z => some (ZI z)) (zbt ?_); unfold nx; rw [if_pos (show g 8 0 1 = 0 by omega)]; exact Or.inl ⟨rfl, decide_eq_true (by omega)⟩, rfl⟩)
        · refine zs_aload_n (j := 0) (i := 0) rfl rfl rfl ?_
          refine zs_getfield (f := 8) (k := 0) rfl rfl (trivial) ?_
          show ZVV _ _ _ _ _ (ZI (g 8 0 0) :: _) _
          refine zs_iload_n (j := 3) (i := 3) rfl rfl rfl ?_
          refine zs_isub_r rfl ⟨by omega, by omega⟩ ?_
          refine zs_iconst (n := 3) rfl ⟨by omega, by omega⟩ ?_
          refine zs_icmp_ge 45 rfl (by omega) (fun hc_38 => ?_) (fun hc_38 => ?_)
          · refine zs_iconst (n := 0) rfl ⟨by omega, by omega⟩ ?_
            exact zs_zreturn rfl rfl (by omega) (⟨by refine congrArg (fun z => some (ZI z)) (zbt ?_); unfold nx; rw [if_pos (show g 8 0 1 = 0 by omega)]; exact Or.inr ⟨rfl, decide_eq_false (by omega)⟩, rfl⟩)
          · refine zs_iconst (n := 1) rfl ⟨by omega, by omega⟩ ?_
            refine zs_goto 46 rfl (by omega) ?_
            exact zs_zreturn rfl rfl (by omega) (⟨by refine congrArg (fun z => some (ZI z)) (zbt ?_); unfold nx; rw [if_pos (show g 8 0 1 = 0 by omega)]; exact Or.inl ⟨rfl, decide_eq_true (by omega)⟩, rfl⟩)

theorem l_X8_nei {Y : ZW} {Q : Option ZV → ZG → Prop} {g : ZG} {h : Int} (h8 : (3 ≤ g 8 0 0 ∧ g 8 0 0 ≤ 8)) (hh0 : 0 ≤ h ∧ h < g 8 0 0) : ∀ n k : Nat, (k : Int) + n = g 8 0 0 → Q (some (ZI ((zmk (fun o => nx (g 8 0 0) (g 8 0 1) h (o : Int)) (g 8 0 0).toNat : Nat) : Int))) g → ZVV Y mX8_neighbours (zcx Y 3 Q) 14 [ZR 8 0, ZI h, ZI ((zmk (fun o => nx (g 8 0 0) (g 8 0 1) h (o : Int)) k : Nat) : Int), ZI (k : Int)] [] g := by
  intro n
  induction n with
  | zero =>
    intro k hk hq
    refine zs_iload_n (j := 3) (i := 3) rfl rfl rfl ?_
    refine zs_aload_n (j := 0) (i := 0) rfl rfl rfl ?_
    refine zs_getfield (f := 8) (k := 0) rfl rfl (trivial) ?_
    show ZVV _ _ _ _ _ (ZI (g 8 0 0) :: _) _
    refine zs_icmp_ge 47 rfl (by omega) (fun hc_19 => ?_) (fun hc_19 => ?_)
    · refine zs_iload_n (j := 2) (i := 2) rfl rfl rfl ?_
      exact zs_ireturn rfl rfl (by have hh := hq; rw [show (g 8 0 0).toNat = k by omega] at hh; exact hh)
    · exfalso; omega
  | succ n ih =>
    intro k hk hq
    refine zs_iload_n (j := 3) (i := 3) rfl rfl rfl ?_
    refine zs_aload_n (j := 0) (i := 0) rfl rfl rfl ?_
    refine zs_getfield (f := 8) (k := 0) rfl rfl (trivial) ?_
    show ZVV _ _ _ _ _ (ZI (g 8 0 0) :: _) _
    refine zs_icmp_ge 47 rfl (by omega) (fun hc_19 => ?_) (fun hc_19 => ?_)
    · exfalso; omega
    · refine zs_iload_n (j := 2) (i := 2) rfl rfl rfl ?_
      refine zs_aload_n (j := 0) (i := 0) rfl rfl rfl ?_
      refine zs_iload_n (j := 1) (i := 1) rfl rfl rfl ?_
      refine zs_iload_n (j := 3) (i := 3) rfl rfl rfl ?_
      refine zs_callV (host := "") rfl kX8_178 vX8_areNext (c_X8_areNext h (k : Int)) [ZI h, ZI (k : Int)] [ZI ((zmk (fun o => nx (g 8 0 0) (g 8 0 1) h (o : Int)) k : Nat) : Int)] rfl (zroom_of (by omega)) rfl (Nat.le_of_ble_eq_true rfl) (⟨rfl, by omega, by omega, by omega⟩) (fun r_26 g_26 hq_26 => ?_)
      obtain ⟨hr_26, hg_26⟩ := hq_26
      rw [hr_26, hg_26]
      show ZVV _ _ _ 29 _ [ZI (if nx (g 8 0 0) (g 8 0 1) h (k : Int) = true then 1 else 0), ZI ((zmk (fun o => nx (g 8 0 0) (g 8 0 1) h (o : Int)) k : Nat) : Int)] _
      refine zs_if_eq 38 rfl (by omega) (fun hc_29 => ?_) (fun hc_29 => ?_)
      · refine zs_iconst (n := 0) rfl ⟨by omega, by omega⟩ ?_
        refine zs_ior rfl ?_
        refine zs_istore_n (j := 2) (i := 2) rfl rfl (by decide) (by intro r x hr; have hr2 : r = 1 := (by omega); subst hr2; intro z; cases z) ?_
        show ZVV _ _ _ _ [ZR 8 0, ZI h, ZI (zor ((zmk (fun o => nx (g 8 0 0) (g 8 0 1) h (o : Int)) k : Nat) : Int) 0), ZI (k : Int)] _ _
        refine zs_iinc_r (i := 3) rfl rfl (by intro r x hr; have hr2 : r = 2 := (by omega); subst hr2; intro z; cases z) ⟨by omega, by omega⟩ ?_
        show ZVV _ _ _ _ [ZR 8 0, ZI h, ZI (zor ((zmk (fun o => nx (g 8 0 0) (g 8 0 1) h (o : Int)) k : Nat) : Int) 0), ZI ((k : Int) + 1)] _ _
        refine zs_goto 14 rfl (by omega) ?_
        have hb : nx (g 8 0 0) (g 8 0 1) h (k : Int) = false := by simpa using zif0 hc_29
        rw [zor_0 (zmk_lt31 _ (by omega)), ← zmk_add0 (P := fun o => nx (g 8 0 0) (g 8 0 1) h (o : Int)) (n := k) (by first | exact hb | simpa using hb)]
        exact ih (k + 1) (by omega) hq
      · refine zs_iconst (n := 1) rfl ⟨by omega, by omega⟩ ?_
        refine zs_iload_n (j := 3) (i := 3) rfl rfl rfl ?_
        refine zs_ishl rfl ?_
        refine zs_goto 39 rfl (by omega) ?_
        refine zs_ior rfl ?_
        refine zs_istore_n (j := 2) (i := 2) rfl rfl (by decide) (by intro r x hr; have hr2 : r = 1 := (by omega); subst hr2; intro z; cases z) ?_
        show ZVV _ _ _ _ [ZR 8 0, ZI h, ZI (zor ((zmk (fun o => nx (g 8 0 0) (g 8 0 1) h (o : Int)) k : Nat) : Int) (zshl 1 (k : Int))), ZI (k : Int)] _ _
        refine zs_iinc_r (i := 3) rfl rfl (by intro r x hr; have hr2 : r = 2 := (by omega); subst hr2; intro z; cases z) ⟨by omega, by omega⟩ ?_
        show ZVV _ _ _ _ [ZR 8 0, ZI h, ZI (zor ((zmk (fun o => nx (g 8 0 0) (g 8 0 1) h (o : Int)) k : Nat) : Int) (zshl 1 (k : Int))), ZI ((k : Int) + 1)] _ _
        show ZVV _ _ _ 44 _ _ _
        refine zs_goto 14 rfl (by omega) ?_
        have hb : nx (g 8 0 0) (g 8 0 1) h (k : Int) = true := zif1 hc_29
        rw [zmk_add (P := fun o => nx (g 8 0 0) (g 8 0 1) h (o : Int)) (n := k) (by omega) (by first | exact hb | simpa using hb)]
        exact ih (k + 1) (by omega) hq
def mNei (g : ZG) (h : Int) : Int := if 0 ≤ h ∧ h < g 8 0 0 then ((zmk (fun o => nx (g 8 0 0) (g 8 0 1) h (o : Int)) (g 8 0 0).toNat : Nat) : Int) else -1
theorem c_X8_neighbours (h : Int) : ZC mX8_neighbours 3 (fun av g => av = [ZR 8 0, ZI h] ∧ (3 ≤ g 8 0 0 ∧ g 8 0 0 ≤ 8)) (fun _ g r g' => r = some (ZI (mNei g h)) ∧ g' = g) := by
  refine zc_of gX8_neighbours (fun av g hp => by obtain ⟨rfl, -⟩ := hp; exact Nat.le_of_ble_eq_true rfl) (fun Y av g hwf hrg hp hok => ?_)
  obtain ⟨rfl, hp⟩ := hp
  show ZVV _ _ _ 0 [ZR 8 0, ZI h, ZX 99, ZX 99] [] _
  refine zs_aload_n (j := 0) (i := 0) rfl rfl rfl ?_
  refine zs_iload_n (j := 1) (i := 1) rfl rfl rfl ?_
  refine zs_callV (host := "") rfl kX8_174 vX8_isHouse (c_X8_isHouse h) [ZI h] [] rfl (zroom_of (by omega)) rfl (Nat.le_of_ble_eq_true rfl) (⟨rfl, by omega⟩) (fun r_2 g_2 hq_2 => ?_)
  obtain ⟨hr_2, hg_2⟩ := hq_2
  rw [hr_2, hg_2]
  show ZVV _ _ _ 5 _ [ZI (if 0 ≤ h ∧ h < g 8 0 0 then 1 else 0)] _
  refine zs_if_ne 10 rfl (by omega) (fun hc_5 => ?_) (fun hc_5 => ?_)
  · refine zs_iconst (n := 0) rfl ⟨by omega, by omega⟩ ?_
    refine zs_istore_n (j := 2) (i := 2) rfl rfl (by decide) (by intro r x hr; have hr2 : r = 1 := (by omega); subst hr2; intro z; cases z) ?_
    show ZVV _ _ _ _ [ZR 8 0, ZI h, ZI 0, ZX 99] _ _
    refine zs_iconst (n := 0) rfl ⟨by omega, by omega⟩ ?_
    refine zs_istore_n (j := 3) (i := 3) rfl rfl (by decide) (by intro r x hr; have hr2 : r = 2 := (by omega); subst hr2; intro z; cases z) ?_
    show ZVV _ _ _ _ [ZR 8 0, ZI h, ZI 0, ZI 0] _ _
    exact l_X8_nei hp (by omega) (g 8 0 0).toNat 0 (by omega) ⟨by unfold mNei; rw [if_pos (by omega)], rfl⟩
  · refine zs_iconst (n := (-1)) rfl ⟨by omega, by omega⟩ ?_
    exact zs_ireturn rfl rfl (⟨by unfold mNei; rw [if_neg (by omega)], rfl⟩)

theorem l_X8_whoIn {Y : ZW} {d : Nat} {Q : Option ZV → ZG → Prop} {g : ZG} {h : Int} (hp : 0 ≤ g 8 0 2 ∧ g 8 0 2 ≤ 6) : ∀ n k : Nat, (k : Int) + n = g 8 0 2 → Q (some (ZI (zfst (fun p => decide (g 33 0 p = h)) n k))) g → ZVV Y mX8_whoIn (zcx Y d Q) 2 [ZR 8 0, ZI h, ZI (k : Int)] [] g := by
  intro n
  induction n with
  | zero =>
    intro k hk hq
    refine zs_iload_n (j := 2) (i := 2) rfl rfl rfl ?_
    refine zs_aload_n (j := 0) (i := 0) rfl rfl rfl ?_
    refine zs_getfield (f := 8) (k := 2) rfl rfl (trivial) ?_
    show ZVV _ _ _ _ _ (ZI (g 8 0 2) :: _) _
    refine zs_icmp_ge 28 rfl (by omega) (fun hc_7 => ?_) (fun hc_7 => ?_)
    · refine zs_iconst (n := (-1)) rfl ⟨by omega, by omega⟩ ?_
      exact zs_ireturn rfl rfl (hq)
    · exfalso; omega
  | succ n ih =>
    intro k hk hq
    rw [zfst_s] at hq
    refine zs_iload_n (j := 2) (i := 2) rfl rfl rfl ?_
    refine zs_aload_n (j := 0) (i := 0) rfl rfl rfl ?_
    refine zs_getfield (f := 8) (k := 2) rfl rfl (trivial) ?_
    show ZVV _ _ _ _ _ (ZI (g 8 0 2) :: _) _
    refine zs_icmp_ge 28 rfl (by omega) (fun hc_7 => ?_) (fun hc_7 => ?_)
    · exfalso; omega
    · refine zs_aload_n (j := 0) (i := 0) rfl rfl rfl ?_
      refine zs_getfield (f := 8) (k := 7) rfl rfl (trivial) ?_
      show ZVV _ _ _ _ _ (ZR 33 0 :: _) _
      refine zs_iload_n (j := 2) (i := 2) rfl rfl rfl ?_
      refine zs_iald (n := 6) rfl rfl (by omega) (by omega) ?_
      show ZVV _ _ _ _ _ (ZI (g 33 0 k) :: _) _
      refine zs_iload_n (j := 1) (i := 1) rfl rfl rfl ?_
      refine zs_icmp_ne 22 rfl (by omega) (fun hc_17 => ?_) (fun hc_17 => ?_)
      · refine zs_iinc_r (i := 2) rfl rfl (by intro r x hr; have hr2 : r = 1 := (by omega); subst hr2; intro z; cases z) ⟨by omega, by omega⟩ ?_
        show ZVV _ _ _ _ [ZR 8 0, ZI h, ZI ((k : Int) + 1)] _ _
        refine zs_goto 2 rfl (by omega) ?_
        exact ih (k + 1) (by omega) (by rw [if_neg (by simpa using hc_17)] at hq; exact hq)
      · refine zs_iload_n (j := 2) (i := 2) rfl rfl rfl ?_
        exact zs_ireturn rfl rfl (by rw [if_pos (by simpa using hc_17)] at hq; exact hq)
theorem c_X8_whoIn (h : Int) : ZC mX8_whoIn 1 (fun av g => av = [ZR 8 0, ZI h] ∧ (0 ≤ g 8 0 2 ∧ g 8 0 2 ≤ 6)) (fun _ g r g' => r = some (ZI (zwho (g 8 0 2) (g 33 0) h)) ∧ g' = g) := by
  refine zc_of gX8_whoIn (fun av g hp => by obtain ⟨rfl, -⟩ := hp; exact Nat.le_of_ble_eq_true rfl) (fun Y av g hwf hrg hp hok => ?_)
  obtain ⟨rfl, hp⟩ := hp
  show ZVV _ _ _ 0 [ZR 8 0, ZI h, ZX 99] [] _
  refine zs_iconst (n := 0) rfl ⟨by omega, by omega⟩ ?_
  refine zs_istore_n (j := 2) (i := 2) rfl rfl (by decide) (by intro r x hr; have hr2 : r = 1 := (by omega); subst hr2; intro z; cases z) ?_
  show ZVV _ _ _ _ [ZR 8 0, ZI h, ZI 0] _ _
  exact l_X8_whoIn hp _ 0 (by omega) ⟨rfl, rfl⟩

theorem l_X8_free {Y : ZW} {Q : Option ZV → ZG → Prop} {g : ZG} (h8 : (3 ≤ g 8 0 0 ∧ g 8 0 0 ≤ 8)) (h6 : 0 ≤ g 8 0 2 ∧ g 8 0 2 ≤ 6) : ∀ n k : Nat, (k : Int) + n = g 8 0 0 → Q (some (ZI ((zmk (fun h => decide (zwho (g 8 0 2) (g 33 0) (h : Int) = -1)) (g 8 0 0).toNat : Nat) : Int))) g → ZVV Y mX8_freeOnes (zcx Y 2 Q) 4 [ZR 8 0, ZI ((zmk (fun h => decide (zwho (g 8 0 2) (g 33 0) (h : Int) = -1)) k : Nat) : Int), ZI (k : Int)] [] g := by
  intro n
  induction n with
  | zero =>
    intro k hk hq
    refine zs_iload_n (j := 2) (i := 2) rfl rfl rfl ?_
    refine zs_aload_n (j := 0) (i := 0) rfl rfl rfl ?_
    refine zs_getfield (f := 8) (k := 0) rfl rfl (trivial) ?_
    show ZVV _ _ _ _ _ (ZI (g 8 0 0) :: _) _
    refine zs_icmp_ge 36 rfl (by omega) (fun hc_9 => ?_) (fun hc_9 => ?_)
    · refine zs_iload_n (j := 1) (i := 1) rfl rfl rfl ?_
      exact zs_ireturn rfl rfl (by have hh := hq; rw [show (g 8 0 0).toNat = k by omega] at hh; exact hh)
    · exfalso; omega
  | succ n ih =>
    intro k hk hq
    refine zs_iload_n (j := 2) (i := 2) rfl rfl rfl ?_
    refine zs_aload_n (j := 0) (i := 0) rfl rfl rfl ?_
    refine zs_getfield (f := 8) (k := 0) rfl rfl (trivial) ?_
    show ZVV _ _ _ _ _ (ZI (g 8 0 0) :: _) _
    refine zs_icmp_ge 36 rfl (by omega) (fun hc_9 => ?_) (fun hc_9 => ?_)
    · exfalso; omega
    · refine zs_iload_n (j := 1) (i := 1) rfl rfl rfl ?_
      refine zs_aload_n (j := 0) (i := 0) rfl rfl rfl ?_
      refine zs_iload_n (j := 2) (i := 2) rfl rfl rfl ?_
      refine zs_callV (host := "") rfl kX8_182 vX8_whoIn (c_X8_whoIn (k : Int)) [ZI (k : Int)] [ZI ((zmk (fun h => decide (zwho (g 8 0 2) (g 33 0) (h : Int) = -1)) k : Nat) : Int)] rfl (zroom_of (by omega)) rfl (Nat.le_of_ble_eq_true rfl) (⟨rfl, by omega⟩) (fun r_15 g_15 hq_15 => ?_)
      obtain ⟨hr_15, hg_15⟩ := hq_15
      rw [hr_15, hg_15]
      show ZVV _ _ _ 18 _ [ZI (zwho (g 8 0 2) (g 33 0) (k : Int)), ZI ((zmk (fun h => decide (zwho (g 8 0 2) (g 33 0) (h : Int) = -1)) k : Nat) : Int)] _
      refine zs_if_ge 27 rfl (by omega) (fun hc_18 => ?_) (fun hc_18 => ?_)
      · refine zs_iconst (n := 0) rfl ⟨by omega, by omega⟩ ?_
        refine zs_ior rfl ?_
        refine zs_istore_n (j := 1) (i := 1) rfl rfl (by decide) (by intro r x hr; have hr2 : r = 0 := (by omega); subst hr2; intro z; cases z) ?_
        show ZVV _ _ _ _ [ZR 8 0, ZI (zor ((zmk (fun h => decide (zwho (g 8 0 2) (g 33 0) (h : Int) = -1)) k : Nat) : Int) 0), ZI (k : Int)] _ _
        refine zs_iinc_r (i := 2) rfl rfl (by intro r x hr; have hr2 : r = 1 := (by omega); subst hr2; intro z; cases z) ⟨by omega, by omega⟩ ?_
        show ZVV _ _ _ _ [ZR 8 0, ZI (zor ((zmk (fun h => decide (zwho (g 8 0 2) (g 33 0) (h : Int) = -1)) k : Nat) : Int) 0), ZI ((k : Int) + 1)] _ _
        refine zs_goto 4 rfl (by omega) ?_
        have hb : ¬ zwho (g 8 0 2) (g 33 0) (k : Int) = -1 := by have hw := zfst_rng (fun p => decide (g 33 0 p = (k : Int))) (g 8 0 2).toNat 0; unfold zwho at *; omega
        rw [zor_0 (zmk_lt31 _ (by omega)), ← zmk_add0 (P := fun h => decide (zwho (g 8 0 2) (g 33 0) (h : Int) = -1)) (n := k) (by first | exact hb | simpa using hb)]
        exact ih (k + 1) (by omega) hq
      · refine zs_iconst (n := 1) rfl ⟨by omega, by omega⟩ ?_
        refine zs_iload_n (j := 2) (i := 2) rfl rfl rfl ?_
        refine zs_ishl rfl ?_
        refine zs_goto 28 rfl (by omega) ?_
        refine zs_ior rfl ?_
        refine zs_istore_n (j := 1) (i := 1) rfl rfl (by decide) (by intro r x hr; have hr2 : r = 0 := (by omega); subst hr2; intro z; cases z) ?_
        show ZVV _ _ _ _ [ZR 8 0, ZI (zor ((zmk (fun h => decide (zwho (g 8 0 2) (g 33 0) (h : Int) = -1)) k : Nat) : Int) (zshl 1 (k : Int))), ZI (k : Int)] _ _
        refine zs_iinc_r (i := 2) rfl rfl (by intro r x hr; have hr2 : r = 1 := (by omega); subst hr2; intro z; cases z) ⟨by omega, by omega⟩ ?_
        show ZVV _ _ _ _ [ZR 8 0, ZI (zor ((zmk (fun h => decide (zwho (g 8 0 2) (g 33 0) (h : Int) = -1)) k : Nat) : Int) (zshl 1 (k : Int))), ZI ((k : Int) + 1)] _ _
        show ZVV _ _ _ 33 _ _ _
        refine zs_goto 4 rfl (by omega) ?_
        have hb : zwho (g 8 0 2) (g 33 0) (k : Int) = -1 := by have hw := zfst_rng (fun p => decide (g 33 0 p = (k : Int))) (g 8 0 2).toNat 0; unfold zwho at *; omega
        rw [zmk_add (P := fun h => decide (zwho (g 8 0 2) (g 33 0) (h : Int) = -1)) (n := k) (by omega) (by first | exact hb | simpa using hb)]
        exact ih (k + 1) (by omega) hq
theorem c_X8_freeOnes  : ZC mX8_freeOnes 2 (fun av g => av = [ZR 8 0] ∧ (3 ≤ g 8 0 0 ∧ g 8 0 0 ≤ 8) ∧ (0 ≤ g 8 0 2 ∧ g 8 0 2 ≤ 6)) (fun _ g r g' => r = some (ZI ((zfree (g 8 0 0) (g 8 0 2) (g 33 0) : Nat) : Int)) ∧ g' = g) := by
  refine zc_of gX8_freeOnes (fun av g hp => by obtain ⟨rfl, -⟩ := hp; exact Nat.le_of_ble_eq_true rfl) (fun Y av g hwf hrg hp hok => ?_)
  obtain ⟨rfl, hp⟩ := hp
  show ZVV _ _ _ 0 [ZR 8 0, ZX 99, ZX 99] [] _
  refine zs_iconst (n := 0) rfl ⟨by omega, by omega⟩ ?_
  refine zs_istore_n (j := 1) (i := 1) rfl rfl (by decide) (by intro r x hr; have hr2 : r = 0 := (by omega); subst hr2; intro z; cases z) ?_
  show ZVV _ _ _ _ [ZR 8 0, ZI 0, ZX 99] _ _
  refine zs_iconst (n := 0) rfl ⟨by omega, by omega⟩ ?_
  refine zs_istore_n (j := 2) (i := 2) rfl rfl (by decide) (by intro r x hr; have hr2 : r = 1 := (by omega); subst hr2; intro z; cases z) ?_
  show ZVV _ _ _ _ [ZR 8 0, ZI 0, ZI 0] _ _
  exact l_X8_free hp.1 hp.2 (g 8 0 0).toNat 0 (by omega) ⟨rfl, rfl⟩

def mLeast (n : Int) (sm : Nat) : Int := if zfst (fun h => sm.testBit h) n.toNat 0 = -1 then -5 else zfst (fun h => sm.testBit h) n.toNat 0
theorem l_X8_leastOf {Y : ZW} {Q : Option ZV → ZG → Prop} {g : ZG} {sm : Nat} (hsm : sm < 2147483648) (hp : (3 ≤ g 8 0 0 ∧ g 8 0 0 ≤ 8)) : ∀ n k : Nat, (k : Int) + n = g 8 0 0 → Q (some (ZI (if zfst (fun h => sm.testBit h) n k = -1 then -5 else zfst (fun h => sm.testBit h) n k))) g → ZVV Y mX8_leastOf (zcx Y 2 Q) 2 [ZR 8 0, ZI (sm : Int), ZI (k : Int)] [] g := by
  intro n
  induction n with
  | zero =>
    intro k hk hq
    refine zs_iload_n (j := 2) (i := 2) rfl rfl rfl ?_
    refine zs_aload_n (j := 0) (i := 0) rfl rfl rfl ?_
    refine zs_getfield (f := 8) (k := 0) rfl rfl (trivial) ?_
    show ZVV _ _ _ _ _ (ZI (g 8 0 0) :: _) _
    refine zs_icmp_ge 27 rfl (by omega) (fun hc_7 => ?_) (fun hc_7 => ?_)
    · refine zs_bipush (n := (-5)) rfl ⟨by omega, by omega⟩ ?_
      exact zs_ireturn rfl rfl (hq)
    · exfalso; omega
  | succ n ih =>
    intro k hk hq
    refine zs_iload_n (j := 2) (i := 2) rfl rfl rfl ?_
    refine zs_aload_n (j := 0) (i := 0) rfl rfl rfl ?_
    refine zs_getfield (f := 8) (k := 0) rfl rfl (trivial) ?_
    show ZVV _ _ _ _ _ (ZI (g 8 0 0) :: _) _
    refine zs_icmp_ge 27 rfl (by omega) (fun hc_7 => ?_) (fun hc_7 => ?_)
    · exfalso; omega
    · refine zs_aload_n (j := 0) (i := 0) rfl rfl rfl ?_
      refine zs_iload_n (j := 1) (i := 1) rfl rfl rfl ?_
      refine zs_iload_n (j := 2) (i := 2) rfl rfl rfl ?_
      refine zs_callV (host := "") rfl kX8_271 vX8_has (c_X8_has sm (k : Int)) [ZI (sm : Int), ZI (k : Int)] [] rfl (zroom_of (by omega)) rfl (Nat.le_of_ble_eq_true rfl) (⟨rfl, hsm, by omega, by omega⟩) (fun r_13 g_13 hq_13 => ?_)
      obtain ⟨hr_13, hg_13⟩ := hq_13
      rw [hr_13, hg_13]
      show ZVV _ _ _ 16 _ [ZI (if sm.testBit k = true then 1 else 0)] _
      refine zs_if_eq 21 rfl (by omega) (fun hc_16 => ?_) (fun hc_16 => ?_)
      · refine zs_iinc_r (i := 2) rfl rfl (by intro r x hr; have hr2 : r = 1 := (by omega); subst hr2; intro z; cases z) ⟨by omega, by omega⟩ ?_
        show ZVV _ _ _ _ [ZR 8 0, ZI (sm : Int), ZI ((k : Int) + 1)] _ _
        refine zs_goto 2 rfl (by omega) ?_
        exact ih (k + 1) (by omega) (by rw [zfst_f (P := fun h => sm.testBit h) (by simpa using zif0 hc_16)] at hq; exact hq)
      · refine zs_iload_n (j := 2) (i := 2) rfl rfl rfl ?_
        exact zs_ireturn rfl rfl (by rw [zfst_t (P := fun h => sm.testBit h) (zif1 hc_16), if_neg (by omega)] at hq; exact hq)
theorem c_X8_leastOf (sm : Nat) : ZC mX8_leastOf 2 (fun av g => av = [ZR 8 0, ZI (sm : Int)] ∧ (3 ≤ g 8 0 0 ∧ g 8 0 0 ≤ 8) ∧ sm < 2147483648) (fun _ g r g' => r = some (ZI (mLeast (g 8 0 0) sm)) ∧ g' = g) := by
  refine zc_of gX8_leastOf (fun av g hp => by obtain ⟨rfl, -⟩ := hp; exact Nat.le_of_ble_eq_true rfl) (fun Y av g hwf hrg hp hok => ?_)
  obtain ⟨rfl, hp⟩ := hp
  show ZVV _ _ _ 0 [ZR 8 0, ZI (sm : Int), ZX 99] [] _
  refine zs_iconst (n := 0) rfl ⟨by omega, by omega⟩ ?_
  refine zs_istore_n (j := 2) (i := 2) rfl rfl (by decide) (by intro r x hr; have hr2 : r = 1 := (by omega); subst hr2; intro z; cases z) ?_
  show ZVV _ _ _ _ [ZR 8 0, ZI (sm : Int), ZI 0] _ _
  exact l_X8_leastOf hp.2 hp.1 _ 0 (by omega) ⟨rfl, rfl⟩

