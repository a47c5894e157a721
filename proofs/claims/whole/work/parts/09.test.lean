theorem c_X7_isHouse (h : Int) : ZC mX7_isHouse 1 (fun av g => av = [ZR 7 0, ZI h] ∧ True) (fun _ g r g' => r = some (ZI (if 0 ≤ h ∧ h < g 2 0 0 then 1 else 0)) ∧ g' = g) := by
  refine zc_of gX7_isHouse (fun av g hp => by obtain ⟨rfl, -⟩ := hp; exact Nat.le_of_ble_eq_true rfl) (fun Y av g hwf hrg hp hok => ?_)
  obtain ⟨rfl, hp⟩ := hp
  show ZVV _ _ _ 0 [ZR 7 0, ZI h] [] _
  refine zs_iload_n (j := 1) (i := 1) rfl rfl rfl ?_
  refine zs_if_lt 19 rfl (by omega) (fun hc_1 => ?_) (fun hc_1 => ?_)
  · refine zs_iconst (n := 0) rfl ⟨by omega, by omega⟩ ?_
    exact zs_zreturn rfl rfl (by omega) (⟨by first | rw [if_pos (by omega)] | rw [if_neg (by omega)], rfl⟩)
  · refine zs_iload_n (j := 1) (i := 1) rfl rfl rfl ?_
    refine zs_aload_n (j := 0) (i := 0) rfl rfl rfl ?_
    refine zs_getfield (f := 7) (k := 5) rfl rfl (trivial) ?_
    show ZVV _ _ _ _ _ (ZR 2 0 :: _) _
    refine zs_getfield (f := 2) (k := 0) rfl rfl (trivial) ?_
    show ZVV _ _ _ _ _ (ZI (g 2 0 0) :: _) _
    refine zs_icmp_ge 19 rfl (by omega) (fun hc_12 => ?_) (fun hc_12 => ?_)
    · refine zs_iconst (n := 0) rfl ⟨by omega, by omega⟩ ?_
      exact zs_zreturn rfl rfl (by omega) (⟨by first | rw [if_pos (by omega)] | rw [if_neg (by omega)], rfl⟩)
    · refine zs_iconst (n := 1) rfl ⟨by omega, by omega⟩ ?_
      refine zs_goto 20 rfl (by omega) ?_
      exact zs_zreturn rfl rfl (by omega) (⟨by first | rw [if_pos (by omega)] | rw [if_neg (by omega)], rfl⟩)

theorem l_X2_whoIn {Y : ZW} {d : Nat} {Q : Option ZV → ZG → Prop} {g : ZG} {q : Nat} {h : Int} (hp : 0 ≤ g 2 q 3 ∧ g 2 q 3 ≤ 6) : ∀ n k : Nat, (k : Int) + n = g 2 q 3 → Q (some (ZI (zfst (fun p => decide (g 18 q p = h)) n k))) g → ZVV Y mX2_whoIn (zcx Y d Q) 2 [ZR 2 q, ZI h, ZI (k : Int)] [] g := by
  intro n
  induction n with
  | zero =>
    intro k hk hq
    refine zs_iload_n (j := 2) (i := 2) rfl rfl rfl ?_
    refine zs_aload_n (j := 0) (i := 0) rfl rfl rfl ?_
    refine zs_getfield (f := 2) (k := 3) rfl rfl (trivial) ?_
    show ZVV _ _ _ _ _ (ZI (g 2 q 3) :: _) _
    refine zs_icmp_ge 28 rfl (by omega) (fun hc_7 => ?_) (fun hc_7 => ?_)
    · refine zs_iconst (n := (-1)) rfl ⟨by omega, by omega⟩ ?_
      exact zs_ireturn rfl rfl (hq)
    · exfalso; omega
  | succ n ih =>
    intro k hk hq
    rw [zfst_s] at hq
    refine zs_iload_n (j := 2) (i := 2) rfl rfl rfl ?_
    refine zs_aload_n (j := 0) (i := 0) rfl rfl rfl ?_
    refine zs_getfield (f := 2) (k := 3) rfl rfl (trivial) ?_
    show ZVV _ _ _ _ _ (ZI (g 2 q 3) :: _) _
    refine zs_icmp_ge 28 rfl (by omega) (fun hc_7 => ?_) (fun hc_7 => ?_)
    · exfalso; omega
    · refine zs_aload_n (j := 0) (i := 0) rfl rfl rfl ?_
      refine zs_getfield (f := 2) (k := 7) rfl rfl (trivial) ?_
      show ZVV _ _ _ _ _ (ZR 18 q :: _) _
      refine zs_iload_n (j := 2) (i := 2) rfl rfl rfl ?_
      refine zs_iald (n := 6) rfl rfl (by omega) (by omega) ?_
      refine zs_iload_n (j := 1) (i := 1) rfl rfl rfl ?_
      refine zs_icmp_ne 22 rfl (by omega) (fun hc_17 => ?_) (fun hc_17 => ?_)
      · refine zs_iinc_r (i := 2) rfl rfl (by intro r x hr; have hr2 : r = 1 := (by omega); subst hr2; intro z; cases z) ⟨by omega, by omega⟩ ?_
        show ZVV _ _ _ _ [ZR 2 q, ZI h, ZI ((k : Int) + 1)] _ _
        refine zs_goto 2 rfl (by omega) ?_
        exact ih (k + 1) (by omega) (by rw [if_neg (by simpa using hc_17)] at hq; exact hq)
      · refine zs_iload_n (j := 2) (i := 2) rfl rfl rfl ?_
        exact zs_ireturn rfl rfl (by rw [if_pos (by simpa using hc_17)] at hq; exact hq)
theorem c_X2_whoIn (q : Nat) (h : Int) : ZC mX2_whoIn 1 (fun av g => av = [ZR 2 q, ZI h] ∧ (0 ≤ g 2 q 3 ∧ g 2 q 3 ≤ 6)) (fun _ g r g' => r = some (ZI (zfst (fun p => decide (g 18 q p = h)) (g 2 q 3).toNat 0)) ∧ g' = g) := by
  refine zc_of gX2_whoIn (fun av g hp => by obtain ⟨rfl, -⟩ := hp; exact Nat.le_of_ble_eq_true rfl) (fun Y av g hwf hrg hp hok => ?_)
  obtain ⟨rfl, hp⟩ := hp
  show ZVV _ _ _ 0 [ZR 2 q, ZI h, ZX 99] [] _
  refine zs_iconst (n := 0) rfl ⟨by omega, by omega⟩ ?_
  refine zs_istore_n (j := 2) (i := 2) rfl rfl (by decide) (by intro r x hr; have hr2 : r = 1 := (by omega); subst hr2; intro z; cases z) ?_
  show ZVV _ _ _ _ [ZR 2 q, ZI h, ZI 0] _ _
  exact l_X2_whoIn hp _ 0 (by omega) ⟨rfl, rfl⟩

