theorem l_X2_whoIn {Y : ZW} {d : Nat} {Q : Option ZV → ZG → Prop} {g : ZG} {q : Nat} {h : Int} (hp : 0 ≤ g 2 q 3 ∧ g 2 q 3 ≤ 6) : ∀ n k : Nat, (k : Int) + n = g 2 q 3 → Q (some (ZI (zfst (fun p => decide (g 18 q p = h)) n k))) g → ZVV Y mX2_whoIn (zcx Y d Q) 2 [ZR 2 q, ZI h, ZI (k : Int)] [] g := by
  intro n
  induction n with
  | zero =>
    intro k hk hq
    refine zs_iload_n (j := 2) (i := 2) rfl rfl rfl ?_
    refine zs_aload_n (j := 0) (i := 0) rfl rfl rfl ?_
    refine zs_getfield (f := 2) (k := 3) rfl rfl (trivial) ?_
    show ZVV _ _ _ _ _ (ZI (g 2 q 3) :: _) _
    refine zs_icmp_ge 28 rfl (by omega) (fun hc_7 => ?_) (fun hc_7 => ?_)
    · refine zs_iconst (n := (-1)) rfl ⟨by omega, by omega⟩ ?_
      exact zs_ireturn rfl rfl (hq)
    · exfalso; omega
  | succ n ih =>
    intro k hk hq
    rw [zfst_s] at hq
    refine zs_iload_n (j := 2) (i := 2) rfl rfl rfl ?_
    refine zs_aload_n (j := 0) (i := 0) rfl rfl rfl ?_
    refine zs_getfield (f := 2) (k := 3) rfl rfl (trivial) ?_
    show ZVV _ _ _ _ _ (ZI (g 2 q 3) :: _) _
    refine zs_icmp_ge 28 rfl (by omega) (fun hc_7 => ?_) (fun hc_7 => ?_)
    · exfalso; omega
    · refine zs_aload_n (j := 0) (i := 0) rfl rfl rfl ?_
      refine zs_getfield (f := 2) (k := 7) rfl rfl (trivial) ?_
      show ZVV _ _ _ _ _ (ZR 18 q :: _) _
      refine zs_iload_n (j := 2) (i := 2) rfl rfl rfl ?_
      refine zs_iald (n := 6) rfl rfl (by omega) (by omega) ?_
      show ZVV _ _ _ _ _ (ZI (g 18 q k) :: _) _
      refine zs_iload_n (j := 1) (i := 1) rfl rfl rfl ?_
      refine zs_icmp_ne 22 rfl (by omega) (fun hc_17 => ?_) (fun hc_17 => ?_)
      · refine zs_iinc_r (i := 2) rfl rfl (by intro r x hr; have hr2 : r = 1 := (by omega); subst hr2; intro z; cases z) ⟨by omega, by omega⟩ ?_
        show ZVV _ _ _ _ [ZR 2 q, ZI h, ZI ((k : Int) + 1)] _ _
        refine zs_goto 2 rfl (by omega) ?_
        exact ih (k + 1) (by omega) (by rw [if_neg (by simpa using hc_17)] at hq; exact hq)
      · refine zs_iload_n (j := 2) (i := 2) rfl rfl rfl ?_
        exact zs_ireturn rfl rfl (by rw [if_pos (by simpa using hc_17)] at hq; exact hq)
theorem c_X2_whoIn (q : Nat) (h : Int) : ZC mX2_whoIn 1 (fun av g => av = [ZR 2 q, ZI h] ∧ (0 ≤ g 2 q 3 ∧ g 2 q 3 ≤ 6)) (fun _ g r g' => r = some (ZI (zwho (g 2 q 3) (g 18 q) h)) ∧ g' = g) := by
  refine zc_of gX2_whoIn (fun av g hp => by obtain ⟨rfl, -⟩ := hp; exact Nat.le_of_ble_eq_true rfl) (fun Y av g hwf hrg hp hok => ?_)
  obtain ⟨rfl, hp⟩ := hp
  show ZVV _ _ _ 0 [ZR 2 q, ZI h, ZX 99] [] _
  refine zs_iconst (n := 0) rfl ⟨by omega, by omega⟩ ?_
  refine zs_istore_n (j := 2) (i := 2) rfl rfl (by decide) (by intro r x hr; have hr2 : r = 1 := (by omega); subst hr2; intro z; cases z) ?_
  show ZVV _ _ _ _ [ZR 2 q, ZI h, ZI 0] _ _
  exact l_X2_whoIn hp _ 0 (by omega) ⟨rfl, rfl⟩

theorem l_X2_freeHouses {Y : ZW} {Q : Option ZV → ZG → Prop} {g : ZG} {q : Nat} (hp : SOK g q) : ∀ n k : Nat, (k : Int) + n = g 2 q 0 → Q (some (ZI (zfree (g 2 q 0) (g 2 q 3) (g 18 q) : Nat))) g → ZVV Y mX2_freeHouses (zcx Y 2 Q) 4 [ZR 2 q, ZI ((zmk (fun h => decide (zwho (g 2 q 3) (g 18 q) h = -1)) k : Nat) : Int), ZI (k : Int)] [] g := by
  have hp0 := hp
  obtain ⟨h1, h2, h3, h4, h5, h6⟩ := hp
  intro n
  induction n with
  | zero =>
    intro k hk hq
    have hz : zfree (g 2 q 0) (g 2 q 3) (g 18 q) = zmk (fun h => decide (zwho (g 2 q 3) (g 18 q) h = -1)) k := by
      unfold zfree; rw [show (g 2 q 0).toNat = k by omega]
    rw [hz] at hq
    refine zs_iload_n (j := 2) (i := 2) rfl rfl rfl ?_
    refine zs_aload_n (j := 0) (i := 0) rfl rfl rfl ?_
    refine zs_getfield (f := 2) (k := 0) rfl rfl (trivial) ?_
    show ZVV _ _ _ _ _ (ZI (g 2 q 0) :: _) _
    refine zs_icmp_ge 33 rfl (by omega) (fun hc_9 => ?_) (fun hc_9 => ?_)
    · refine zs_iload_n (j := 1) (i := 1) rfl rfl rfl ?_
      exact zs_ireturn rfl rfl (hq)
    · exfalso; omega
  | succ n ih =>
    intro k hk hq
    refine zs_iload_n (j := 2) (i := 2) rfl rfl rfl ?_
    refine zs_aload_n (j := 0) (i := 0) rfl rfl rfl ?_
    refine zs_getfield (f := 2) (k := 0) rfl rfl (trivial) ?_
    show ZVV _ _ _ _ _ (ZI (g 2 q 0) :: _) _
    refine zs_icmp_ge 33 rfl (by omega) (fun hc_9 => ?_) (fun hc_9 => ?_)
    · exfalso; omega
    · refine zs_aload_n (j := 0) (i := 0) rfl rfl rfl ?_
      refine zs_iload_n (j := 2) (i := 2) rfl rfl rfl ?_
      refine zs_callV (host := "") rfl kX2_58 vX2_whoIn (c_X2_whoIn q (k : Int)) [ZI (k : Int)] [] rfl (zroom_of (by omega)) rfl (Nat.le_of_ble_eq_true rfl) (⟨rfl, by omega⟩) (fun r_14 g_14 hq_14 => ?_)
      obtain ⟨hr_14, hg_14⟩ := hq_14
      rw [hr_14, hg_14]
      show ZVV _ _ _ 17 _ [ZI (zwho (g 2 q 3) (g 18 q) (k : Int))] _
      refine zs_iconst (n := (-1)) rfl ⟨by omega, by omega⟩ ?_
      refine zs_icmp_ne 27 rfl (by omega) (fun hc_18 => ?_) (fun hc_18 => ?_)
      · refine zs_iinc_r (i := 2) rfl rfl (by intro r x hr; have hr2 : r = 1 := (by omega); subst hr2; intro z; cases z) ⟨by omega, by omega⟩ ?_
        show ZVV _ _ _ _ [ZR 2 q, ZI ((zmk (fun h => decide (zwho (g 2 q 3) (g 18 q) h = -1)) k : Nat) : Int), ZI ((k : Int) + 1)] _ _
        refine zs_goto 4 rfl (by omega) ?_
        have hb : ¬ zwho (g 2 q 3) (g 18 q) (k : Int) = -1 := by omega
        rw [← zmk_add0 (P := fun h => decide (zwho (g 2 q 3) (g 18 q) h = -1)) (n := k) (by simpa using hb)]
        exact ih (k + 1) (by omega) hq
      · refine zs_iload_n (j := 1) (i := 1) rfl rfl rfl ?_
        refine zs_iconst (n := 1) rfl ⟨by omega, by omega⟩ ?_
        refine zs_iload_n (j := 2) (i := 2) rfl rfl rfl ?_
        refine zs_ishl rfl ?_
        refine zs_ior rfl ?_
        refine zs_istore_n (j := 1) (i := 1) rfl rfl (by decide) (by intro r x hr; have hr2 : r = 0 := (by omega); subst hr2; intro z; cases z) ?_
        show ZVV _ _ _ _ [ZR 2 q, ZI (zor ((zmk (fun h => decide (zwho (g 2 q 3) (g 18 q) h = -1)) k : Nat) : Int) (zshl 1 (k : Int))), ZI (k : Int)] _ _
        refine zs_iinc_r (i := 2) rfl rfl (by intro r x hr; have hr2 : r = 1 := (by omega); subst hr2; intro z; cases z) ⟨by omega, by omega⟩ ?_
        show ZVV _ _ _ _ [ZR 2 q, ZI (zor ((zmk (fun h => decide (zwho (g 2 q 3) (g 18 q) h = -1)) k : Nat) : Int) (zshl 1 (k : Int))), ZI ((k : Int) + 1)] _ _
        show ZVV _ _ _ 30 _ _ _
        refine zs_goto 4 rfl (by omega) ?_
        have hb : zwho (g 2 q 3) (g 18 q) (k : Int) = -1 := by omega
        rw [zmk_add (P := fun h => decide (zwho (g 2 q 3) (g 18 q) h = -1)) (by omega) (by simpa using hb)]
        exact ih (k + 1) (by omega) hq
theorem c_X2_freeHouses (q : Nat) : ZC mX2_freeHouses 2 (fun av g => av = [ZR 2 q] ∧ SOK g q) (fun _ g r g' => r = some (ZI (zfree (g 2 q 0) (g 2 q 3) (g 18 q) : Nat)) ∧ g' = g) := by
  refine zc_of gX2_freeHouses (fun av g hp => by obtain ⟨rfl, -⟩ := hp; exact Nat.le_of_ble_eq_true rfl) (fun Y av g hwf hrg hp hok => ?_)
  obtain ⟨rfl, hp⟩ := hp
  show ZVV _ _ _ 0 [ZR 2 q, ZX 99, ZX 99] [] _
  refine zs_iconst (n := 0) rfl ⟨by omega, by omega⟩ ?_
  refine zs_istore_n (j := 1) (i := 1) rfl rfl (by decide) (by intro r x hr; have hr2 : r = 0 := (by omega); subst hr2; intro z; cases z) ?_
  show ZVV _ _ _ _ [ZR 2 q, ZI 0, ZX 99] _ _
  refine zs_iconst (n := 0) rfl ⟨by omega, by omega⟩ ?_
  refine zs_istore_n (j := 2) (i := 2) rfl rfl (by decide) (by intro r x hr; have hr2 : r = 1 := (by omega); subst hr2; intro z; cases z) ?_
  show ZVV _ _ _ _ [ZR 2 q, ZI 0, ZI 0] _ _
  exact l_X2_freeHouses hp (g 2 q 0).toNat 0 (by have := hp.1; omega) ⟨rfl, rfl⟩

theorem c_X2_livesBeside (q : Nat) (p h : Int) : ZC mX2_livesBeside 1 (fun av g => av = [ZR 2 q, ZI p, ZI h] ∧ SOK g q ∧ (0 ≤ p ∧ p < g 2 q 3) ∧ (0 ≤ h ∧ h < g 2 q 0)) (fun _ g r g' => r = some (ZI (if zliv (g 2 q 0) (g 2 q 1) (g 18 q) p.toNat h = true then 1 else 0)) ∧ g' = g) := by
  refine zc_of gX2_livesBeside (fun av g hp => by obtain ⟨rfl, -⟩ := hp; exact Nat.le_of_ble_eq_true rfl) (fun Y av g hwf hrg hp hok => ?_)
  obtain ⟨rfl, hp⟩ := hp
  show ZVV _ _ _ 0 [ZR 2 q, ZI p, ZI h] [] _
  obtain ⟨hs, hp1, hp2⟩ := hp
  have hs0 := hs
  obtain ⟨h1, h2, h3, h4, h5, h6⟩ := hs
  have h7 := h6 p.toNat (by omega)
  refine zs_aload_n (j := 0) (i := 0) rfl rfl rfl ?_
  refine zs_getfield (f := 2) (k := 7) rfl rfl (trivial) ?_
  show ZVV _ _ _ _ _ (ZR 18 q :: _) _
  refine zs_iload_n (j := 1) (i := 1) rfl rfl rfl ?_
  refine zs_iald (n := 6) rfl rfl (by omega) (by omega) ?_
  refine zs_if_lt 31 rfl (by omega) (fun hc_6 => ?_) (fun hc_6 => ?_)
  · refine zs_iconst (n := 0) rfl ⟨by omega, by omega⟩ ?_
    exact zs_zreturn rfl rfl (by omega) (⟨by first | (rw [if_pos (by unfold zliv; rw [Bool.and_eq_true]; exact ⟨by simpa using hc_6, by simpa using hc_24⟩)]) | (rw [if_neg (by unfold zliv; rw [Bool.and_eq_true]; rintro ⟨z1, z2⟩; first | (have z3 : 0 ≤ g 18 q p.toNat := (by simpa using z1); omega) | (rw [if_pos z2] at hc_24; omega))]), rfl⟩)
  · refine zs_aload_n (j := 0) (i := 0) rfl rfl rfl ?_
    refine zs_getfield (f := 2) (k := 2) rfl rfl (trivial) ?_
    show ZVV _ _ _ _ _ (ZR 14 q :: _) _
    refine zs_iload_n (j := 2) (i := 2) rfl rfl rfl ?_
    refine zs_iald (n := 8) rfl rfl (by omega) (by omega) ?_
    refine zs_aload_n (j := 0) (i := 0) rfl rfl rfl ?_
    refine zs_getfield (f := 2) (k := 7) rfl rfl (trivial) ?_
    show ZVV _ _ _ _ _ (ZR 18 q :: _) _
    refine zs_iload_n (j := 1) (i := 1) rfl rfl rfl ?_
    show ZVV _ _ _ 20 _ _ _
    refine zs_iald (n := 6) rfl rfl (by omega) (by omega) ?_
    refine zs_ishr rfl ?_
    refine zs_iconst (n := 1) rfl ⟨by omega, by omega⟩ ?_
    refine zs_iand rfl ?_
    rw [hs0.bit hp2 ⟨by omega, by omega⟩]
    refine zs_if_eq 31 rfl (by omega) (fun hc_24 => ?_) (fun hc_24 => ?_)
    · refine zs_iconst (n := 0) rfl ⟨by omega, by omega⟩ ?_
      exact zs_zreturn rfl rfl (by omega) (⟨by first | (rw [if_pos (by unfold zliv; rw [Bool.and_eq_true]; exact ⟨by simpa using hc_6, by simpa using hc_24⟩)]) | (rw [if_neg (by unfold zliv; rw [Bool.and_eq_true]; rintro ⟨z1, z2⟩; first | (have z3 : 0 ≤ g 18 q p.toNat := (by simpa using z1); omega) | (rw [if_pos z2] at hc_24; omega))]), rfl⟩)
    · refine zs_iconst (n := 1) rfl ⟨by omega, by omega⟩ ?_
      refine zs_goto 32 rfl (by omega) ?_
      exact zs_zreturn rfl rfl (by omega) (⟨by first | (rw [if_pos (by unfold zliv; rw [Bool.and_eq_true]; exact ⟨by simpa using hc_6, by simpa using hc_24⟩)]) | (rw [if_neg (by unfold zliv; rw [Bool.and_eq_true]; rintro ⟨z1, z2⟩; first | (have z3 : 0 ≤ g 18 q p.toNat := (by simpa using z1); omega) | (rw [if_pos z2] at hc_24; omega))]), rfl⟩)

