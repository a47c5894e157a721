theorem l_X2_likePairsBelow {Y : ZW} {Q : Option ZV → ZG → Prop} {g : ZG} {q : Nat} {p : Int} (hp : SOK g q ∧ (0 ≤ p ∧ p < g 2 q 3) ∧ 0 ≤ g 18 q p.toNat) : ∀ (n k : Nat) (acc : Int), (k : Int) + n = p → (-1000 ≤ acc ∧ acc ≤ 1000 + 40 * k) → Q (some (ZI (acc + zsum (fun j => if g 17 q j = g 17 q p.toNat ∧ zliv (g 2 q 0) (g 2 q 1) (g 18 q) j (g 18 q p.toNat) = true then 1 else 0) n k))) g → ZVV Y mX2_likePairsBelow (zcx Y 2 Q) 4 [ZR 2 q, ZI p, ZI acc, ZI (k : Int)] [] g := by
  obtain ⟨hp0, hp1, hp2⟩ := hp
  have hp0' := hp0
  obtain ⟨h1, h2, h3, h4, h5, h6⟩ := hp0
  have hp0 := hp0'
  have h7 := h6 p.toNat (by omega)
  intro n
  induction n with
  | zero =>
    intro k acc hk hb hq
    rw [show zsum (fun j => if g 17 q j = g 17 q p.toNat ∧ zliv (g 2 q 0) (g 2 q 1) (g 18 q) j (g 18 q p.toNat) = true then 1 else 0) 0 k = 0 from rfl, Int.add_zero] at hq
    refine zs_iload_n (j := 3) (i := 3) rfl rfl rfl ?_
    refine zs_iload_n (j := 1) (i := 1) rfl rfl rfl ?_
    refine zs_icmp_ge 47 rfl (by omega) (fun hc_6 => ?_) (fun hc_6 => ?_)
    · refine zs_iload_n (j := 2) (i := 2) rfl rfl rfl ?_
      exact zs_ireturn rfl rfl (hq)
    · exfalso; omega
  | succ n ih =>
    intro k acc hk hb hq
    rw [zsum_s] at hq
    have h8 := h6 k (by omega)
    refine zs_iload_n (j := 3) (i := 3) rfl rfl rfl ?_
    refine zs_iload_n (j := 1) (i := 1) rfl rfl rfl ?_
    refine zs_icmp_ge 47 rfl (by omega) (fun hc_6 => ?_) (fun hc_6 => ?_)
    · exfalso; omega
    · refine zs_aload_n (j := 0) (i := 0) rfl rfl rfl ?_
      refine zs_getfield (f := 2) (k := 6) rfl rfl (trivial) ?_
      show ZVV _ _ _ _ _ (ZR 17 q :: _) _
      refine zs_iload_n (j := 3) (i := 3) rfl rfl rfl ?_
      refine zs_iald (n := 6) rfl rfl (by omega) (by omega) ?_
      show ZVV _ _ _ _ _ (ZI (g 17 q k) :: _) _
      refine zs_aload_n (j := 0) (i := 0) rfl rfl rfl ?_
      refine zs_getfield (f := 2) (k := 6) rfl rfl (trivial) ?_
      show ZVV _ _ _ _ _ (ZR 17 q :: _) _
      refine zs_iload_n (j := 1) (i := 1) rfl rfl rfl ?_
      show ZVV _ _ _ 20 _ _ _
      refine zs_iald (n := 6) rfl rfl (by omega) (by omega) ?_
      refine zs_icmp_ne 41 rfl (by omega) (fun hc_21 => ?_) (fun hc_21 => ?_)
      · refine zs_iinc_r (i := 3) rfl rfl (by intro r x hr; have hr2 : r = 2 := (by omega); subst hr2; intro z; cases z) ⟨by omega, by omega⟩ ?_
        show ZVV _ _ _ _ [ZR 2 q, ZI p, ZI acc, ZI ((k : Int) + 1)] _ _
        refine zs_goto 4 rfl (by omega) ?_
        have hz : (if g 17 q k = g 17 q p.toNat ∧ zliv (g 2 q 0) (g 2 q 1) (g 18 q) k (g 18 q p.toNat) = true then (1 : Int) else 0) = 0 := if_neg (by
          rintro ⟨z1, z2⟩
          first | exact hc_21 z1 | (rw [if_pos z2] at hc_35; omega))
        rw [hz, Int.zero_add] at hq
        exact ih (k + 1) acc (by omega) (by omega) hq
      · have hc_21' : g 17 q k = g 17 q p.toNat := Classical.not_not.mp hc_21
        refine zs_aload_n (j := 0) (i := 0) rfl rfl rfl ?_
        refine zs_iload_n (j := 3) (i := 3) rfl rfl rfl ?_
        refine zs_aload_n (j := 0) (i := 0) rfl rfl rfl ?_
        refine zs_getfield (f := 2) (k := 7) rfl rfl (trivial) ?_
        show ZVV _ _ _ _ _ (ZR 18 q :: _) _
        refine zs_iload_n (j := 1) (i := 1) rfl rfl rfl ?_
        refine zs_iald (n := 6) rfl rfl (by omega) (by omega) ?_
        refine zs_callV (host := "") rfl kX2_64 vX2_livesBeside (c_X2_livesBeside q (k : Int) (g 18 q p.toNat)) [ZI (k : Int), ZI (g 18 q p.toNat)] [] rfl (zroom_of (by omega)) rfl (Nat.le_of_ble_eq_true rfl) (⟨rfl, hp0, ⟨by omega, by omega⟩, ⟨by omega, by omega⟩⟩) (fun r_32 g_32 hq_32 => ?_)
        obtain ⟨hr_32, hg_32⟩ := hq_32
        rw [hr_32, hg_32]
        show ZVV _ _ _ 35 _ [ZI (if zliv (g 2 q 0) (g 2 q 1) (g 18 q) k (g 18 q p.toNat) = true then 1 else 0)] _
        show ZVV _ _ _ 35 _ _ _
        refine zs_if_eq 41 rfl (by omega) (fun hc_35 => ?_) (fun hc_35 => ?_)
        · refine zs_iinc_r (i := 3) rfl rfl (by intro r x hr; have hr2 : r = 2 := (by omega); subst hr2; intro z; cases z) ⟨by omega, by omega⟩ ?_
          show ZVV _ _ _ _ [ZR 2 q, ZI p, ZI acc, ZI ((k : Int) + 1)] _ _
          refine zs_goto 4 rfl (by omega) ?_
          have hz : (if g 17 q k = g 17 q p.toNat ∧ zliv (g 2 q 0) (g 2 q 1) (g 18 q) k (g 18 q p.toNat) = true then (1 : Int) else 0) = 0 := if_neg (by
            rintro ⟨z1, z2⟩
            first | exact hc_21 z1 | (rw [if_pos z2] at hc_35; omega))
          rw [hz, Int.zero_add] at hq
          exact ih (k + 1) acc (by omega) (by omega) hq
        · refine zs_iinc_r (i := 2) rfl rfl (by intro r x hr; have hr2 : r = 1 := (by omega); subst hr2; intro z; cases z) ⟨by omega, by omega⟩ ?_
          show ZVV _ _ _ _ [ZR 2 q, ZI p, ZI (acc + 1), ZI (k : Int)] _ _
          refine zs_iinc_r (i := 3) rfl rfl (by intro r x hr; have hr2 : r = 2 := (by omega); subst hr2; intro z; cases z) ⟨by omega, by omega⟩ ?_
          show ZVV _ _ _ _ [ZR 2 q, ZI p, ZI (acc + 1), ZI ((k : Int) + 1)] _ _
          refine zs_goto 4 rfl (by omega) ?_
          have hz : (if g 17 q k = g 17 q p.toNat ∧ zliv (g 2 q 0) (g 2 q 1) (g 18 q) k (g 18 q p.toNat) = true then (1 : Int) else 0) = 1 := if_pos ⟨hc_21', by
            by_cases hz : zliv (g 2 q 0) (g 2 q 1) (g 18 q) k (g 18 q p.toNat) = true
            · exact hz
            · rw [if_neg hz] at hc_35; omega⟩
          rw [hz, ← Int.add_assoc] at hq
          exact ih (k + 1) (acc + 1) (by omega) (by omega) hq
theorem c_X2_likePairsBelow (q : Nat) (p : Int) : ZC mX2_likePairsBelow 2 (fun av g => av = [ZR 2 q, ZI p] ∧ SOK g q ∧ (0 ≤ p ∧ p < g 2 q 3) ∧ 0 ≤ g 18 q p.toNat) (fun _ g r g' => r = some (ZI (zlpb (g 2 q 0) (g 2 q 1) (g 17 q) (g 18 q) p.toNat)) ∧ g' = g) := by
  refine zc_of gX2_likePairsBelow (fun av g hp => by obtain ⟨rfl, -⟩ := hp; exact Nat.le_of_ble_eq_true rfl) (fun Y av g hwf hrg hp hok => ?_)
  obtain ⟨rfl, hp⟩ := hp
  show ZVV _ _ _ 0 [ZR 2 q, ZI p, ZX 99, ZX 99] [] _
  refine zs_iconst (n := 0) rfl ⟨by omega, by omega⟩ ?_
  refine zs_istore_n (j := 2) (i := 2) rfl rfl (by decide) (by intro r x hr; have hr2 : r = 1 := (by omega); subst hr2; intro z; cases z) ?_
  show ZVV _ _ _ _ [ZR 2 q, ZI p, ZI 0, ZX 99] _ _
  refine zs_iconst (n := 0) rfl ⟨by omega, by omega⟩ ?_
  refine zs_istore_n (j := 3) (i := 3) rfl rfl (by decide) (by intro r x hr; have hr2 : r = 2 := (by omega); subst hr2; intro z; cases z) ?_
  show ZVV _ _ _ _ [ZR 2 q, ZI p, ZI 0, ZI 0] _ _
  exact l_X2_likePairsBelow hp p.toNat 0 0 (by omega) (by omega) ⟨by rw [Int.zero_add]; rfl, rfl⟩

theorem l_X2_likePairs {Y : ZW} {Q : Option ZV → ZG → Prop} {g : ZG} {q : Nat} (hp : SOK g q ∧ ∀ p : Nat, (p : Int) < g 2 q 3 → 0 ≤ g 18 q p) : ∀ (n k : Nat) (acc : Int), (k : Int) + n = max 1 (g 2 q 3) ∧ 1 ≤ k → (-1000 ≤ acc ∧ acc ≤ 1000 + 40 * k) → Q (some (ZI (acc + zsum (fun j => zlpb (g 2 q 0) (g 2 q 1) (g 17 q) (g 18 q) j) n k))) g → ZVV Y mX2_likePairs (zcx Y 3 Q) 4 [ZR 2 q, ZI acc, ZI (k : Int)] [] g := by
  obtain ⟨hp0, hh⟩ := hp
  obtain ⟨h1, h2, h3, h4, h5, h6⟩ := id hp0
  intro n
  induction n with
  | zero =>
    intro k acc hk hb hq
    rw [show zsum (fun j => zlpb (g 2 q 0) (g 2 q 1) (g 17 q) (g 18 q) j) 0 k = 0 from rfl, Int.add_zero] at hq
    refine zs_iload_n (j := 2) (i := 2) rfl rfl rfl ?_
    refine zs_aload_n (j := 0) (i := 0) rfl rfl rfl ?_
    refine zs_getfield (f := 2) (k := 3) rfl rfl (trivial) ?_
    show ZVV _ _ _ _ _ (ZI (g 2 q 3) :: _) _
    refine zs_icmp_ge 26 rfl (by omega) (fun hc_9 => ?_) (fun hc_9 => ?_)
    · refine zs_iload_n (j := 1) (i := 1) rfl rfl rfl ?_
      exact zs_ireturn rfl rfl (hq)
    · exfalso; omega
  | succ n ih =>
    intro k acc hk hb hq
    rw [zsum_s] at hq
    have h9 := zlpb_rng (g 2 q 0) (g 2 q 1) (g 17 q) (g 18 q) k
    refine zs_iload_n (j := 2) (i := 2) rfl rfl rfl ?_
    refine zs_aload_n (j := 0) (i := 0) rfl rfl rfl ?_
    refine zs_getfield (f := 2) (k := 3) rfl rfl (trivial) ?_
    show ZVV _ _ _ _ _ (ZI (g 2 q 3) :: _) _
    refine zs_icmp_ge 26 rfl (by omega) (fun hc_9 => ?_) (fun hc_9 => ?_)
    · exfalso; omega
    · refine zs_iload_n (j := 1) (i := 1) rfl rfl rfl ?_
      refine zs_aload_n (j := 0) (i := 0) rfl rfl rfl ?_
      refine zs_iload_n (j := 2) (i := 2) rfl rfl rfl ?_
      refine zs_callV (host := "") rfl kX2_61 vX2_likePairsBelow (c_X2_likePairsBelow q (k : Int)) [ZI (k : Int)] [ZI acc] rfl (zroom_of (by omega)) rfl (Nat.le_of_ble_eq_true rfl) (⟨rfl, hp0, ⟨by omega, by omega⟩, hh k (by omega)⟩) (fun r_15 g_15 hq_15 => ?_)
      obtain ⟨hr_15, hg_15⟩ := hq_15
      rw [hr_15, hg_15]
      show ZVV _ _ _ 18 _ [ZI (zlpb (g 2 q 0) (g 2 q 1) (g 17 q) (g 18 q) k), ZI acc] _
      refine zs_iadd_r rfl ⟨by omega, by omega⟩ ?_
      refine zs_istore_n (j := 1) (i := 1) rfl rfl (by decide) (by intro r x hr; have hr2 : r = 0 := (by omega); subst hr2; intro z; cases z) ?_
      show ZVV _ _ _ _ [ZR 2 q, ZI (acc + (zlpb (g 2 q 0) (g 2 q 1) (g 17 q) (g 18 q) k)), ZI (k : Int)] _ _
      refine zs_iinc_r (i := 2) rfl rfl (by intro r x hr; have hr2 : r = 1 := (by omega); subst hr2; intro z; cases z) ⟨by omega, by omega⟩ ?_
      show ZVV _ _ _ _ [ZR 2 q, ZI (acc + (zlpb (g 2 q 0) (g 2 q 1) (g 17 q) (g 18 q) k)), ZI ((k : Int) + 1)] _ _
      show ZVV _ _ _ 23 _ _ _
      refine zs_goto 4 rfl (by omega) ?_
      rw [← Int.add_assoc] at hq
      exact ih (k + 1) _ (by omega) (by omega) hq
theorem c_X2_likePairs (q : Nat) : ZC mX2_likePairs 3 (fun av g => av = [ZR 2 q] ∧ SOK g q ∧ ∀ p : Nat, (p : Int) < g 2 q 3 → 0 ≤ g 18 q p) (fun _ g r g' => r = some (ZI (zlp (g 2 q 0) (g 2 q 1) (g 2 q 3) (g 17 q) (g 18 q))) ∧ g' = g) := by
  refine zc_of gX2_likePairs (fun av g hp => by obtain ⟨rfl, -⟩ := hp; exact Nat.le_of_ble_eq_true rfl) (fun Y av g hwf hrg hp hok => ?_)
  obtain ⟨rfl, hp⟩ := hp
  show ZVV _ _ _ 0 [ZR 2 q, ZX 99, ZX 99] [] _
  refine zs_iconst (n := 0) rfl ⟨by omega, by omega⟩ ?_
  refine zs_istore_n (j := 1) (i := 1) rfl rfl (by decide) (by intro r x hr; have hr2 : r = 0 := (by omega); subst hr2; intro z; cases z) ?_
  show ZVV _ _ _ _ [ZR 2 q, ZI 0, ZX 99] _ _
  refine zs_iconst (n := 1) rfl ⟨by omega, by omega⟩ ?_
  refine zs_istore_n (j := 2) (i := 2) rfl rfl (by decide) (by intro r x hr; have hr2 : r = 1 := (by omega); subst hr2; intro z; cases z) ?_
  show ZVV _ _ _ _ [ZR 2 q, ZI 0, ZI 1] _ _
  exact l_X2_likePairs hp ((g 2 q 3).toNat - 1) 1 0 (by have := hp.1.2.2.1; omega) (by omega) ⟨by rw [Int.zero_add]; rfl, rfl⟩

theorem l_X2_allPairs_in {Y : ZW} {Q : Option ZV → ZG → Prop} {g : ZG} {q k : Nat} (hp : SOK g q ∧ ∀ p : Nat, (p : Int) < g 2 q 3 → 0 ≤ g 18 q p) (hk : (k : Int) < g 2 q 3) : ∀ (n j : Nat) (acc : Int), j + n = k → (0 ≤ acc ∧ acc ≤ 1000 + j) → ZVV Y mX2_allPairs (zcx Y 2 Q) 42 [ZR 2 q, ZI (acc + zsum (fun j => if zliv (g 2 q 0) (g 2 q 1) (g 18 q) j (g 18 q k) = true then 1 else 0) n j), ZI (k : Int), ZI (k : Int)] [] g → ZVV Y mX2_allPairs (zcx Y 2 Q) 14 [ZR 2 q, ZI acc, ZI (k : Int), ZI (j : Int)] [] g := by
  obtain ⟨hp0, hh⟩ := hp
  obtain ⟨h1, h2, h3, h4, h5, h6⟩ := id hp0
  have h7 := h6 k hk
  have h7' := hh k hk
  intro n
  induction n with
  | zero =>
    intro j acc hj hb hq
    have hj : j = k := by omega
    subst hj
    rw [show zsum (fun i => if zliv (g 2 q 0) (g 2 q 1) (g 18 q) i (g 18 q j) = true then 1 else 0) 0 j = 0 from rfl, Int.add_zero] at hq
    refine zs_iload_n (j := 3) (i := 3) rfl rfl rfl ?_
    refine zs_iload_n (j := 2) (i := 2) rfl rfl rfl ?_
    refine zs_icmp_ge 42 rfl (by omega) (fun hc_16 => ?_) (fun hc_16 => ?_)
    · exact hq
    · exfalso; omega
  | succ n ih =>
    intro j acc hj hb hq
    rw [zsum_s] at hq
    have h8 := h6 j (by omega)
    refine zs_iload_n (j := 3) (i := 3) rfl rfl rfl ?_
    refine zs_iload_n (j := 2) (i := 2) rfl rfl rfl ?_
    refine zs_icmp_ge 42 rfl (by omega) (fun hc_16 => ?_) (fun hc_16 => ?_)
    · exfalso; omega
    · refine zs_aload_n (j := 0) (i := 0) rfl rfl rfl ?_
      refine zs_iload_n (j := 3) (i := 3) rfl rfl rfl ?_
      refine zs_aload_n (j := 0) (i := 0) rfl rfl rfl ?_
      refine zs_getfield (f := 2) (k := 7) rfl rfl (trivial) ?_
      show ZVV _ _ _ _ _ (ZR 18 q :: _) _
      refine zs_iload_n (j := 2) (i := 2) rfl rfl rfl ?_
      refine zs_iald (n := 6) rfl rfl (by omega) (by omega) ?_
      show ZVV _ _ _ _ _ (ZI (g 18 q k) :: _) _
      refine zs_callV (host := "") rfl kX2_64 vX2_livesBeside (c_X2_livesBeside q (j : Int) (g 18 q k)) [ZI (j : Int), ZI (g 18 q k)] [] rfl (zroom_of (by omega)) rfl (Nat.le_of_ble_eq_true rfl) (⟨rfl, hp0, ⟨by omega, by omega⟩, ⟨by omega, by omega⟩⟩) (fun r_27 g_27 hq_27 => ?_)
      obtain ⟨hr_27, hg_27⟩ := hq_27
      rw [hr_27, hg_27]
      show ZVV _ _ _ 30 _ [ZI (if zliv (g 2 q 0) (g 2 q 1) (g 18 q) j (g 18 q k) = true then 1 else 0)] _
      show ZVV _ _ _ 30 _ _ _
      refine zs_if_eq 36 rfl (by omega) (fun hc_30 => ?_) (fun hc_30 => ?_)
      · refine zs_iinc_r (i := 3) rfl rfl (by intro r x hr; have hr2 : r = 2 := (by omega); subst hr2; intro z; cases z) ⟨by omega, by omega⟩ ?_
        show ZVV _ _ _ _ [ZR 2 q, ZI acc, ZI (k : Int), ZI ((j : Int) + 1)] _ _
        refine zs_goto 14 rfl (by omega) ?_
        have hz : ¬ zliv (g 2 q 0) (g 2 q 1) (g 18 q) j (g 18 q k) = true := by
          intro hz
          rw [if_pos hz] at hc_30; omega
        rw [if_neg hz, Int.zero_add] at hq
        exact ih (j + 1) acc (by omega) (by omega) hq
      · refine zs_iinc_r (i := 1) rfl rfl (by intro r x hr; have hr2 : r = 0 := (by omega); subst hr2; intro z; cases z) ⟨by omega, by omega⟩ ?_
        show ZVV _ _ _ _ [ZR 2 q, ZI (acc + 1), ZI (k : Int), ZI (j : Int)] _ _
        refine zs_iinc_r (i := 3) rfl rfl (by intro r x hr; have hr2 : r = 2 := (by omega); subst hr2; intro z; cases z) ⟨by omega, by omega⟩ ?_
        show ZVV _ _ _ _ [ZR 2 q, ZI (acc + 1), ZI (k : Int), ZI ((j : Int) + 1)] _ _
        refine zs_goto 14 rfl (by omega) ?_
        have hz : zliv (g 2 q 0) (g 2 q 1) (g 18 q) j (g 18 q k) = true := by
          by_cases hz : zliv (g 2 q 0) (g 2 q 1) (g 18 q) j (g 18 q k) = true
          · exact hz
          · rw [if_neg hz] at hc_30; omega
        rw [if_pos hz, ← Int.add_assoc] at hq
        exact ih (j + 1) (acc + 1) (by omega) (by omega) hq
theorem l_X2_allPairs {Y : ZW} {Q : Option ZV → ZG → Prop} {g : ZG} {q : Nat} (hp : SOK g q ∧ ∀ p : Nat, (p : Int) < g 2 q 3 → 0 ≤ g 18 q p) : ∀ (n k : Nat) (acc : Int) (z : ZV), (∀ x, z ≠ ZJ x) → (k : Int) + n = max 1 (g 2 q 3) ∧ 1 ≤ k → (0 ≤ acc ∧ acc ≤ 40 * k) → Q (some (ZI (acc + zsum (fun j => zapb (g 2 q 0) (g 2 q 1) (g 18 q) j) n k))) g → ZVV Y mX2_allPairs (zcx Y 2 Q) 4 [ZR 2 q, ZI acc, ZI (k : Int), z] [] g := by
  obtain ⟨h1, h2, h3, h4, h5, h6⟩ := id hp.1
  intro n
  induction n with
  | zero =>
    intro k acc z hz hk hb hq
    rw [show zsum (fun j => zapb (g 2 q 0) (g 2 q 1) (g 18 q) j) 0 k = 0 from rfl, Int.add_zero] at hq
    refine zs_iload_n (j := 2) (i := 2) rfl rfl rfl ?_
    refine zs_aload_n (j := 0) (i := 0) rfl rfl rfl ?_
    refine zs_getfield (f := 2) (k := 3) rfl rfl (trivial) ?_
    show ZVV _ _ _ _ _ (ZI (g 2 q 3) :: _) _
    refine zs_icmp_ge 48 rfl (by omega) (fun hc_9 => ?_) (fun hc_9 => ?_)
    · refine zs_iload_n (j := 1) (i := 1) rfl rfl rfl ?_
      exact zs_ireturn rfl rfl (hq)
    · exfalso; omega
  | succ n ih =>
    intro k acc z hz hk hb hq
    rw [zsum_s, ← Int.add_assoc] at hq
    have h9 := zapb_rng (g 2 q 0) (g 2 q 1) (g 18 q) k
    refine zs_iload_n (j := 2) (i := 2) rfl rfl rfl ?_
    refine zs_aload_n (j := 0) (i := 0) rfl rfl rfl ?_
    refine zs_getfield (f := 2) (k := 3) rfl rfl (trivial) ?_
    show ZVV _ _ _ _ _ (ZI (g 2 q 3) :: _) _
    refine zs_icmp_ge 48 rfl (by omega) (fun hc_9 => ?_) (fun hc_9 => ?_)
    · exfalso; omega
    · refine zs_iconst (n := 0) rfl ⟨by omega, by omega⟩ ?_
      refine zs_istore_n (j := 3) (i := 3) rfl rfl (by decide) (by intro r x hr; have hr2 : r = 2 := (by omega); subst hr2; intro z; cases z) ?_
      show ZVV _ _ _ _ [ZR 2 q, ZI acc, ZI (k : Int), ZI 0] _ _
      refine l_X2_allPairs_in hp (by omega) k 0 acc (by omega) (by omega) ?_
      change ZVV _ _ _ _ [ZR 2 q, ZI (acc + zapb (g 2 q 0) (g 2 q 1) (g 18 q) k), ZI (k : Int), ZI (k : Int)] _ _
      refine zs_iinc_r (i := 2) rfl rfl (by intro r x hr; have hr2 : r = 1 := (by omega); subst hr2; intro z; cases z) ⟨by omega, by omega⟩ ?_
      show ZVV _ _ _ _ [ZR 2 q, ZI (acc + zapb (g 2 q 0) (g 2 q 1) (g 18 q) k), ZI ((k : Int) + 1), ZI (k : Int)] _ _
      refine zs_goto 4 rfl (by omega) ?_
      exact ih (k + 1) _ _ (by intro x h; cases h) (by omega) (by omega) hq
theorem c_X2_allPairs (q : Nat) : ZC mX2_allPairs 2 (fun av g => av = [ZR 2 q] ∧ SOK g q ∧ ∀ p : Nat, (p : Int) < g 2 q 3 → 0 ≤ g 18 q p) (fun _ g r g' => r = some (ZI (zap (g 2 q 0) (g 2 q 1) (g 2 q 3) (g 18 q))) ∧ g' = g) := by
  refine zc_of gX2_allPairs (fun av g hp => by obtain ⟨rfl, -⟩ := hp; exact Nat.le_of_ble_eq_true rfl) (fun Y av g hwf hrg hp hok => ?_)
  obtain ⟨rfl, hp⟩ := hp
  show ZVV _ _ _ 0 [ZR 2 q, ZX 99, ZX 99, ZX 99] [] _
  refine zs_iconst (n := 0) rfl ⟨by omega, by omega⟩ ?_
  refine zs_istore_n (j := 1) (i := 1) rfl rfl (by decide) (by intro r x hr; have hr2 : r = 0 := (by omega); subst hr2; intro z; cases z) ?_
  show ZVV _ _ _ _ [ZR 2 q, ZI 0, ZX 99, ZX 99] _ _
  refine zs_iconst (n := 1) rfl ⟨by omega, by omega⟩ ?_
  refine zs_istore_n (j := 2) (i := 2) rfl rfl (by decide) (by intro r x hr; have hr2 : r = 1 := (by omega); subst hr2; intro z; cases z) ?_
  show ZVV _ _ _ _ [ZR 2 q, ZI 0, ZI 1, ZX 99] _ _
  exact l_X2_allPairs hp ((g 2 q 3).toNat - 1) 1 0 _ (by intro x h; cases h) (by have := hp.1.2.2.1; omega) (by omega) ⟨by rw [Int.zero_add]; rfl, rfl⟩

theorem l_X2_isLivedInAs {Y : ZW} {Q : Option ZV → ZG → Prop} {g : ZG} {q u : Nat} (hp : 0 ≤ g 2 q 3 ∧ g 2 q 3 ≤ 6) : ∀ n k : Nat, (k : Int) + n = g 2 q 3 → Q (some (ZI (if zfst (fun j => decide (g 18 q j ≠ g 18 u j)) n k = -1 then 1 else 0))) g → ZVV Y mX2_isLivedInAs (zcx Y 1 Q) 2 [ZR 2 q, ZR 2 u, ZI (k : Int)] [] g := by
  intro n
  induction n with
  | zero =>
    intro k hk hq
    refine zs_iload_n (j := 2) (i := 2) rfl rfl rfl ?_
    refine zs_aload_n (j := 0) (i := 0) rfl rfl rfl ?_
    refine zs_getfield (f := 2) (k := 3) rfl rfl (trivial) ?_
    show ZVV _ _ _ _ _ (ZI (g 2 q 3) :: _) _
    refine zs_icmp_ge 33 rfl (by omega) (fun hc_7 => ?_) (fun hc_7 => ?_)
    · refine zs_iconst (n := 1) rfl ⟨by omega, by omega⟩ ?_
      exact zs_zreturn rfl rfl (by omega) (hq)
    · exfalso; omega
  | succ n ih =>
    intro k hk hq
    rw [zfst_s] at hq
    refine zs_iload_n (j := 2) (i := 2) rfl rfl rfl ?_
    refine zs_aload_n (j := 0) (i := 0) rfl rfl rfl ?_
    refine zs_getfield (f := 2) (k := 3) rfl rfl (trivial) ?_
    show ZVV _ _ _ _ _ (ZI (g 2 q 3) :: _) _
    refine zs_icmp_ge 33 rfl (by omega) (fun hc_7 => ?_) (fun hc_7 => ?_)
    · exfalso; omega
    · refine zs_aload_n (j := 0) (i := 0) rfl rfl rfl ?_
      refine zs_getfield (f := 2) (k := 7) rfl rfl (trivial) ?_
      show ZVV _ _ _ _ _ (ZR 18 q :: _) _
      refine zs_iload_n (j := 2) (i := 2) rfl rfl rfl ?_
      refine zs_iald (n := 6) rfl rfl (by omega) (by omega) ?_
      show ZVV _ _ _ _ _ (ZI (g 18 q k) :: _) _
      refine zs_aload_n (j := 1) (i := 1) rfl rfl rfl ?_
      refine zs_getfield (f := 2) (k := 7) rfl rfl (trivial) ?_
      show ZVV _ _ _ _ _ (ZR 18 u :: _) _
      refine zs_iload_n (j := 2) (i := 2) rfl rfl rfl ?_
      show ZVV _ _ _ 21 _ _ _
      refine zs_iald (n := 6) rfl rfl (by omega) (by omega) ?_
      show ZVV _ _ _ _ _ (ZI (g 18 u k) :: _) _
      refine zs_icmp_eq 27 rfl (by omega) (fun hc_22 => ?_) (fun hc_22 => ?_)
      · refine zs_iinc_r (i := 2) rfl rfl (by intro r x hr; have hr2 : r = 1 := (by omega); subst hr2; intro z; cases z) ⟨by omega, by omega⟩ ?_
        show ZVV _ _ _ _ [ZR 2 q, ZR 2 u, ZI ((k : Int) + 1)] _ _
        refine zs_goto 2 rfl (by omega) ?_
        have hz : decide (g 18 q k ≠ g 18 u k) = false := (by simpa using hc_22)
        simp only [hz, Bool.false_eq_true, if_false] at hq
        exact ih (k + 1) (by omega) hq
      · refine zs_iconst (n := 0) rfl ⟨by omega, by omega⟩ ?_
        exact zs_zreturn rfl rfl (by omega) (by have hz : decide (g 18 q k ≠ g 18 u k) = true := (by simpa using hc_22); simp only [hz, if_true] at hq; rw [if_neg (by omega)] at hq; exact hq)
theorem c_X2_isLivedInAs (q u : Nat) : ZC mX2_isLivedInAs 1 (fun av g => av = [ZR 2 q, ZR 2 u] ∧ (0 ≤ g 2 q 3 ∧ g 2 q 3 ≤ 6)) (fun _ g r g' => r = some (ZI (if zfst (fun j => decide (g 18 q j ≠ g 18 u j)) (g 2 q 3).toNat 0 = -1 then 1 else 0)) ∧ g' = g) := by
  refine zc_of gX2_isLivedInAs (fun av g hp => by obtain ⟨rfl, -⟩ := hp; exact Nat.le_of_ble_eq_true rfl) (fun Y av g hwf hrg hp hok => ?_)
  obtain ⟨rfl, hp⟩ := hp
  show ZVV _ _ _ 0 [ZR 2 q, ZR 2 u, ZX 99] [] _
  refine zs_iconst (n := 0) rfl ⟨by omega, by omega⟩ ?_
  refine zs_istore_n (j := 2) (i := 2) rfl rfl (by decide) (by intro r x hr; have hr2 : r = 1 := (by omega); subst hr2; intro z; cases z) ?_
  show ZVV _ _ _ _ [ZR 2 q, ZR 2 u, ZI 0] _ _
  exact l_X2_isLivedInAs hp _ 0 (by omega) ⟨rfl, rfl⟩

def zcopyF (g : ZG) (q u : Nat) : ZG := fun f i k => if i = q ∧ ((f = 2 ∧ (k = 0 ∨ k = 1 ∨ k = 3 ∨ k = 8 ∨ k = 10 ∨ k = 11)) ∨ (f = 14 ∧ k < 8) ∨ ((f = 15 ∨ f = 16 ∨ f = 17 ∨ f = 18) ∧ k < 6) ∨ (f = 19 ∧ k < 12)) then g f u k else g f i k
theorem zcopyF_eq (g : ZG) (q u : Nat) (hqu : q ≠ u) (h11 : 0 ≤ g 2 u 11) : zcpy (zcpy (zcpy (zcpy (zcpy (zcpy (zup (zup (zup (zup (zup (zup g 2 q 0 (g 2 u 0)) 2 q 1 (g 2 u 1)) 2 q 3 (g 2 u 3)) 2 q 8 (g 2 u 8)) 2 q 10 (g 2 u 10)) 2 q 11 ((g 2 u 11).toNat : Nat)) 14 u 14 q 0 0 8) 15 u 15 q 0 0 6) 16 u 16 q 0 0 6) 17 u 17 q 0 0 6) 18 u 18 q 0 0 6) 19 u 19 q 0 0 12 = zcopyF g q u := by
  funext f i k
  unfold zcopyF
  by_cases hi : i = q
  · subst hi
    have hu : ¬ u = i := fun z => hqu z.symm
    by_cases hf : f = 2
    · subst hf
      have e11 : ((((g 2 u 11).toNat : Nat) : Int)) = g 2 u 11 := by omega
      simp only [zcpy, zup, hu, e11]
      by_cases k0 : k = 0
      · subst k0; simp
      by_cases k1 : k = 1
      · subst k1; simp
      by_cases k3 : k = 3
      · subst k3; simp
      by_cases k8 : k = 8
      · subst k8; simp
      by_cases k10 : k = 10
      · subst k10; simp
      by_cases k11 : k = 11
      · subst k11; simp
      simp [k0, k1, k3, k8, k10, k11]
    · by_cases f14 : f = 14
      · subst f14; simp [zcpy, zup]
      by_cases f15 : f = 15
      · subst f15; simp [zcpy, zup]
      by_cases f16 : f = 16
      · subst f16; simp [zcpy, zup]
      by_cases f17 : f = 17
      · subst f17; simp [zcpy, zup]
      by_cases f18 : f = 18
      · subst f18; simp [zcpy, zup]
      by_cases f19 : f = 19
      · subst f19; simp [zcpy, zup]
      simp [zcpy, zup, hf, f14, f15, f16, f17, f18, f19]
  · simp [zcpy, zup, hi]
theorem c_X2_copyFrom (q u : Nat) : ZC mX2_copyFrom 1 (fun av g => av = [ZR 2 q, ZR 2 u] ∧ q ≠ u ∧ 0 ≤ g 2 u 11) (fun _ g r g' => r = none ∧ g' = zcopyF g q u) := by
  refine zc_of gX2_copyFrom (fun av g hp => by obtain ⟨rfl, -⟩ := hp; exact Nat.le_of_ble_eq_true rfl) (fun Y av g hwf hrg hp hok => ?_)
  obtain ⟨rfl, hp⟩ := hp
  show ZVV _ _ _ 0 [ZR 2 q, ZR 2 u] [] _
  refine zs_aload_n (j := 0) (i := 0) rfl rfl rfl ?_
  refine zs_aload_n (j := 1) (i := 1) rfl rfl rfl ?_
  refine zs_getfield (f := 2) (k := 0) rfl rfl (trivial) ?_
  show ZVV _ _ _ _ _ (ZI (g 2 u 0) :: _) _
  refine zs_putfield (f := 2) (k := 0) (x := g 2 u 0) rfl rfl (rfl) ?_
  refine zs_aload_n (j := 0) (i := 0) rfl rfl rfl ?_
  refine zs_aload_n (j := 1) (i := 1) rfl rfl rfl ?_
  refine zs_getfield (f := 2) (k := 1) rfl rfl (trivial) ?_
  show ZVV _ _ _ _ _ (ZI (g 2 u 1) :: _) _
  show ZVV _ _ _ 13 _ _ _
  refine zs_putfield (f := 2) (k := 1) (x := g 2 u 1) rfl rfl (rfl) ?_
  refine zs_aload_n (j := 0) (i := 0) rfl rfl rfl ?_
  refine zs_aload_n (j := 1) (i := 1) rfl rfl rfl ?_
  refine zs_getfield (f := 2) (k := 3) rfl rfl (trivial) ?_
  show ZVV _ _ _ _ _ (ZI (g 2 u 3) :: _) _
  refine zs_putfield (f := 2) (k := 3) (x := g 2 u 3) rfl rfl (rfl) ?_
  refine zs_aload_n (j := 0) (i := 0) rfl rfl rfl ?_
  refine zs_aload_n (j := 1) (i := 1) rfl rfl rfl ?_
  refine zs_getfield (f := 2) (k := 8) rfl rfl (trivial) ?_
  show ZVV _ _ _ _ _ (ZI (g 2 u 8) :: _) _
  show ZVV _ _ _ 29 _ _ _
  refine zs_putfield (f := 2) (k := 8) (x := g 2 u 8) rfl rfl (rfl) ?_
  refine zs_aload_n (j := 0) (i := 0) rfl rfl rfl ?_
  refine zs_aload_n (j := 1) (i := 1) rfl rfl rfl ?_
  refine zs_getfield (f := 2) (k := 10) rfl rfl (trivial) ?_
  show ZVV _ _ _ _ _ (ZI (g 2 u 10) :: _) _
  refine zs_putfield (f := 2) (k := 10) (x := g 2 u 10) rfl rfl (rfl) ?_
  refine zs_aload_n (j := 0) (i := 0) rfl rfl rfl ?_
  refine zs_aload_n (j := 1) (i := 1) rfl rfl rfl ?_
  refine zs_getfield (f := 2) (k := 11) rfl rfl (trivial) ?_
  show ZVV _ _ _ _ _ (ZR 3 ((g 2 u 11).toNat) :: _) _
  show ZVV _ _ _ 45 _ _ _
  refine zs_putfield (f := 2) (k := 11) (x := ((g 2 u 11).toNat : Nat)) rfl rfl (rfl) ?_
  refine zs_aload_n (j := 1) (i := 1) rfl rfl rfl ?_
  refine zs_getfield (f := 2) (k := 2) rfl rfl (trivial) ?_
  show ZVV _ _ _ _ _ (ZR 14 u :: _) _
  refine zs_iconst (n := 0) rfl ⟨by omega, by omega⟩ ?_
  refine zs_aload_n (j := 0) (i := 0) rfl rfl rfl ?_
  refine zs_getfield (f := 2) (k := 2) rfl rfl (trivial) ?_
  show ZVV _ _ _ _ _ (ZR 14 q :: _) _
  refine zs_iconst (n := 0) rfl ⟨by omega, by omega⟩ ?_
  refine zs_bipush (n := 8) rfl ⟨by omega, by omega⟩ ?_
  show ZVV _ _ _ 60 _ _ _
  refine zs_cpi (n0 := 8) (n1 := 8) rfl kX2_73 (zroom_of (by omega)) (Nat.le_of_ble_eq_true rfl) rfl rfl (by omega) (by omega) (by omega) (by omega) (by omega) ?_
  show ZVV _ _ _ _ _ _ (zcpy (zup (zup (zup (zup (zup (zup g 2 q 0 (g 2 u 0)) 2 q 1 (g 2 u 1)) 2 q 3 (g 2 u 3)) 2 q 8 (g 2 u 8)) 2 q 10 (g 2 u 10)) 2 q 11 ((g 2 u 11).toNat : Nat)) 14 u 14 q 0 0 8)
  refine zs_aload_n (j := 1) (i := 1) rfl rfl rfl ?_
  refine zs_getfield (f := 2) (k := 4) rfl rfl (trivial) ?_
  show ZVV _ _ _ _ _ (ZR 15 u :: _) _
  refine zs_iconst (n := 0) rfl ⟨by omega, by omega⟩ ?_
  refine zs_aload_n (j := 0) (i := 0) rfl rfl rfl ?_
  refine zs_getfield (f := 2) (k := 4) rfl rfl (trivial) ?_
  show ZVV _ _ _ _ _ (ZR 15 q :: _) _
  refine zs_iconst (n := 0) rfl ⟨by omega, by omega⟩ ?_
  refine zs_bipush (n := 6) rfl ⟨by omega, by omega⟩ ?_
  show ZVV _ _ _ 75 _ _ _
  refine zs_cpi (n0 := 6) (n1 := 6) rfl kX2_73 (zroom_of (by omega)) (Nat.le_of_ble_eq_true rfl) rfl rfl (by omega) (by omega) (by omega) (by omega) (by omega) ?_
  show ZVV _ _ _ _ _ _ (zcpy (zcpy (zup (zup (zup (zup (zup (zup g 2 q 0 (g 2 u 0)) 2 q 1 (g 2 u 1)) 2 q 3 (g 2 u 3)) 2 q 8 (g 2 u 8)) 2 q 10 (g 2 u 10)) 2 q 11 ((g 2 u 11).toNat : Nat)) 14 u 14 q 0 0 8) 15 u 15 q 0 0 6)
  refine zs_aload_n (j := 1) (i := 1) rfl rfl rfl ?_
  refine zs_getfield (f := 2) (k := 5) rfl rfl (trivial) ?_
  show ZVV _ _ _ _ _ (ZR 16 u :: _) _
  refine zs_iconst (n := 0) rfl ⟨by omega, by omega⟩ ?_
  refine zs_aload_n (j := 0) (i := 0) rfl rfl rfl ?_
  refine zs_getfield (f := 2) (k := 5) rfl rfl (trivial) ?_
  show ZVV _ _ _ _ _ (ZR 16 q :: _) _
  refine zs_iconst (n := 0) rfl ⟨by omega, by omega⟩ ?_
  refine zs_bipush (n := 6) rfl ⟨by omega, by omega⟩ ?_
  show ZVV _ _ _ 90 _ _ _
  refine zs_cpi (n0 := 6) (n1 := 6) rfl kX2_73 (zroom_of (by omega)) (Nat.le_of_ble_eq_true rfl) rfl rfl (by omega) (by omega) (by omega) (by omega) (by omega) ?_
  show ZVV _ _ _ _ _ _ (zcpy (zcpy (zcpy (zup (zup (zup (zup (zup (zup g 2 q 0 (g 2 u 0)) 2 q 1 (g 2 u 1)) 2 q 3 (g 2 u 3)) 2 q 8 (g 2 u 8)) 2 q 10 (g 2 u 10)) 2 q 11 ((g 2 u 11).toNat : Nat)) 14 u 14 q 0 0 8) 15 u 15 q 0 0 6) 16 u 16 q 0 0 6)
  refine zs_aload_n (j := 1) (i := 1) rfl rfl rfl ?_
  refine zs_getfield (f := 2) (k := 6) rfl rfl (trivial) ?_
  show ZVV _ _ _ _ _ (ZR 17 u :: _) _
  refine zs_iconst (n := 0) rfl ⟨by omega, by omega⟩ ?_
  refine zs_aload_n (j := 0) (i := 0) rfl rfl rfl ?_
  refine zs_getfield (f := 2) (k := 6) rfl rfl (trivial) ?_
  show ZVV _ _ _ _ _ (ZR 17 q :: _) _
  refine zs_iconst (n := 0) rfl ⟨by omega, by omega⟩ ?_
  refine zs_bipush (n := 6) rfl ⟨by omega, by omega⟩ ?_
  show ZVV _ _ _ 105 _ _ _
  refine zs_cpi (n0 := 6) (n1 := 6) rfl kX2_73 (zroom_of (by omega)) (Nat.le_of_ble_eq_true rfl) rfl rfl (by omega) (by omega) (by omega) (by omega) (by omega) ?_
  show ZVV _ _ _ _ _ _ (zcpy (zcpy (zcpy (zcpy (zup (zup (zup (zup (zup (zup g 2 q 0 (g 2 u 0)) 2 q 1 (g 2 u 1)) 2 q 3 (g 2 u 3)) 2 q 8 (g 2 u 8)) 2 q 10 (g 2 u 10)) 2 q 11 ((g 2 u 11).toNat : Nat)) 14 u 14 q 0 0 8) 15 u 15 q 0 0 6) 16 u 16 q 0 0 6) 17 u 17 q 0 0 6)
  refine zs_aload_n (j := 1) (i := 1) rfl rfl rfl ?_
  refine zs_getfield (f := 2) (k := 7) rfl rfl (trivial) ?_
  show ZVV _ _ _ _ _ (ZR 18 u :: _) _
  refine zs_iconst (n := 0) rfl ⟨by omega, by omega⟩ ?_
  refine zs_aload_n (j := 0) (i := 0) rfl rfl rfl ?_
  refine zs_getfield (f := 2) (k := 7) rfl rfl (trivial) ?_
  show ZVV _ _ _ _ _ (ZR 18 q :: _) _
  refine zs_iconst (n := 0) rfl ⟨by omega, by omega⟩ ?_
  refine zs_bipush (n := 6) rfl ⟨by omega, by omega⟩ ?_
  show ZVV _ _ _ 120 _ _ _
  refine zs_cpi (n0 := 6) (n1 := 6) rfl kX2_73 (zroom_of (by omega)) (Nat.le_of_ble_eq_true rfl) rfl rfl (by omega) (by omega) (by omega) (by omega) (by omega) ?_
  show ZVV _ _ _ _ _ _ (zcpy (zcpy (zcpy (zcpy (zcpy (zup (zup (zup (zup (zup (zup g 2 q 0 (g 2 u 0)) 2 q 1 (g 2 u 1)) 2 q 3 (g 2 u 3)) 2 q 8 (g 2 u 8)) 2 q 10 (g 2 u 10)) 2 q 11 ((g 2 u 11).toNat : Nat)) 14 u 14 q 0 0 8) 15 u 15 q 0 0 6) 16 u 16 q 0 0 6) 17 u 17 q 0 0 6) 18 u 18 q 0 0 6)
  refine zs_aload_n (j := 1) (i := 1) rfl rfl rfl ?_
  refine zs_getfield (f := 2) (k := 9) rfl rfl (trivial) ?_
  show ZVV _ _ _ _ _ (ZR 19 u :: _) _
  refine zs_iconst (n := 0) rfl ⟨by omega, by omega⟩ ?_
  refine zs_aload_n (j := 0) (i := 0) rfl rfl rfl ?_
  refine zs_getfield (f := 2) (k := 9) rfl rfl (trivial) ?_
  show ZVV _ _ _ _ _ (ZR 19 q :: _) _
  refine zs_iconst (n := 0) rfl ⟨by omega, by omega⟩ ?_
  refine zs_bipush (n := 12) rfl ⟨by omega, by omega⟩ ?_
  show ZVV _ _ _ 135 _ _ _
  refine zs_cpi (n0 := 12) (n1 := 12) rfl kX2_73 (zroom_of (by omega)) (Nat.le_of_ble_eq_true rfl) rfl rfl (by omega) (by omega) (by omega) (by omega) (by omega) ?_
  show ZVV _ _ _ _ _ _ (zcpy (zcpy (zcpy (zcpy (zcpy (zcpy (zup (zup (zup (zup (zup (zup g 2 q 0 (g 2 u 0)) 2 q 1 (g 2 u 1)) 2 q 3 (g 2 u 3)) 2 q 8 (g 2 u 8)) 2 q 10 (g 2 u 10)) 2 q 11 ((g 2 u 11).toNat : Nat)) 14 u 14 q 0 0 8) 15 u 15 q 0 0 6) 16 u 16 q 0 0 6) 17 u 17 q 0 0 6) 18 u 18 q 0 0 6) 19 u 19 q 0 0 12)
  exact zs_return rfl rfl (⟨rfl, zcopyF_eq g q u hp.1 hp.2⟩)

