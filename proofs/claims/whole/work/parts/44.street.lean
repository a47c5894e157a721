theorem l_X5_tail {Y : ZW} {Q : Option ZV → ZG → Prop} {g0 : ZG} {j : Nat} (h2 : g0 5 0 2 = (j : Int)) {st w3 : Int} {z2 : ZV} (hz2 : ∀ y, z2 ≠ ZJ y) (hst : 0 ≤ st ∧ st < 24) {s : PS} (hB : PB s) (hq : Q none (pset g0 j (pTail (lkf g0) st s))) : ZVV Y mX5_readClause (zcx Y 20 Q) 87 [ZR 5 0, ZI st, z2, ZI w3] [] (pset g0 j s) := by
  refine zs_aload_n (j := 0) (i := 0) rfl rfl rfl ?_
  refine zs_callV (host := "") rfl kX5_63 vX5_readNumber (c_X5_readNumber g0 j s) [] [] rfl (zroom_of (by omega)) rfl (Nat.le_of_ble_eq_true rfl) ⟨rfl, rfl, hB⟩ (fun r_88 g_88 hq_88 => ?_)
  obtain ⟨hr_88, hg_88⟩ := hq_88
  rw [hr_88, hg_88]
  show ZVV _ _ _ 91 _ [ZI ((pNum (lkf g0) s).1)] _
  refine zs_istore_n (j := 3) (i := 3) rfl rfl (by decide) (by intro r x hr; have hr2 : r = 2 := (by omega); subst hr2; intro z; exact hz2 x (Option.some.inj z)) ?_
  show ZVV _ _ _ _ [ZR 5 0, ZI st, z2, ZI ((pNum (lkf g0) s).1)] _ _
  refine zs_aload_n (j := 0) (i := 0) rfl rfl rfl ?_
  refine zs_bipush (n := 32) rfl ⟨by omega, by omega⟩ ?_
  refine zs_callV (host := "") rfl kX5_36 vX5_expect (c_X5_expect g0 j ((pNum (lkf g0) s).2) 32) [ZI 32] [] rfl (zroom_of (by omega)) rfl (Nat.le_of_ble_eq_true rfl) ⟨rfl, rfl, (pNum_B hB)⟩ (fun r_95 g_95 hq_95 => ?_)
  obtain ⟨hr_95, hg_95⟩ := hq_95
  rw [hr_95, hg_95]
  show ZVV _ _ _ 98 _ [] _
  refine zs_aload_n (j := 0) (i := 0) rfl rfl rfl ?_
  show ZVV _ _ _ 99 _ _ _
  refine zs_iconst (n := 0) rfl ⟨by omega, by omega⟩ ?_
  refine zs_callS (host := "") rfl kX5_66 sX5_readEither (c_X5_either4 h2 (pEx (lkf g0) 32 (pNum (lkf g0) s).2)) [ZR 5 0, ZI 0] [] rfl (zroom_of (by omega)) rfl (Nat.le_of_ble_eq_true rfl) ⟨rfl, rfl, (pEx_B (by decide) (pNum_B hB))⟩ (fun r_100 g_100 hq_100 => ?_)
  obtain ⟨hr_100, hg_100⟩ := hq_100
  rw [hr_100, hg_100]
  show ZVV _ _ _ 103 _ [] _
  refine zs_aload_n (j := 0) (i := 0) rfl rfl rfl ?_
  refine zs_getfield (f := 5) (k := 2) rfl rfl (by show 0 ≤ g0 5 0 2; omega) ?_
  show ZVV _ _ _ _ _ (ZR 3 (((pset g0 j (pEi (lkf g0) (pPa (lkf g0) 4) (pEx (lkf g0) 32 (pNum (lkf g0) s).2))) 5 0 2).toNat) :: _) _
  rw [show ((pset g0 j (pEi (lkf g0) (pPa (lkf g0) 4) (pEx (lkf g0) 32 (pNum (lkf g0) s).2))) 5 0 2).toNat = j from by show (g0 5 0 2).toNat = j; rw [h2]; rfl]
  refine zs_iload_n (j := 1) (i := 1) rfl rfl rfl ?_
  refine zs_iload_n (j := 3) (i := 3) rfl rfl rfl ?_
  refine zs_callV (host := "") rfl kX5_70 vX3_add (c_X3_addp g0 j (pEi (lkf g0) (pPa (lkf g0) 4) (pEx (lkf g0) 32 (pNum (lkf g0) s).2)) st ((pNum (lkf g0) s).1)) [ZI st, ZI ((pNum (lkf g0) s).1)] [] rfl (zroom_of (by omega)) rfl (Nat.le_of_ble_eq_true rfl) ⟨rfl, rfl, (pEi_B (pPa_B 4) _ (pEx_B (by decide) (pNum_B hB))), hst, pNum_r⟩ (fun r_109 g_109 hq_109 => ?_)
  obtain ⟨hr_109, hg_109⟩ := hq_109
  rw [hr_109, hg_109]
  show ZVV _ _ _ 112 _ [] _
  exact zs_return rfl rfl (hq)
theorem l_X5_word0 {Y : ZW} {Q : Option ZV → ZG → Prop} {g0 : ZG} {j : Nat} {st : Int} : ∀ (n k : Nat) (s : PS), (k : Int) + n = 5 → PB s → (∀ s2, PB s2 → s2 = pWord (lkf g0) (zxr 10) n k s → ZVV Y mX5_readClause (zcx Y 20 Q) 87 [ZR 5 0, ZI st, ZX 10, ZI 5] [] (pset g0 j s2)) → ZVV Y mX5_readClause (zcx Y 20 Q) 64 [ZR 5 0, ZI st, ZX 10, ZI (k : Int)] [] (pset g0 j s) := by
  intro n
  induction n with
  | zero =>
    intro k s hk hB hq
    refine zs_iload_n (j := 3) (i := 3) rfl rfl rfl ?_
    refine zs_xload_n (j := 2) (i := 2) (q := 10) rfl rfl rfl (by decide) ?_
    refine zs_callX (i := 0) (by decide) rfl kX5_54 vJ0_length (c_J0_length 0) [] [ZI (k : Int)] rfl (zroom_of (by omega)) rfl (Nat.le_of_ble_eq_true rfl) ⟨rfl, by decide⟩ (fun r_66 g_66 hq_66 => ?_)
    obtain ⟨hr_66, hg_66⟩ := hq_66
    rw [hr_66, hg_66]
    show ZVV _ _ _ 69 _ [ZI 5, ZI (k : Int)] _
    refine zs_icmp_ge 87 rfl (by omega) (fun hc_69 => ?_) (fun hc_69 => ?_)
    · have := hq s hB rfl
      rw [show (5 : Int) = (k : Int) by omega] at this
      exact this
    · exfalso; omega
  | succ n ih =>
    intro k s hk hB hq
    refine zs_iload_n (j := 3) (i := 3) rfl rfl rfl ?_
    refine zs_xload_n (j := 2) (i := 2) (q := 10) rfl rfl rfl (by decide) ?_
    refine zs_callX (i := 0) (by decide) rfl kX5_54 vJ0_length (c_J0_length 0) [] [ZI (k : Int)] rfl (zroom_of (by omega)) rfl (Nat.le_of_ble_eq_true rfl) ⟨rfl, by decide⟩ (fun r_66 g_66 hq_66 => ?_)
    obtain ⟨hr_66, hg_66⟩ := hq_66
    rw [hr_66, hg_66]
    show ZVV _ _ _ 69 _ [ZI 5, ZI (k : Int)] _
    refine zs_icmp_ge 87 rfl (by omega) (fun hc_69 => ?_) (fun hc_69 => ?_)
    · exfalso; omega
    · refine zs_aload_n (j := 0) (i := 0) rfl rfl rfl ?_
      refine zs_xload_n (j := 2) (i := 2) (q := 10) rfl rfl rfl (by decide) ?_
      refine zs_iload_n (j := 3) (i := 3) rfl rfl rfl ?_
      refine zs_callX (i := 0) (by decide) rfl kX5_59 vJ0_charAt (c_J0_charAt 0 (k : Int)) [ZI (k : Int)] [ZR 5 0] rfl (zroom_of (by omega)) rfl (Nat.le_of_ble_eq_true rfl) ⟨rfl, by decide, by omega, by show (k : Int) < ((5 : Nat) : Int); omega⟩ (fun r_75 g_75 hq_75 => ?_)
      obtain ⟨hr_75, hg_75⟩ := hq_75
      rw [hr_75, hg_75]
      show ZVV _ _ _ 78 _ [ZI ((zxr 10).getD k 0), ZR 5 0] _
      refine zs_callV (host := "") rfl kX5_36 vX5_expect (c_X5_expect g0 j s ((zxr 10).getD k 0)) [ZI ((zxr 10).getD k 0)] [] rfl (zroom_of (by omega)) rfl (Nat.le_of_ble_eq_true rfl) ⟨rfl, rfl, hB⟩ (fun r_78 g_78 hq_78 => ?_)
      obtain ⟨hr_78, hg_78⟩ := hq_78
      rw [hr_78, hg_78]
      show ZVV _ _ _ 81 _ [] _
      refine zs_iinc_r (i := 3) rfl rfl (by intro r x hr; have hr2 : r = 2 := (by omega); subst hr2; intro z; cases z) ⟨by omega, by omega⟩ ?_
      show ZVV _ _ _ _ [ZR 5 0, ZI st, ZX 10, ZI ((k : Int) + 1)] _ _
      refine zs_goto 64 rfl (by omega) ?_
      refine ih (k + 1) (pEx (lkf g0) ((zxr 10).getD k 0) s) (by omega) (pEx_B (zxr_pos 0 (by decide) k) hB) (fun s2 hs2 he => hq s2 hs2 he)
theorem l_X5_word1 {Y : ZW} {Q : Option ZV → ZG → Prop} {g0 : ZG} {j : Nat} {st : Int} : ∀ (n k : Nat) (s : PS), (k : Int) + n = 5 → PB s → (∀ s2, PB s2 → s2 = pWord (lkf g0) (zxr 11) n k s → ZVV Y mX5_readClause (zcx Y 20 Q) 87 [ZR 5 0, ZI st, ZX 11, ZI 5] [] (pset g0 j s2)) → ZVV Y mX5_readClause (zcx Y 20 Q) 64 [ZR 5 0, ZI st, ZX 11, ZI (k : Int)] [] (pset g0 j s) := by
  intro n
  induction n with
  | zero =>
    intro k s hk hB hq
    refine zs_iload_n (j := 3) (i := 3) rfl rfl rfl ?_
    refine zs_xload_n (j := 2) (i := 2) (q := 11) rfl rfl rfl (by decide) ?_
    refine zs_callX (i := 1) (by decide) rfl kX5_54 vJ0_length (c_J0_length 1) [] [ZI (k : Int)] rfl (zroom_of (by omega)) rfl (Nat.le_of_ble_eq_true rfl) ⟨rfl, by decide⟩ (fun r_66 g_66 hq_66 => ?_)
    obtain ⟨hr_66, hg_66⟩ := hq_66
    rw [hr_66, hg_66]
    show ZVV _ _ _ 69 _ [ZI 5, ZI (k : Int)] _
    refine zs_icmp_ge 87 rfl (by omega) (fun hc_69 => ?_) (fun hc_69 => ?_)
    · have := hq s hB rfl
      rw [show (5 : Int) = (k : Int) by omega] at this
      exact this
    · exfalso; omega
  | succ n ih =>
    intro k s hk hB hq
    refine zs_iload_n (j := 3) (i := 3) rfl rfl rfl ?_
    refine zs_xload_n (j := 2) (i := 2) (q := 11) rfl rfl rfl (by decide) ?_
    refine zs_callX (i := 1) (by decide) rfl kX5_54 vJ0_length (c_J0_length 1) [] [ZI (k : Int)] rfl (zroom_of (by omega)) rfl (Nat.le_of_ble_eq_true rfl) ⟨rfl, by decide⟩ (fun r_66 g_66 hq_66 => ?_)
    obtain ⟨hr_66, hg_66⟩ := hq_66
    rw [hr_66, hg_66]
    show ZVV _ _ _ 69 _ [ZI 5, ZI (k : Int)] _
    refine zs_icmp_ge 87 rfl (by omega) (fun hc_69 => ?_) (fun hc_69 => ?_)
    · exfalso; omega
    · refine zs_aload_n (j := 0) (i := 0) rfl rfl rfl ?_
      refine zs_xload_n (j := 2) (i := 2) (q := 11) rfl rfl rfl (by decide) ?_
      refine zs_iload_n (j := 3) (i := 3) rfl rfl rfl ?_
      refine zs_callX (i := 1) (by decide) rfl kX5_59 vJ0_charAt (c_J0_charAt 1 (k : Int)) [ZI (k : Int)] [ZR 5 0] rfl (zroom_of (by omega)) rfl (Nat.le_of_ble_eq_true rfl) ⟨rfl, by decide, by omega, by show (k : Int) < ((5 : Nat) : Int); omega⟩ (fun r_75 g_75 hq_75 => ?_)
      obtain ⟨hr_75, hg_75⟩ := hq_75
      rw [hr_75, hg_75]
      show ZVV _ _ _ 78 _ [ZI ((zxr 11).getD k 0), ZR 5 0] _
      refine zs_callV (host := "") rfl kX5_36 vX5_expect (c_X5_expect g0 j s ((zxr 11).getD k 0)) [ZI ((zxr 11).getD k 0)] [] rfl (zroom_of (by omega)) rfl (Nat.le_of_ble_eq_true rfl) ⟨rfl, rfl, hB⟩ (fun r_78 g_78 hq_78 => ?_)
      obtain ⟨hr_78, hg_78⟩ := hq_78
      rw [hr_78, hg_78]
      show ZVV _ _ _ 81 _ [] _
      refine zs_iinc_r (i := 3) rfl rfl (by intro r x hr; have hr2 : r = 2 := (by omega); subst hr2; intro z; cases z) ⟨by omega, by omega⟩ ?_
      show ZVV _ _ _ _ [ZR 5 0, ZI st, ZX 11, ZI ((k : Int) + 1)] _ _
      refine zs_goto 64 rfl (by omega) ?_
      refine ih (k + 1) (pEx (lkf g0) ((zxr 11).getD k 0) s) (by omega) (pEx_B (zxr_pos 1 (by decide) k) hB) (fun s2 hs2 he => hq s2 hs2 he)
theorem l_X5_word2 {Y : ZW} {Q : Option ZV → ZG → Prop} {g0 : ZG} {j : Nat} {st : Int} : ∀ (n k : Nat) (s : PS), (k : Int) + n = 5 → PB s → (∀ s2, PB s2 → s2 = pWord (lkf g0) (zxr 12) n k s → ZVV Y mX5_readClause (zcx Y 20 Q) 87 [ZR 5 0, ZI st, ZX 12, ZI 5] [] (pset g0 j s2)) → ZVV Y mX5_readClause (zcx Y 20 Q) 64 [ZR 5 0, ZI st, ZX 12, ZI (k : Int)] [] (pset g0 j s) := by
  intro n
  induction n with
  | zero =>
    intro k s hk hB hq
    refine zs_iload_n (j := 3) (i := 3) rfl rfl rfl ?_
    refine zs_xload_n (j := 2) (i := 2) (q := 12) rfl rfl rfl (by decide) ?_
    refine zs_callX (i := 2) (by decide) rfl kX5_54 vJ0_length (c_J0_length 2) [] [ZI (k : Int)] rfl (zroom_of (by omega)) rfl (Nat.le_of_ble_eq_true rfl) ⟨rfl, by decide⟩ (fun r_66 g_66 hq_66 => ?_)
    obtain ⟨hr_66, hg_66⟩ := hq_66
    rw [hr_66, hg_66]
    show ZVV _ _ _ 69 _ [ZI 5, ZI (k : Int)] _
    refine zs_icmp_ge 87 rfl (by omega) (fun hc_69 => ?_) (fun hc_69 => ?_)
    · have := hq s hB rfl
      rw [show (5 : Int) = (k : Int) by omega] at this
      exact this
    · exfalso; omega
  | succ n ih =>
    intro k s hk hB hq
    refine zs_iload_n (j := 3) (i := 3) rfl rfl rfl ?_
    refine zs_xload_n (j := 2) (i := 2) (q := 12) rfl rfl rfl (by decide) ?_
    refine zs_callX (i := 2) (by decide) rfl kX5_54 vJ0_length (c_J0_length 2) [] [ZI (k : Int)] rfl (zroom_of (by omega)) rfl (Nat.le_of_ble_eq_true rfl) ⟨rfl, by decide⟩ (fun r_66 g_66 hq_66 => ?_)
    obtain ⟨hr_66, hg_66⟩ := hq_66
    rw [hr_66, hg_66]
    show ZVV _ _ _ 69 _ [ZI 5, ZI (k : Int)] _
    refine zs_icmp_ge 87 rfl (by omega) (fun hc_69 => ?_) (fun hc_69 => ?_)
    · exfalso; omega
    · refine zs_aload_n (j := 0) (i := 0) rfl rfl rfl ?_
      refine zs_xload_n (j := 2) (i := 2) (q := 12) rfl rfl rfl (by decide) ?_
      refine zs_iload_n (j := 3) (i := 3) rfl rfl rfl ?_
      refine zs_callX (i := 2) (by decide) rfl kX5_59 vJ0_charAt (c_J0_charAt 2 (k : Int)) [ZI (k : Int)] [ZR 5 0] rfl (zroom_of (by omega)) rfl (Nat.le_of_ble_eq_true rfl) ⟨rfl, by decide, by omega, by show (k : Int) < ((5 : Nat) : Int); omega⟩ (fun r_75 g_75 hq_75 => ?_)
      obtain ⟨hr_75, hg_75⟩ := hq_75
      rw [hr_75, hg_75]
      show ZVV _ _ _ 78 _ [ZI ((zxr 12).getD k 0), ZR 5 0] _
      refine zs_callV (host := "") rfl kX5_36 vX5_expect (c_X5_expect g0 j s ((zxr 12).getD k 0)) [ZI ((zxr 12).getD k 0)] [] rfl (zroom_of (by omega)) rfl (Nat.le_of_ble_eq_true rfl) ⟨rfl, rfl, hB⟩ (fun r_78 g_78 hq_78 => ?_)
      obtain ⟨hr_78, hg_78⟩ := hq_78
      rw [hr_78, hg_78]
      show ZVV _ _ _ 81 _ [] _
      refine zs_iinc_r (i := 3) rfl rfl (by intro r x hr; have hr2 : r = 2 := (by omega); subst hr2; intro z; cases z) ⟨by omega, by omega⟩ ?_
      show ZVV _ _ _ _ [ZR 5 0, ZI st, ZX 12, ZI ((k : Int) + 1)] _ _
      refine zs_goto 64 rfl (by omega) ?_
      refine ih (k + 1) (pEx (lkf g0) ((zxr 12).getD k 0) s) (by omega) (pEx_B (zxr_pos 2 (by decide) k) hB) (fun s2 hs2 he => hq s2 hs2 he)
theorem c_X5_readClause {g0 : ZG} {j : Nat} (h2 : g0 5 0 2 = (j : Int)) (s : PS) : ZC mX5_readClause 20 (fun av g => av = [ZR 5 0] ∧ g = pset g0 j s ∧ PB s) (fun _ g r g' => r = none ∧ g' = pset g0 j (pCl (lkf g0) s)) := by
  refine zc_of gX5_readClause (fun av g hp => by obtain ⟨rfl, -⟩ := hp; exact Nat.le_of_ble_eq_true rfl) (fun Y av g hwf hrg hp hok => ?_)
  obtain ⟨rfl, hp⟩ := hp
  show ZVV _ _ _ 0 [ZR 5 0, ZX 99, ZX 99, ZX 99] [] _
  obtain ⟨rfl, hB⟩ := hp
  refine zs_aload_n (j := 0) (i := 0) rfl rfl rfl ?_
  refine zs_getfield (f := 5) (k := 4) rfl rfl (trivial) ?_
  show ZVV _ _ _ _ _ (ZI (lkf g0 s.1) :: _) _
  refine zs_bipush (n := 109) rfl ⟨by omega, by omega⟩ ?_
  refine zs_icmp_ne 14 rfl (by omega) (fun hc_6 => ?_) (fun hc_6 => ?_)
  · refine zs_aload_n (j := 0) (i := 0) rfl rfl rfl ?_
    refine zs_getfield (f := 5) (k := 4) rfl rfl (trivial) ?_
    show ZVV _ _ _ _ _ (ZI (lkf g0 s.1) :: _) _
    refine zs_bipush (n := 100) rfl ⟨by omega, by omega⟩ ?_
    refine zs_icmp_ne 28 rfl (by omega) (fun hc_20 => ?_) (fun hc_20 => ?_)
    · refine zs_bipush (n := 21) rfl ⟨by omega, by omega⟩ ?_
      refine zs_istore_n (j := 1) (i := 1) rfl rfl (by decide) (by intro r x hr; have hr2 : r = 0 := (by omega); subst hr2; intro z; cases z) ?_
      show ZVV _ _ _ _ [ZR 5 0, ZI 21, ZX 99, ZX 99] _ _
      refine zs_aload_n (j := 0) (i := 0) rfl rfl rfl ?_
      refine zs_getfield (f := 5) (k := 4) rfl rfl (trivial) ?_
      show ZVV _ _ _ _ _ (ZI (lkf g0 s.1) :: _) _
      refine zs_bipush (n := 109) rfl ⟨by omega, by omega⟩ ?_
      refine zs_icmp_ne 45 rfl (by omega) (fun hc_37 => ?_) (fun hc_37 => ?_)
      · refine zs_aload_n (j := 0) (i := 0) rfl rfl rfl ?_
        refine zs_getfield (f := 5) (k := 4) rfl rfl (trivial) ?_
        show ZVV _ _ _ _ _ (ZI (lkf g0 s.1) :: _) _
        refine zs_bipush (n := 100) rfl ⟨by omega, by omega⟩ ?_
        refine zs_icmp_ne 59 rfl (by omega) (fun hc_51 => ?_) (fun hc_51 => ?_)
        · refine zs_ldcS (k := 12) rfl rfl (by decide) ?_
          refine zs_xstore_n (j := 2) (i := 2) rfl rfl (by decide) (by intro r x hr; have hr2 : r = 1 := (by omega); subst hr2; intro z; cases z) ?_
          show ZVV _ _ _ _ [ZR 5 0, ZI 21, ZX 12, ZX 99] _ _
          refine zs_iconst (n := 0) rfl ⟨by omega, by omega⟩ ?_
          refine zs_istore_n (j := 3) (i := 3) rfl rfl (by decide) (by intro r x hr; have hr2 : r = 2 := (by omega); subst hr2; intro z; cases z) ?_
          show ZVV _ _ _ _ [ZR 5 0, ZI 21, ZX 12, ZI 0] _ _
          refine l_X5_word2 5 0 s (by decide) hB (fun s2 hs2 he => l_X5_tail h2 (by intro y h; cases h) (by decide) hs2 ⟨rfl, ?_⟩)
          unfold pCl
          rw [if_neg (by omega), if_neg (by omega), he]
        · exfalso; omega
      · exfalso; omega
    · refine zs_bipush (n := 23) rfl ⟨by omega, by omega⟩ ?_
      refine zs_goto 30 rfl (by omega) ?_
      refine zs_istore_n (j := 1) (i := 1) rfl rfl (by decide) (by intro r x hr; have hr2 : r = 0 := (by omega); subst hr2; intro z; cases z) ?_
      show ZVV _ _ _ _ [ZR 5 0, ZI 23, ZX 99, ZX 99] _ _
      refine zs_aload_n (j := 0) (i := 0) rfl rfl rfl ?_
      refine zs_getfield (f := 5) (k := 4) rfl rfl (trivial) ?_
      show ZVV _ _ _ _ _ (ZI (lkf g0 s.1) :: _) _
      refine zs_bipush (n := 109) rfl ⟨by omega, by omega⟩ ?_
      refine zs_icmp_ne 45 rfl (by omega) (fun hc_37 => ?_) (fun hc_37 => ?_)
      · refine zs_aload_n (j := 0) (i := 0) rfl rfl rfl ?_
        refine zs_getfield (f := 5) (k := 4) rfl rfl (trivial) ?_
        show ZVV _ _ _ _ _ (ZI (lkf g0 s.1) :: _) _
        refine zs_bipush (n := 100) rfl ⟨by omega, by omega⟩ ?_
        refine zs_icmp_ne 59 rfl (by omega) (fun hc_51 => ?_) (fun hc_51 => ?_)
        · exfalso; omega
        · refine zs_ldcS (k := 11) rfl rfl (by decide) ?_
          refine zs_goto 61 rfl (by omega) ?_
          refine zs_xstore_n (j := 2) (i := 2) rfl rfl (by decide) (by intro r x hr; have hr2 : r = 1 := (by omega); subst hr2; intro z; cases z) ?_
          show ZVV _ _ _ _ [ZR 5 0, ZI 23, ZX 11, ZX 99] _ _
          refine zs_iconst (n := 0) rfl ⟨by omega, by omega⟩ ?_
          refine zs_istore_n (j := 3) (i := 3) rfl rfl (by decide) (by intro r x hr; have hr2 : r = 2 := (by omega); subst hr2; intro z; cases z) ?_
          show ZVV _ _ _ _ [ZR 5 0, ZI 23, ZX 11, ZI 0] _ _
          refine l_X5_word1 5 0 s (by decide) hB (fun s2 hs2 he => l_X5_tail h2 (by intro y h; cases h) (by decide) hs2 ⟨rfl, ?_⟩)
          unfold pCl
          rw [if_neg (by omega), if_pos (by omega), he]
      · exfalso; omega
  · refine zs_bipush (n := 22) rfl ⟨by omega, by omega⟩ ?_
    refine zs_goto 30 rfl (by omega) ?_
    refine zs_istore_n (j := 1) (i := 1) rfl rfl (by decide) (by intro r x hr; have hr2 : r = 0 := (by omega); subst hr2; intro z; cases z) ?_
    show ZVV _ _ _ _ [ZR 5 0, ZI 22, ZX 99, ZX 99] _ _
    refine zs_aload_n (j := 0) (i := 0) rfl rfl rfl ?_
    refine zs_getfield (f := 5) (k := 4) rfl rfl (trivial) ?_
    show ZVV _ _ _ _ _ (ZI (lkf g0 s.1) :: _) _
    refine zs_bipush (n := 109) rfl ⟨by omega, by omega⟩ ?_
    refine zs_icmp_ne 45 rfl (by omega) (fun hc_37 => ?_) (fun hc_37 => ?_)
    · exfalso; omega
    · refine zs_ldcS (k := 10) rfl rfl (by decide) ?_
      refine zs_goto 61 rfl (by omega) ?_
      refine zs_xstore_n (j := 2) (i := 2) rfl rfl (by decide) (by intro r x hr; have hr2 : r = 1 := (by omega); subst hr2; intro z; cases z) ?_
      show ZVV _ _ _ _ [ZR 5 0, ZI 22, ZX 10, ZX 99] _ _
      refine zs_iconst (n := 0) rfl ⟨by omega, by omega⟩ ?_
      refine zs_istore_n (j := 3) (i := 3) rfl rfl (by decide) (by intro r x hr; have hr2 : r = 2 := (by omega); subst hr2; intro z; cases z) ?_
      show ZVV _ _ _ _ [ZR 5 0, ZI 22, ZX 10, ZI 0] _ _
      refine l_X5_word0 5 0 s (by decide) hB (fun s2 hs2 he => l_X5_tail h2 (by intro y h; cases h) (by decide) hs2 ⟨rfl, ?_⟩)
      unfold pCl
      rw [if_pos (by omega), he]

theorem pfl_t {b : Bool} (h : ¬ (if b = true then (1 : Int) else 0) = 0) : b = true := zif1 h
theorem pfl_t0 {b : Bool} (h : (if b = true then (1 : Int) else 0) = 0) : ¬ b = true := zif0 h
theorem l_X5_parse {Y : ZW} {Q : Option ZV → ZG → Prop} {g0 : ZG} {j : Nat} (h2 : g0 5 0 2 = (j : Int)) : ∀ (n k : Nat) (s : PS), (k : Int) + n = 10 → PB s → Q (some (ZI (pTx (lkf g0) (g0 5 0 0) n k s).1)) (pset g0 j (pTx (lkf g0) (g0 5 0 0) n k s).2) → ZVV Y mX5_parseInto (zcx Y 21 Q) 24 [ZR 5 0, ZR 3 j, ZI (k : Int)] [] (pset g0 j s) := by
  intro n
  induction n with
  | zero =>
    intro k s hk hB hq
    refine zs_iload_n (j := 2) (i := 2) rfl rfl rfl ?_
    refine zs_bipush (n := 10) rfl ⟨by omega, by omega⟩ ?_
    refine zs_icmp_ge 75 rfl (by omega) (fun hc_27 => ?_) (fun hc_27 => ?_)
    · refine zs_aload_n (j := 0) (i := 0) rfl rfl rfl ?_
      refine zs_getfield (f := 5) (k := 3) rfl rfl (trivial) ?_
      show ZVV _ _ _ _ _ (ZI s.1 :: _) _
      exact zs_ireturn rfl rfl (hq)
    · exfalso; omega
  | succ n ih =>
    intro k s hk hB hq
    refine zs_iload_n (j := 2) (i := 2) rfl rfl rfl ?_
    refine zs_bipush (n := 10) rfl ⟨by omega, by omega⟩ ?_
    refine zs_icmp_ge 75 rfl (by omega) (fun hc_27 => ?_) (fun hc_27 => ?_)
    · exfalso; omega
    · refine zs_iload_n (j := 2) (i := 2) rfl rfl rfl ?_
      refine zs_if_le 40 rfl (by omega) (fun hc_31 => ?_) (fun hc_31 => ?_)
      · rw [show s = (if k = 0 then s else pEx (lkf g0) 59 s) from (if_pos (by omega)).symm]
        refine zs_aload_n (j := 0) (i := 0) rfl rfl rfl ?_
        refine zs_callV (host := "") rfl kX5_39 vX5_readClause (c_X5_readClause h2 (if k = 0 then s else pEx (lkf g0) 59 s)) [] [] rfl (zroom_of (by omega)) rfl (Nat.le_of_ble_eq_true rfl) ⟨rfl, rfl, (show PB (if k = 0 then s else pEx (lkf g0) 59 s) by split; exact hB; exact pEx_B (by decide) hB)⟩ (fun r_41 g_41 hq_41 => ?_)
        obtain ⟨hr_41, hg_41⟩ := hq_41
        rw [hr_41, hg_41]
        show ZVV _ _ _ 44 _ [] _
        skip
        refine zs_aload_n (j := 0) (i := 0) rfl rfl rfl ?_
        refine zs_getfield (f := 5) (k := 5) rfl rfl (trivial) ?_
        show ZVV _ _ _ _ _ (ZI (if (pCl (lkf g0) (if k = 0 then s else pEx (lkf g0) 59 s)).2.1 = true then 1 else 0) :: _) _
        refine zs_if_eq 56 rfl (by omega) (fun hc_48 => ?_) (fun hc_48 => ?_)
        · refine zs_aload_n (j := 0) (i := 0) rfl rfl rfl ?_
          refine zs_getfield (f := 5) (k := 3) rfl rfl (trivial) ?_
          show ZVV _ _ _ _ _ (ZI (((pCl (lkf g0) (if k = 0 then s else pEx (lkf g0) 59 s))).1) :: _) _
          refine zs_aload_n (j := 0) (i := 0) rfl rfl rfl ?_
          refine zs_getfield (f := 5) (k := 0) rfl rfl (trivial) ?_
          show ZVV _ _ _ _ _ (ZI (g0 5 0 0) :: _) _
          refine zs_icmp_lt 69 rfl (by omega) (fun hc_64 => ?_) (fun hc_64 => ?_)
          · refine zs_iinc_r (i := 2) rfl rfl (by intro r x hr; have hr2 : r = 1 := (by omega); subst hr2; intro z; cases z) ⟨by omega, by omega⟩ ?_
            show ZVV _ _ _ _ [ZR 5 0, ZR 3 j, ZI ((k : Int) + 1)] _ _
            refine zs_goto 24 rfl (by omega) ?_
            refine ih (k + 1) (pCl (lkf g0) (if k = 0 then s else pEx (lkf g0) 59 s)) (by omega) (pCl_B (show PB (if k = 0 then s else pEx (lkf g0) 59 s) by split; exact hB; exact pEx_B (by decide) hB)) ?_
            have hh := hq
            rw [show pTx (lkf g0) (g0 5 0 0) (n + 1) k s = pTx (lkf g0) (g0 5 0 0) n (k + 1) (pCl (lkf g0) (if k = 0 then s else pEx (lkf g0) 59 s)) from (if_neg (pfl_t0 hc_48)).trans (if_neg (by omega))] at hh
            exact hh
          · refine zs_iconst (n := (-1)) rfl ⟨by omega, by omega⟩ ?_
            exact zs_ireturn rfl rfl (by have hh := hq; rw [show pTx (lkf g0) (g0 5 0 0) (n + 1) k s = (-1, pCl (lkf g0) (if k = 0 then s else pEx (lkf g0) 59 s)) from (if_neg (pfl_t0 hc_48)).trans (if_pos (by omega))] at hh; exact hh)
        · refine zs_aload_n (j := 0) (i := 0) rfl rfl rfl ?_
          refine zs_getfield (f := 5) (k := 3) rfl rfl (trivial) ?_
          show ZVV _ _ _ _ _ (ZI (((pCl (lkf g0) (if k = 0 then s else pEx (lkf g0) 59 s))).1) :: _) _
          exact zs_ireturn rfl rfl (by have hh := hq; rw [show pTx (lkf g0) (g0 5 0 0) (n + 1) k s = ((pCl (lkf g0) (if k = 0 then s else pEx (lkf g0) 59 s)).1, pCl (lkf g0) (if k = 0 then s else pEx (lkf g0) 59 s)) from if_pos (pfl_t hc_48)] at hh; exact hh)
      · refine zs_aload_n (j := 0) (i := 0) rfl rfl rfl ?_
        refine zs_bipush (n := 59) rfl ⟨by omega, by omega⟩ ?_
        refine zs_callV (host := "") rfl kX5_36 vX5_expect (c_X5_expect g0 j s 59) [ZI 59] [] rfl (zroom_of (by omega)) rfl (Nat.le_of_ble_eq_true rfl) ⟨rfl, rfl, hB⟩ (fun r_37 g_37 hq_37 => ?_)
        obtain ⟨hr_37, hg_37⟩ := hq_37
        rw [hr_37, hg_37]
        show ZVV _ _ _ 40 _ [] _
        rw [show pEx (lkf g0) 59 s = (if k = 0 then s else pEx (lkf g0) 59 s) from (if_neg (by omega)).symm]
        refine zs_aload_n (j := 0) (i := 0) rfl rfl rfl ?_
        refine zs_callV (host := "") rfl kX5_39 vX5_readClause (c_X5_readClause h2 (if k = 0 then s else pEx (lkf g0) 59 s)) [] [] rfl (zroom_of (by omega)) rfl (Nat.le_of_ble_eq_true rfl) ⟨rfl, rfl, (show PB (if k = 0 then s else pEx (lkf g0) 59 s) by split; exact hB; exact pEx_B (by decide) hB)⟩ (fun r_41 g_41 hq_41 => ?_)
        obtain ⟨hr_41, hg_41⟩ := hq_41
        rw [hr_41, hg_41]
        show ZVV _ _ _ 44 _ [] _
        skip
        refine zs_aload_n (j := 0) (i := 0) rfl rfl rfl ?_
        refine zs_getfield (f := 5) (k := 5) rfl rfl (trivial) ?_
        show ZVV _ _ _ _ _ (ZI (if (pCl (lkf g0) (if k = 0 then s else pEx (lkf g0) 59 s)).2.1 = true then 1 else 0) :: _) _
        show ZVV _ _ _ 48 _ _ _
        refine zs_if_eq 56 rfl (by omega) (fun hc_48 => ?_) (fun hc_48 => ?_)
        · refine zs_aload_n (j := 0) (i := 0) rfl rfl rfl ?_
          refine zs_getfield (f := 5) (k := 3) rfl rfl (trivial) ?_
          show ZVV _ _ _ _ _ (ZI (((pCl (lkf g0) (if k = 0 then s else pEx (lkf g0) 59 s))).1) :: _) _
          refine zs_aload_n (j := 0) (i := 0) rfl rfl rfl ?_
          refine zs_getfield (f := 5) (k := 0) rfl rfl (trivial) ?_
          show ZVV _ _ _ _ _ (ZI (g0 5 0 0) :: _) _
          refine zs_icmp_lt 69 rfl (by omega) (fun hc_64 => ?_) (fun hc_64 => ?_)
          · refine zs_iinc_r (i := 2) rfl rfl (by intro r x hr; have hr2 : r = 1 := (by omega); subst hr2; intro z; cases z) ⟨by omega, by omega⟩ ?_
            show ZVV _ _ _ _ [ZR 5 0, ZR 3 j, ZI ((k : Int) + 1)] _ _
            refine zs_goto 24 rfl (by omega) ?_
            refine ih (k + 1) (pCl (lkf g0) (if k = 0 then s else pEx (lkf g0) 59 s)) (by omega) (pCl_B (show PB (if k = 0 then s else pEx (lkf g0) 59 s) by split; exact hB; exact pEx_B (by decide) hB)) ?_
            have hh := hq
            rw [show pTx (lkf g0) (g0 5 0 0) (n + 1) k s = pTx (lkf g0) (g0 5 0 0) n (k + 1) (pCl (lkf g0) (if k = 0 then s else pEx (lkf g0) 59 s)) from (if_neg (pfl_t0 hc_48)).trans (if_neg (by omega))] at hh
            exact hh
          · refine zs_iconst (n := (-1)) rfl ⟨by omega, by omega⟩ ?_
            exact zs_ireturn rfl rfl (by have hh := hq; rw [show pTx (lkf g0) (g0 5 0 0) (n + 1) k s = (-1, pCl (lkf g0) (if k = 0 then s else pEx (lkf g0) 59 s)) from (if_neg (pfl_t0 hc_48)).trans (if_pos (by omega))] at hh; exact hh)
        · refine zs_aload_n (j := 0) (i := 0) rfl rfl rfl ?_
          refine zs_getfield (f := 5) (k := 3) rfl rfl (trivial) ?_
          show ZVV _ _ _ _ _ (ZI (((pCl (lkf g0) (if k = 0 then s else pEx (lkf g0) 59 s))).1) :: _) _
          exact zs_ireturn rfl rfl (by have hh := hq; rw [show pTx (lkf g0) (g0 5 0 0) (n + 1) k s = ((pCl (lkf g0) (if k = 0 then s else pEx (lkf g0) 59 s)).1, pCl (lkf g0) (if k = 0 then s else pEx (lkf g0) 59 s)) from if_pos (pfl_t hc_48)] at hh; exact hh)
theorem pset_new (g : ZG) (j : Nat) : zup (zup (zup (zup (zup (zup g 5 0 2 (j : Int)) 3 j 1 0) 3 j 2 0) 5 0 5 0) 5 0 3 0) 5 0 4 (lkf g 0) = pset (zup g 5 0 2 (j : Int)) j (0, false, []) := by
  funext f i k
  unfold zup pset
  by_cases h5 : f = 5 ∧ i = 0
  · obtain ⟨rfl, rfl⟩ := h5
    by_cases h4 : k = 4
    · subst h4; simp; unfold lkf; rfl
    · by_cases h3 : k = 3
      · subst h3; simp
      · by_cases h55 : k = 5
        · subst h55; simp
        · simp [h3, h4, h55]
  · by_cases h3 : f = 3 ∧ i = j
    · obtain ⟨rfl, rfl⟩ := h3
      by_cases k1 : k = 1
      · subst k1; simp
      · by_cases k2 : k = 2
        · subst k2; simp
        · simp [k1, k2]
    · simp only [List.length_nil, Nat.not_lt_zero, if_false]
      by_cases h20 : f = 20 ∧ i = j
      · obtain ⟨rfl, rfl⟩ := h20; simp
      · rw [if_neg (fun z => h5 ⟨z.1, z.2.2⟩), if_neg (fun z => h5 ⟨z.1, z.2.2⟩), if_neg (fun z => h5 ⟨z.1, z.2.2⟩), if_neg (fun z => h3 ⟨z.1, z.2.2⟩), if_neg (fun z => h3 ⟨z.1, z.2.2⟩), if_neg (fun z => h5 ⟨z.1, z.2.2⟩), if_neg h5, if_neg h3, if_neg h20]
theorem c_X5_parseInto (j : Nat) : ZC mX5_parseInto 21 (fun av g => av = [ZR 5 0, ZR 3 j] ∧ True) (fun _ g r g' => r = some (ZI (pTx (lkf g) (g 5 0 0) 10 0 (0, false, [])).1) ∧ g' = pset (zup g 5 0 2 (j : Int)) j (pTx (lkf g) (g 5 0 0) 10 0 (0, false, [])).2) := by
  refine zc_of gX5_parseInto (fun av g hp => by obtain ⟨rfl, -⟩ := hp; exact Nat.le_of_ble_eq_true rfl) (fun Y av g hwf hrg hp hok => ?_)
  obtain ⟨rfl, hp⟩ := hp
  show ZVV _ _ _ 0 [ZR 5 0, ZR 3 j, ZX 99] [] _
  refine zs_aload_n (j := 0) (i := 0) rfl rfl rfl ?_
  refine zs_aload_n (j := 1) (i := 1) rfl rfl rfl ?_
  refine zs_putfield (f := 5) (k := 2) (x := (j : Nat)) rfl rfl (rfl) ?_
  refine zs_aload_n (j := 0) (i := 0) rfl rfl rfl ?_
  refine zs_getfield (f := 5) (k := 2) rfl rfl (by show 0 ≤ zup g 5 0 2 ((j : Nat) : Int) 5 0 2; rw [zup_eq]; omega) ?_
  show ZVV _ _ _ _ _ (ZR 3 (((j : Int)).toNat) :: _) _
  rw [show ((j : Int)).toNat = j from Int.toNat_natCast j]
  refine zs_callV (host := "") rfl kX5_23 vX3_clear (c_X3_clear j) [] [] rfl (zroom_of (by omega)) rfl (Nat.le_of_ble_eq_true rfl) ⟨rfl, trivial⟩ (fun r_9 g_9 hq_9 => ?_)
  obtain ⟨hr_9, hg_9⟩ := hq_9
  rw [hr_9, hg_9]
  show ZVV _ _ _ 12 _ [] _
  refine zs_aload_n (j := 0) (i := 0) rfl rfl rfl ?_
  show ZVV _ _ _ 13 _ _ _
  refine zs_iconst (n := 0) rfl ⟨by omega, by omega⟩ ?_
  refine zs_putfield (f := 5) (k := 5) (x := 0) rfl rfl (zpvZ (x := 0) ⟨by omega, by omega⟩) ?_
  refine zs_aload_n (j := 0) (i := 0) rfl rfl rfl ?_
  refine zs_iconst (n := 0) rfl ⟨by omega, by omega⟩ ?_
  refine zs_callV (host := "") rfl kX5_32 vX5_lookAt (c_X5_lookAtR 0) [ZI 0] [] rfl (zroom_of (by omega)) rfl (Nat.le_of_ble_eq_true rfl) ⟨rfl, trivial⟩ (fun r_19 g_19 hq_19 => ?_)
  obtain ⟨hr_19, hg_19⟩ := hq_19
  rw [hr_19, hg_19, show lkf (zup (zup (zup (zup g 5 0 2 (j : Nat)) 3 j 1 0) 3 j 2 0) 5 0 5 0) 0 = lkf g 0 from rfl, pset_new]
  show ZVV _ _ _ 22 _ [] _
  refine zs_iconst (n := 0) rfl ⟨by omega, by omega⟩ ?_
  refine zs_istore_n (j := 2) (i := 2) rfl rfl (by decide) (by intro r x hr; have hr2 : r = 1 := (by omega); subst hr2; intro z; cases z) ?_
  show ZVV _ _ _ _ [ZR 5 0, ZR 3 j, ZI 0] _ _
  exact l_X5_parse (g0 := (zup g 5 0 2 (j : Int))) (j := j) (zup_eq _ _ _ _ _) 10 0 (0, false, []) (by decide) ⟨⟨by decide, by decide⟩, Nat.zero_le _⟩ ⟨rfl, rfl⟩

def cStP (g : ZG) : Int × PS := pTx (lkf g) (g 5 0 0) 10 0 (0, false, [])
def cStF (g : ZG) : ZG := zup (pset (zup g 5 0 2 ((g 7 0 8).toNat : Int)) (g 7 0 8).toNat (cStP g).2) 5 0 0 0
def cStreet (g : ZG) : Int × ZG := if g 7 0 8 < 0 ∨ 6 ≤ g 7 0 8 then (-4, g) else if 0 ≤ (cStP g).1 then (-10 - (cStP g).1, cStF g) else (g 7 0 8, zup (zup (cStF g) 2 0 11 (g 7 0 8)) 7 0 8 (g 7 0 8 + 1))
theorem pTx_r (lk : Int → Int) (n : Int) : ∀ (m k : Nat) (s : PS), (pTx lk n m k s).1 = -1 ∨ (pTx lk n m k s).1 = (pTx lk n m k s).2.1 := by
  intro m
  induction m with
  | zero => intro k s; exact Or.inr rfl
  | succ m ih =>
    intro k s
    unfold pTx
    generalize (if k = 0 then s else pEx lk 59 s) = s0
    split
    · exact Or.inr rfl
    · split
      · exact Or.inl rfl
      · exact ih _ _
theorem pTx_B {g : ZG} (n : Int) : ∀ (m k : Nat) (s : PS), PB s → PB (pTx (lkf g) n m k s).2 := by
  intro m
  induction m with
  | zero => intro k s h; exact h
  | succ m ih =>
    intro k s h
    have hc : PB (pCl (lkf g) (if k = 0 then s else pEx (lkf g) 59 s)) := pCl_B (by split; exact h; exact pEx_B (by decide) h)
    unfold pTx
    generalize (if k = 0 then s else pEx (lkf g) 59 s) = s0 at hc ⊢
    split
    · exact hc
    · split
      · exact hc
      · exact ih _ _ hc
theorem cStP_r (g : ZG) : -1 ≤ (cStP g).1 ∧ (cStP g).1 ≤ 100 := by
  have h1 := pTx_r (lkf g) (g 5 0 0) 10 0 (0, false, [])
  have h2 := (pTx_B (g := g) (g 5 0 0) 10 0 (0, false, []) ⟨⟨by decide, by decide⟩, Nat.zero_le _⟩).1
  unfold cStP
  omega
theorem c_X7_street  : ZC mX7_street 22 (fun av g => av = [ZR 7 0] ∧ True) (fun _ g r g' => r = some (ZI (cStreet g).1) ∧ g' = (cStreet g).2) := by
  refine zc_of gX7_street (fun av g hp => by obtain ⟨rfl, -⟩ := hp; exact Nat.le_of_ble_eq_true rfl) (fun Y av g hwf hrg hp hok => ?_)
  obtain ⟨rfl, hp⟩ := hp
  show ZVV _ _ _ 0 [ZR 7 0, ZX 99] [] _
  have hr := cStP_r g
  refine zs_aload_n (j := 0) (i := 0) rfl rfl rfl ?_
  refine zs_getfield (f := 7) (k := 8) rfl rfl (trivial) ?_
  show ZVV _ _ _ _ _ (ZI (g 7 0 8) :: _) _
  refine zs_if_lt 16 rfl (by omega) (fun hc_4 => ?_) (fun hc_4 => ?_)
  · refine zs_bipush (n := (-4)) rfl ⟨by omega, by omega⟩ ?_
    exact zs_ireturn rfl rfl (by unfold cStreet; rw [if_pos (by omega)]; exact ⟨rfl, rfl⟩)
  · refine zs_aload_n (j := 0) (i := 0) rfl rfl rfl ?_
    refine zs_getfield (f := 7) (k := 8) rfl rfl (trivial) ?_
    show ZVV _ _ _ _ _ (ZI (g 7 0 8) :: _) _
    refine zs_bipush (n := 6) rfl ⟨by omega, by omega⟩ ?_
    refine zs_icmp_lt 19 rfl (by omega) (fun hc_13 => ?_) (fun hc_13 => ?_)
    · refine zs_aload_n (j := 0) (i := 0) rfl rfl rfl ?_
      refine zs_getfield (f := 7) (k := 2) rfl rfl (trivial) ?_
      show ZVV _ _ _ _ _ (ZR 5 0 :: _) _
      refine zs_aload_n (j := 0) (i := 0) rfl rfl rfl ?_
      refine zs_getfield (f := 7) (k := 0) rfl rfl (trivial) ?_
      show ZVV _ _ _ _ _ (ZR 25 0 :: _) _
      refine zs_aload_n (j := 0) (i := 0) rfl rfl rfl ?_
      refine zs_getfield (f := 7) (k := 8) rfl rfl (trivial) ?_
      show ZVV _ _ _ _ _ (ZI (g 7 0 8) :: _) _
      refine zs_aald5 (n := 6) rfl rfl (by omega) (by omega) ?_
      show ZVV _ _ _ 32 _ _ _
      refine zs_callV (host := "") rfl kX7_131 vX5_parseInto (c_X5_parseInto (g 7 0 8).toNat) [ZR 3 (g 7 0 8).toNat] [] rfl (zroom_of (by omega)) rfl (Nat.le_of_ble_eq_true rfl) ⟨rfl, trivial⟩ (fun r_32 g_32 hq_32 => ?_)
      obtain ⟨hr_32, hg_32⟩ := hq_32
      rw [hr_32, hg_32]
      show ZVV _ _ _ 35 _ [ZI (cStP g).1] (pset (zup g 5 0 2 ((g 7 0 8).toNat : Int)) (g 7 0 8).toNat (cStP g).2)
      refine zs_istore_n (j := 1) (i := 1) rfl rfl (by decide) (by intro r x hr; have hr2 : r = 0 := (by omega); subst hr2; intro z; cases z) ?_
      show ZVV _ _ _ _ [ZR 7 0, ZI ((cStP g).1)] _ _
      refine zs_aload_n (j := 0) (i := 0) rfl rfl rfl ?_
      refine zs_getfield (f := 7) (k := 2) rfl rfl (trivial) ?_
      show ZVV _ _ _ _ _ (ZR 5 0 :: _) _
      refine zs_iconst (n := 0) rfl ⟨by omega, by omega⟩ ?_
      refine zs_putfield (f := 5) (k := 0) (x := 0) rfl rfl (rfl) ?_
      show ZVV _ _ _ 44 _ _ (cStF g)
      refine zs_iload_n (j := 1) (i := 1) rfl rfl rfl ?_
      refine zs_if_lt 53 rfl (by omega) (fun hc_45 => ?_) (fun hc_45 => ?_)
      · refine zs_aload_n (j := 0) (i := 0) rfl rfl rfl ?_
        refine zs_getfield (f := 7) (k := 5) rfl rfl (trivial) ?_
        show ZVV _ _ _ _ _ (ZR 2 0 :: _) _
        refine zs_aload_n (j := 0) (i := 0) rfl rfl rfl ?_
        refine zs_getfield (f := 7) (k := 0) rfl rfl (trivial) ?_
        show ZVV _ _ _ _ _ (ZR 25 0 :: _) _
        refine zs_aload_n (j := 0) (i := 0) rfl rfl rfl ?_
        refine zs_getfield (f := 7) (k := 8) rfl rfl (trivial) ?_
        show ZVV _ _ _ _ _ (ZI (g 7 0 8) :: _) _
        refine zs_aald5 (n := 6) rfl rfl (by omega) (by omega) ?_
        show ZVV _ _ _ 66 _ _ _
        refine zs_putfield (f := 2) (k := 11) (x := ((g 7 0 8).toNat : Nat)) rfl rfl (rfl) ?_
        rw [show (((g 7 0 8).toNat : Nat) : Int) = g 7 0 8 from Int.toNat_of_nonneg (by omega)]
        refine zs_aload_n (j := 0) (i := 0) rfl rfl rfl ?_
        refine zs_dup rfl (by intro x z; cases z) ?_
        refine zs_getfield (f := 7) (k := 8) rfl rfl (trivial) ?_
        show ZVV _ _ _ _ _ (ZI (g 7 0 8) :: _) _
        refine zs_iconst (n := 1) rfl ⟨by omega, by omega⟩ ?_
        refine zs_iadd_r rfl ⟨by omega, by omega⟩ ?_
        refine zs_putfield (f := 7) (k := 8) (x := (g 7 0 8) + 1) rfl rfl (rfl) ?_
        refine zs_aload_n (j := 0) (i := 0) rfl rfl rfl ?_
        show ZVV _ _ _ 80 _ _ _
        refine zs_getfield (f := 7) (k := 8) rfl rfl (trivial) ?_
        show ZVV _ _ _ _ _ (ZI ((g 7 0 8) + 1) :: _) _
        refine zs_iconst (n := 1) rfl ⟨by omega, by omega⟩ ?_
        refine zs_isub_r rfl ⟨by omega, by omega⟩ ?_
        exact zs_ireturn rfl rfl (by unfold cStreet; rw [if_neg (by omega), if_neg (by omega)]; exact ⟨by show some (ZI _) = some (ZI _); congr 2; omega, rfl⟩)
      · refine zs_bipush (n := (-10)) rfl ⟨by omega, by omega⟩ ?_
        refine zs_iload_n (j := 1) (i := 1) rfl rfl rfl ?_
        refine zs_isub_r rfl ⟨by omega, by omega⟩ ?_
        exact zs_ireturn rfl rfl (by unfold cStreet; rw [if_neg (by omega), if_pos (by omega)]; exact ⟨rfl, rfl⟩)
    · refine zs_bipush (n := (-4)) rfl ⟨by omega, by omega⟩ ?_
      exact zs_ireturn rfl rfl (by unfold cStreet; rw [if_pos (by omega)]; exact ⟨rfl, rfl⟩)

