theorem pfl_f {b : Bool} (h : ¬ (if b = true then (1 : Int) else 0) ≠ 0) : b = false := by
  cases b
  · rfl
  · exact absurd (by decide) h
theorem pfl_n {b : Bool} (h : (if b = true then (1 : Int) else 0) ≠ 0) (k : b = false) : False := by
  subst k; exact h rfl
theorem l_X5_readBoth {Y : ZW} {Q : Option ZV → ZG → Prop} {g0 : ZG} {j : Nat} (h2 : g0 5 0 2 = (j : Int)) {part : PS → PS} (hpB : ∀ s, PB s → PB (part s)) {D : Nat} (hD : 5 ≤ D) {x : Int} (hrec : ∀ s, ZC mX5_readPart D (fun av g => av = [ZR 5 0, ZI x] ∧ g = pset g0 j s ∧ PB s) (fun _ g r g' => r = none ∧ g' = pset g0 j (part s))) : ∀ (n k : Nat) (s : PS), (k : Int) + n = 100 → PB s → Q none (pset g0 j (pLoop (lkf g0) 38 1900 part n s)) → ZVV Y mX5_readBoth (zcx Y (D + 1) Q) 7 [ZR 5 0, ZI x, ZI (k : Int)] [] (pset g0 j s) := by
  intro n
  induction n with
  | zero =>
    intro k s hk hB hq
    refine zs_iload_n (j := 2) (i := 2) rfl rfl rfl ?_
    refine zs_bipush (n := 100) rfl ⟨by omega, by omega⟩ ?_
    refine zs_icmp_ge 56 rfl (by omega) (fun hc_10 => ?_) (fun hc_10 => ?_)
    · exact zs_return rfl rfl (hq)
    · exfalso; omega
  | succ n ih =>
    intro k s hk hB hq
    refine zs_iload_n (j := 2) (i := 2) rfl rfl rfl ?_
    refine zs_bipush (n := 100) rfl ⟨by omega, by omega⟩ ?_
    refine zs_icmp_ge 56 rfl (by omega) (fun hc_10 => ?_) (fun hc_10 => ?_)
    · exfalso; omega
    · refine zs_aload_n (j := 0) (i := 0) rfl rfl rfl ?_
      refine zs_getfield (f := 5) (k := 5) rfl rfl (trivial) ?_
      show ZVV _ _ _ _ _ (ZI (if s.2.1 = true then 1 else 0) :: _) _
      refine zs_if_ne 56 rfl (by omega) (fun hc_17 => ?_) (fun hc_17 => ?_)
      · exact zs_return rfl rfl (by have hh := hq; rw [show pLoop (lkf g0) 38 1900 part (n + 1) s = s from if_neg (fun z => by first | exact absurd z.2 hc_26 | exact pfl_n hc_17 z.1)] at hh; exact hh)
      · refine zs_aload_n (j := 0) (i := 0) rfl rfl rfl ?_
        refine zs_getfield (f := 5) (k := 4) rfl rfl (trivial) ?_
        show ZVV _ _ _ _ _ (ZI (lkf g0 s.1) :: _) _
        refine zs_bipush (n := 38) rfl ⟨by omega, by omega⟩ ?_
        refine zs_icmp_ne 56 rfl (by omega) (fun hc_26 => ?_) (fun hc_26 => ?_)
        · exact zs_return rfl rfl (by have hh := hq; rw [show pLoop (lkf g0) 38 1900 part (n + 1) s = s from if_neg (fun z => by first | exact absurd z.2 hc_26 | exact pfl_n hc_17 z.1)] at hh; exact hh)
        · refine zs_aload_n (j := 0) (i := 0) rfl rfl rfl ?_
          refine zs_bipush (n := 38) rfl ⟨by omega, by omega⟩ ?_
          refine zs_callV (host := "") rfl kX5_36 vX5_expect (c_X5_expect g0 j s 38) [ZI 38] [] rfl (zroom_of (by omega)) rfl (Nat.le_of_ble_eq_true rfl) ⟨rfl, rfl, hB⟩ (fun r_32 g_32 hq_32 => ?_)
          obtain ⟨hr_32, hg_32⟩ := hq_32
          rw [hr_32, hg_32]
          show ZVV _ _ _ 35 _ [] _
          refine zs_aload_n (j := 0) (i := 0) rfl rfl rfl ?_
          refine zs_iload_n (j := 1) (i := 1) rfl rfl rfl ?_
          refine zs_callS (host := "") rfl kX5_77 sX5_readPart (hrec (pEx (lkf g0) 38 s)) [ZR 5 0, ZI x] [] rfl (zroom_of (by omega)) rfl (Nat.le_of_ble_eq_true rfl) ⟨rfl, rfl, (pEx_B (by decide) hB)⟩ (fun r_37 g_37 hq_37 => ?_)
          obtain ⟨hr_37, hg_37⟩ := hq_37
          rw [hr_37, hg_37]
          show ZVV _ _ _ 40 _ [] _
          refine zs_aload_n (j := 0) (i := 0) rfl rfl rfl ?_
          show ZVV _ _ _ 41 _ _ _
          refine zs_getfield (f := 5) (k := 2) rfl rfl (by show 0 ≤ g0 5 0 2; omega) ?_
          show ZVV _ _ _ _ _ (ZR 3 (((pset g0 j (part (pEx (lkf g0) 38 s))) 5 0 2).toNat) :: _) _
          rw [show ((pset g0 j (part (pEx (lkf g0) 38 s))) 5 0 2).toNat = j from by show (g0 5 0 2).toNat = j; rw [h2]; rfl]
          refine zs_bipush (n := 19) rfl ⟨by omega, by omega⟩ ?_
          refine zs_iconst (n := 0) rfl ⟨by omega, by omega⟩ ?_
          refine zs_callV (host := "") rfl kX5_70 vX3_add (c_X3_addp g0 j (part (pEx (lkf g0) 38 s)) 19 0) [ZI 19, ZI 0] [] rfl (zroom_of (by omega)) rfl (Nat.le_of_ble_eq_true rfl) ⟨rfl, rfl, (hpB _ (pEx_B (by decide) hB)), by decide, by decide⟩ (fun r_47 g_47 hq_47 => ?_)
          obtain ⟨hr_47, hg_47⟩ := hq_47
          rw [hr_47, hg_47]
          rw [show (19 * 100 + 0 : Int) = 1900 from rfl]
          show ZVV _ _ _ 50 _ [] _
          refine zs_iinc_r (i := 2) rfl rfl (by intro r x hr; have hr2 : r = 1 := (by omega); subst hr2; intro z; cases z) ⟨by omega, by omega⟩ ?_
          show ZVV _ _ _ _ [ZR 5 0, ZI x, ZI ((k : Int) + 1)] _ _
          refine zs_goto 7 rfl (by omega) ?_
          refine ih (k + 1) (pAdd 1900 (part (pEx (lkf g0) 38 s))) (by omega) (pAdd_B (hpB _ (pEx_B (by decide) hB))) ?_
          have hh := hq
          rw [show pLoop (lkf g0) 38 1900 part (n + 1) s = pLoop (lkf g0) 38 1900 part n (pAdd 1900 (part (pEx (lkf g0) 38 s))) from if_pos ⟨pfl_f hc_17, Classical.not_not.mp hc_26⟩] at hh
          exact hh
theorem c_X5_readBoth {g0 : ZG} {j : Nat} (h2 : g0 5 0 2 = (j : Int)) {part : PS → PS} (hpB : ∀ s, PB s → PB (part s)) {D : Nat} (hD : 5 ≤ D) {x : Int} (hrec : ∀ s, ZC mX5_readPart D (fun av g => av = [ZR 5 0, ZI x] ∧ g = pset g0 j s ∧ PB s) (fun _ g r g' => r = none ∧ g' = pset g0 j (part s))) (s : PS) : ZC mX5_readBoth (D + 1) (fun av g => av = [ZR 5 0, ZI x] ∧ g = pset g0 j s ∧ PB s) (fun _ g r g' => r = none ∧ g' = pset g0 j (pLoop (lkf g0) 38 1900 part 99 (part s))) := by
  refine zc_of gX5_readBoth (fun av g hp => by obtain ⟨rfl, -⟩ := hp; exact Nat.le_of_ble_eq_true rfl) (fun Y av g hwf hrg hp hok => ?_)
  obtain ⟨rfl, hp⟩ := hp
  show ZVV _ _ _ 0 [ZR 5 0, ZI x, ZX 99] [] _
  obtain ⟨rfl, hB⟩ := hp
  refine zs_aload_n (j := 0) (i := 0) rfl rfl rfl ?_
  refine zs_iload_n (j := 1) (i := 1) rfl rfl rfl ?_
  refine zs_callS (host := "") rfl kX5_77 sX5_readPart (hrec s) [ZR 5 0, ZI x] [] rfl (zroom_of (by omega)) rfl (Nat.le_of_ble_eq_true rfl) ⟨rfl, rfl, hB⟩ (fun r_2 g_2 hq_2 => ?_)
  obtain ⟨hr_2, hg_2⟩ := hq_2
  rw [hr_2, hg_2]
  show ZVV _ _ _ 5 _ [] _
  refine zs_iconst (n := 1) rfl ⟨by omega, by omega⟩ ?_
  refine zs_istore_n (j := 2) (i := 2) rfl rfl (by decide) (by intro r x hr; have hr2 : r = 1 := (by omega); subst hr2; intro z; cases z) ?_
  show ZVV _ _ _ _ [ZR 5 0, ZI x, ZI 1] _ _
  exact l_X5_readBoth h2 hpB hD hrec 99 1 (part s) (by decide) (hpB s hB) ⟨rfl, rfl⟩

theorem l_X5_readEither {Y : ZW} {Q : Option ZV → ZG → Prop} {g0 : ZG} {j : Nat} (h2 : g0 5 0 2 = (j : Int)) {part : PS → PS} (hpB : ∀ s, PB s → PB (part s)) {D : Nat} (hD : 5 ≤ D) {x : Int} (hrec : ∀ s, ZC mX5_readBoth D (fun av g => av = [ZR 5 0, ZI x] ∧ g = pset g0 j s ∧ PB s) (fun _ g r g' => r = none ∧ g' = pset g0 j (part s))) : ∀ (n k : Nat) (s : PS), (k : Int) + n = 100 → PB s → Q none (pset g0 j (pLoop (lkf g0) 124 2000 part n s)) → ZVV Y mX5_readEither (zcx Y (D + 1) Q) 7 [ZR 5 0, ZI x, ZI (k : Int)] [] (pset g0 j s) := by
  intro n
  induction n with
  | zero =>
    intro k s hk hB hq
    refine zs_iload_n (j := 2) (i := 2) rfl rfl rfl ?_
    refine zs_bipush (n := 100) rfl ⟨by omega, by omega⟩ ?_
    refine zs_icmp_ge 56 rfl (by omega) (fun hc_10 => ?_) (fun hc_10 => ?_)
    · exact zs_return rfl rfl (hq)
    · exfalso; omega
  | succ n ih =>
    intro k s hk hB hq
    refine zs_iload_n (j := 2) (i := 2) rfl rfl rfl ?_
    refine zs_bipush (n := 100) rfl ⟨by omega, by omega⟩ ?_
    refine zs_icmp_ge 56 rfl (by omega) (fun hc_10 => ?_) (fun hc_10 => ?_)
    · exfalso; omega
    · refine zs_aload_n (j := 0) (i := 0) rfl rfl rfl ?_
      refine zs_getfield (f := 5) (k := 5) rfl rfl (trivial) ?_
      show ZVV _ _ _ _ _ (ZI (if s.2.1 = true then 1 else 0) :: _) _
      refine zs_if_ne 56 rfl (by omega) (fun hc_17 => ?_) (fun hc_17 => ?_)
      · exact zs_return rfl rfl (by have hh := hq; rw [show pLoop (lkf g0) 124 2000 part (n + 1) s = s from if_neg (fun z => by first | exact absurd z.2 hc_26 | exact pfl_n hc_17 z.1)] at hh; exact hh)
      · refine zs_aload_n (j := 0) (i := 0) rfl rfl rfl ?_
        refine zs_getfield (f := 5) (k := 4) rfl rfl (trivial) ?_
        show ZVV _ _ _ _ _ (ZI (lkf g0 s.1) :: _) _
        refine zs_bipush (n := 124) rfl ⟨by omega, by omega⟩ ?_
        refine zs_icmp_ne 56 rfl (by omega) (fun hc_26 => ?_) (fun hc_26 => ?_)
        · exact zs_return rfl rfl (by have hh := hq; rw [show pLoop (lkf g0) 124 2000 part (n + 1) s = s from if_neg (fun z => by first | exact absurd z.2 hc_26 | exact pfl_n hc_17 z.1)] at hh; exact hh)
        · refine zs_aload_n (j := 0) (i := 0) rfl rfl rfl ?_
          refine zs_bipush (n := 124) rfl ⟨by omega, by omega⟩ ?_
          refine zs_callV (host := "") rfl kX5_36 vX5_expect (c_X5_expect g0 j s 124) [ZI 124] [] rfl (zroom_of (by omega)) rfl (Nat.le_of_ble_eq_true rfl) ⟨rfl, rfl, hB⟩ (fun r_32 g_32 hq_32 => ?_)
          obtain ⟨hr_32, hg_32⟩ := hq_32
          rw [hr_32, hg_32]
          show ZVV _ _ _ 35 _ [] _
          refine zs_aload_n (j := 0) (i := 0) rfl rfl rfl ?_
          refine zs_iload_n (j := 1) (i := 1) rfl rfl rfl ?_
          refine zs_callS (host := "") rfl kX5_74 sX5_readBoth (hrec (pEx (lkf g0) 124 s)) [ZR 5 0, ZI x] [] rfl (zroom_of (by omega)) rfl (Nat.le_of_ble_eq_true rfl) ⟨rfl, rfl, (pEx_B (by decide) hB)⟩ (fun r_37 g_37 hq_37 => ?_)
          obtain ⟨hr_37, hg_37⟩ := hq_37
          rw [hr_37, hg_37]
          show ZVV _ _ _ 40 _ [] _
          refine zs_aload_n (j := 0) (i := 0) rfl rfl rfl ?_
          show ZVV _ _ _ 41 _ _ _
          refine zs_getfield (f := 5) (k := 2) rfl rfl (by show 0 ≤ g0 5 0 2; omega) ?_
          show ZVV _ _ _ _ _ (ZR 3 (((pset g0 j (part (pEx (lkf g0) 124 s))) 5 0 2).toNat) :: _) _
          rw [show ((pset g0 j (part (pEx (lkf g0) 124 s))) 5 0 2).toNat = j from by show (g0 5 0 2).toNat = j; rw [h2]; rfl]
          refine zs_bipush (n := 20) rfl ⟨by omega, by omega⟩ ?_
          refine zs_iconst (n := 0) rfl ⟨by omega, by omega⟩ ?_
          refine zs_callV (host := "") rfl kX5_70 vX3_add (c_X3_addp g0 j (part (pEx (lkf g0) 124 s)) 20 0) [ZI 20, ZI 0] [] rfl (zroom_of (by omega)) rfl (Nat.le_of_ble_eq_true rfl) ⟨rfl, rfl, (hpB _ (pEx_B (by decide) hB)), by decide, by decide⟩ (fun r_47 g_47 hq_47 => ?_)
          obtain ⟨hr_47, hg_47⟩ := hq_47
          rw [hr_47, hg_47]
          rw [show (20 * 100 + 0 : Int) = 2000 from rfl]
          show ZVV _ _ _ 50 _ [] _
          refine zs_iinc_r (i := 2) rfl rfl (by intro r x hr; have hr2 : r = 1 := (by omega); subst hr2; intro z; cases z) ⟨by omega, by omega⟩ ?_
          show ZVV _ _ _ _ [ZR 5 0, ZI x, ZI ((k : Int) + 1)] _ _
          refine zs_goto 7 rfl (by omega) ?_
          refine ih (k + 1) (pAdd 2000 (part (pEx (lkf g0) 124 s))) (by omega) (pAdd_B (hpB _ (pEx_B (by decide) hB))) ?_
          have hh := hq
          rw [show pLoop (lkf g0) 124 2000 part (n + 1) s = pLoop (lkf g0) 124 2000 part n (pAdd 2000 (part (pEx (lkf g0) 124 s))) from if_pos ⟨pfl_f hc_17, Classical.not_not.mp hc_26⟩] at hh
          exact hh
theorem c_X5_readEither {g0 : ZG} {j : Nat} (h2 : g0 5 0 2 = (j : Int)) {part : PS → PS} (hpB : ∀ s, PB s → PB (part s)) {D : Nat} (hD : 5 ≤ D) {x : Int} (hrec : ∀ s, ZC mX5_readBoth D (fun av g => av = [ZR 5 0, ZI x] ∧ g = pset g0 j s ∧ PB s) (fun _ g r g' => r = none ∧ g' = pset g0 j (part s))) (s : PS) : ZC mX5_readEither (D + 1) (fun av g => av = [ZR 5 0, ZI x] ∧ g = pset g0 j s ∧ PB s) (fun _ g r g' => r = none ∧ g' = pset g0 j (pLoop (lkf g0) 124 2000 part 99 (part s))) := by
  refine zc_of gX5_readEither (fun av g hp => by obtain ⟨rfl, -⟩ := hp; exact Nat.le_of_ble_eq_true rfl) (fun Y av g hwf hrg hp hok => ?_)
  obtain ⟨rfl, hp⟩ := hp
  show ZVV _ _ _ 0 [ZR 5 0, ZI x, ZX 99] [] _
  obtain ⟨rfl, hB⟩ := hp
  refine zs_aload_n (j := 0) (i := 0) rfl rfl rfl ?_
  refine zs_iload_n (j := 1) (i := 1) rfl rfl rfl ?_
  refine zs_callS (host := "") rfl kX5_74 sX5_readBoth (hrec s) [ZR 5 0, ZI x] [] rfl (zroom_of (by omega)) rfl (Nat.le_of_ble_eq_true rfl) ⟨rfl, rfl, hB⟩ (fun r_2 g_2 hq_2 => ?_)
  obtain ⟨hr_2, hg_2⟩ := hq_2
  rw [hr_2, hg_2]
  show ZVV _ _ _ 5 _ [] _
  refine zs_iconst (n := 1) rfl ⟨by omega, by omega⟩ ?_
  refine zs_istore_n (j := 2) (i := 2) rfl rfl (by decide) (by intro r x hr; have hr2 : r = 1 := (by omega); subst hr2; intro z; cases z) ?_
  show ZVV _ _ _ _ [ZR 5 0, ZI x, ZI 1] _ _
  exact l_X5_readEither h2 hpB hD hrec 99 1 (part s) (by decide) (hpB s hB) ⟨rfl, rfl⟩

theorem l_X5_test {Y : ZW} {Q : Option ZV → ZG → Prop} {g0 : ZG} {j : Nat} (h2 : g0 5 0 2 = (j : Int)) {D : Nat} (hD : 5 ≤ D) {x : Int} {s : PS} (hB : PB s) (hq : Q none (pset g0 j (pTest (lkf g0) s))) : ZVV Y mX5_readPart (zcx Y D Q) 90 [ZR 5 0, ZI x, ZX 99, ZX 99] [] (pset g0 j s) := by
  have ha : 0 ≤ (pOne (lkf g0) (zxr 13) 6 0 s).1 ∧ (pOne (lkf g0) (zxr 13) 6 0 s).1 < 6 := by have := pOne_r (lk := lkf g0) (l := zxr 13) (s := s) 6 0; omega
  have hb : 0 ≤ (pOne (lkf g0) (zxr 14) 3 0 (pOne (lkf g0) (zxr 13) 6 0 s).2).1 ∧ (pOne (lkf g0) (zxr 14) 3 0 (pOne (lkf g0) (zxr 13) 6 0 s).2).1 < 3 := by have := pOne_r (lk := lkf g0) (l := zxr 14) (s := (pOne (lkf g0) (zxr 13) 6 0 s).2) 3 0; omega
  refine zs_aload_n (j := 0) (i := 0) rfl rfl rfl ?_
  refine zs_ldcS (k := 13) rfl rfl (by decide) ?_
  refine zs_callV (host := "") rfl kX5_82 vX5_readOneOf (c_X5_readOneOf13 g0 j s) [ZX 13] [] rfl (zroom_of (by omega)) rfl (Nat.le_of_ble_eq_true rfl) ⟨rfl, rfl, hB⟩ (fun r_93 g_93 hq_93 => ?_)
  obtain ⟨hr_93, hg_93⟩ := hq_93
  rw [hr_93, hg_93]
  show ZVV _ _ _ 96 _ [ZI ((pOne (lkf g0) (zxr 13) 6 0 s).1)] _
  refine zs_istore_n (j := 2) (i := 2) rfl rfl (by decide) (by intro r x hr; have hr2 : r = 1 := (by omega); subst hr2; intro z; cases z) ?_
  show ZVV _ _ _ _ [ZR 5 0, ZI x, ZI ((pOne (lkf g0) (zxr 13) 6 0 s).1), ZX 99] _ _
  refine zs_aload_n (j := 0) (i := 0) rfl rfl rfl ?_
  refine zs_ldcS (k := 14) rfl rfl (by decide) ?_
  refine zs_callV (host := "") rfl kX5_82 vX5_readOneOf (c_X5_readOneOf14 g0 j ((pOne (lkf g0) (zxr 13) 6 0 s).2)) [ZX 14] [] rfl (zroom_of (by omega)) rfl (Nat.le_of_ble_eq_true rfl) ⟨rfl, rfl, (pOne_B (zxr_pos 3 (by decide)) hB 6 0)⟩ (fun r_100 g_100 hq_100 => ?_)
  obtain ⟨hr_100, hg_100⟩ := hq_100
  rw [hr_100, hg_100]
  show ZVV _ _ _ 103 _ [ZI ((pOne (lkf g0) (zxr 14) 3 0 (pOne (lkf g0) (zxr 13) 6 0 s).2).1)] _
  show ZVV _ _ _ 103 _ _ _
  refine zs_istore_n (j := 3) (i := 3) rfl rfl (by decide) (by intro r x hr; have hr2 : r = 2 := (by omega); subst hr2; intro z; cases z) ?_
  show ZVV _ _ _ _ [ZR 5 0, ZI x, ZI ((pOne (lkf g0) (zxr 13) 6 0 s).1), ZI ((pOne (lkf g0) (zxr 14) 3 0 (pOne (lkf g0) (zxr 13) 6 0 s).2).1)] _ _
  refine zs_aload_n (j := 0) (i := 0) rfl rfl rfl ?_
  refine zs_getfield (f := 5) (k := 2) rfl rfl (by show 0 ≤ g0 5 0 2; omega) ?_
  show ZVV _ _ _ _ _ (ZR 3 (((pset g0 j ((pOne (lkf g0) (zxr 14) 3 0 (pOne (lkf g0) (zxr 13) 6 0 s).2).2)) 5 0 2).toNat) :: _) _
  rw [show ((pset g0 j ((pOne (lkf g0) (zxr 14) 3 0 (pOne (lkf g0) (zxr 13) 6 0 s).2).2)) 5 0 2).toNat = j from by show (g0 5 0 2).toNat = j; rw [h2]; rfl]
  refine zs_iload_n (j := 2) (i := 2) rfl rfl rfl ?_
  refine zs_iconst (n := 3) rfl ⟨by omega, by omega⟩ ?_
  refine zs_imul_r rfl ⟨by omega, by omega⟩ ?_
  refine zs_iload_n (j := 3) (i := 3) rfl rfl rfl ?_
  refine zs_iadd_r rfl ⟨by omega, by omega⟩ ?_
  show ZVV _ _ _ 113 _ _ _
  refine zs_aload_n (j := 0) (i := 0) rfl rfl rfl ?_
  refine zs_callV (host := "") rfl kX5_63 vX5_readNumber (c_X5_readNumber g0 j (pOne (lkf g0) (zxr 14) 3 0 (pOne (lkf g0) (zxr 13) 6 0 s).2).2) [] [ZI ((((pOne (lkf g0) (zxr 13) 6 0 s).1) * 3) + ((pOne (lkf g0) (zxr 14) 3 0 (pOne (lkf g0) (zxr 13) 6 0 s).2).1)), ZR 3 j] rfl (zroom_of (by omega)) rfl (Nat.le_of_ble_eq_true rfl) ⟨rfl, rfl, (pOne_B (zxr_pos 4 (by decide)) (pOne_B (zxr_pos 3 (by decide)) hB 6 0) 3 0)⟩ (fun r_114 g_114 hq_114 => ?_)
  obtain ⟨hr_114, hg_114⟩ := hq_114
  rw [hr_114, hg_114]
  show ZVV _ _ _ 117 _ [ZI ((pNum (lkf g0) (pOne (lkf g0) (zxr 14) 3 0 (pOne (lkf g0) (zxr 13) 6 0 s).2).2).1), ZI ((((pOne (lkf g0) (zxr 13) 6 0 s).1) * 3) + ((pOne (lkf g0) (zxr 14) 3 0 (pOne (lkf g0) (zxr 13) 6 0 s).2).1)), ZR 3 j] _
  refine zs_callV (host := "") rfl kX5_70 vX3_add (c_X3_addp g0 j ((pNum (lkf g0) (pOne (lkf g0) (zxr 14) 3 0 (pOne (lkf g0) (zxr 13) 6 0 s).2).2).2) ((pOne (lkf g0) (zxr 13) 6 0 s).1 * 3 + (pOne (lkf g0) (zxr 14) 3 0 (pOne (lkf g0) (zxr 13) 6 0 s).2).1) ((pNum (lkf g0) (pOne (lkf g0) (zxr 14) 3 0 (pOne (lkf g0) (zxr 13) 6 0 s).2).2).1)) [ZI ((pOne (lkf g0) (zxr 13) 6 0 s).1 * 3 + (pOne (lkf g0) (zxr 14) 3 0 (pOne (lkf g0) (zxr 13) 6 0 s).2).1), ZI ((pNum (lkf g0) (pOne (lkf g0) (zxr 14) 3 0 (pOne (lkf g0) (zxr 13) 6 0 s).2).2).1)] [] rfl (zroom_of (by omega)) rfl (Nat.le_of_ble_eq_true rfl) ⟨rfl, rfl, (pNum_B (pOne_B (zxr_pos 4 (by decide)) (pOne_B (zxr_pos 3 (by decide)) hB 6 0) 3 0)), ⟨by omega, by omega⟩, pNum_r⟩ (fun r_117 g_117 hq_117 => ?_)
  obtain ⟨hr_117, hg_117⟩ := hq_117
  rw [hr_117, hg_117]
  show ZVV _ _ _ 120 _ [] _
  exact zs_return rfl rfl (hq)
theorem c_X5_part0 {g0 : ZG} {j : Nat} (h2 : g0 5 0 2 = (j : Int)) {x : Int} (hx : 4 ≤ x) (s : PS) : ZC mX5_readPart 5 (fun av g => av = [ZR 5 0, ZI x] ∧ g = pset g0 j s ∧ PB s) (fun _ g r g' => r = none ∧ g' = pset g0 j (pPa (lkf g0) 0 s)) := by
  refine zc_of gX5_readPart (fun av g hp => by obtain ⟨rfl, -⟩ := hp; exact Nat.le_of_ble_eq_true rfl) (fun Y av g hwf hrg hp hok => ?_)
  obtain ⟨rfl, hp⟩ := hp
  show ZVV _ _ _ 0 [ZR 5 0, ZI x, ZX 99, ZX 99] [] _
  obtain ⟨rfl, hB⟩ := hp
  refine zs_iload_n (j := 1) (i := 1) rfl rfl rfl ?_
  refine zs_iconst (n := 4) rfl ⟨by omega, by omega⟩ ?_
  refine zs_icmp_ge 47 rfl (by omega) (fun hc_2 => ?_) (fun hc_2 => ?_)
  · refine zs_iload_n (j := 1) (i := 1) rfl rfl rfl ?_
    refine zs_iconst (n := 4) rfl ⟨by omega, by omega⟩ ?_
    refine zs_icmp_ge 90 rfl (by omega) (fun hc_49 => ?_) (fun hc_49 => ?_)
    · exact l_X5_test h2 (Nat.le_refl 5) hB ⟨rfl, rfl⟩
    · exfalso; omega
  · exfalso; omega

theorem c_X5_parts {g0 : ZG} {j : Nat} (h2 : g0 5 0 2 = (j : Int)) {D r : Nat} (hD : 5 ≤ D) {x : Int} (hx : 0 ≤ x ∧ x < 4) (hrec : ∀ s, ZC mX5_readPart D (fun av g => av = [ZR 5 0, ZI (x + 1)] ∧ g = pset g0 j s ∧ PB s) (fun _ g r' g' => r' = none ∧ g' = pset g0 j (pPa (lkf g0) r s))) (hei : ∀ s, ZC mX5_readEither (D + 2) (fun av g => av = [ZR 5 0, ZI (x + 1)] ∧ g = pset g0 j s ∧ PB s) (fun _ g r' g' => r' = none ∧ g' = pset g0 j (pEi (lkf g0) (pPa (lkf g0) r) s))) (s : PS) : ZC mX5_readPart (D + 3) (fun av g => av = [ZR 5 0, ZI x] ∧ g = pset g0 j s ∧ PB s) (fun _ g r' g' => r' = none ∧ g' = pset g0 j (pPa (lkf g0) (r + 1) s)) := by
  refine zc_of gX5_readPart (fun av g hp => by obtain ⟨rfl, -⟩ := hp; exact Nat.le_of_ble_eq_true rfl) (fun Y av g hwf hrg hp hok => ?_)
  obtain ⟨rfl, hp⟩ := hp
  show ZVV _ _ _ 0 [ZR 5 0, ZI x, ZX 99, ZX 99] [] _
  obtain ⟨rfl, hB⟩ := hp
  refine zs_iload_n (j := 1) (i := 1) rfl rfl rfl ?_
  refine zs_iconst (n := 4) rfl ⟨by omega, by omega⟩ ?_
  refine zs_icmp_ge 47 rfl (by omega) (fun hc_2 => ?_) (fun hc_2 => ?_)
  · exfalso; omega
  · refine zs_aload_n (j := 0) (i := 0) rfl rfl rfl ?_
    refine zs_getfield (f := 5) (k := 5) rfl rfl (trivial) ?_
    show ZVV _ _ _ _ _ (ZI (if s.2.1 = true then 1 else 0) :: _) _
    refine zs_if_ne 47 rfl (by omega) (fun hc_9 => ?_) (fun hc_9 => ?_)
    · refine zs_iload_n (j := 1) (i := 1) rfl rfl rfl ?_
      refine zs_iconst (n := 4) rfl ⟨by omega, by omega⟩ ?_
      refine zs_icmp_ge 90 rfl (by omega) (fun hc_49 => ?_) (fun hc_49 => ?_)
      · exfalso; omega
      · refine zs_aload_n (j := 0) (i := 0) rfl rfl rfl ?_
        refine zs_getfield (f := 5) (k := 5) rfl rfl (trivial) ?_
        show ZVV _ _ _ _ _ (ZI (if s.2.1 = true then 1 else 0) :: _) _
        refine zs_if_ne 90 rfl (by omega) (fun hc_56 => ?_) (fun hc_56 => ?_)
        · refine l_X5_test h2 (by omega) hB ⟨rfl, ?_⟩
          rw [show pPa (lkf g0) (r + 1) s = pTest (lkf g0) s from (if_neg (fun z => by first | exact hc_18 z.2 | exact pfl_n hc_9 z.1)).trans (if_neg (fun z => by first | exact hc_65 z.2 | exact pfl_n hc_56 z.1 | exact pfl_n hc_9 z.1))]
        · refine zs_aload_n (j := 0) (i := 0) rfl rfl rfl ?_
          refine zs_getfield (f := 5) (k := 4) rfl rfl (trivial) ?_
          show ZVV _ _ _ _ _ (ZI (lkf g0 s.1) :: _) _
          refine zs_bipush (n := 40) rfl ⟨by omega, by omega⟩ ?_
          refine zs_icmp_ne 90 rfl (by omega) (fun hc_65 => ?_) (fun hc_65 => ?_)
          · refine l_X5_test h2 (by omega) hB ⟨rfl, ?_⟩
            rw [show pPa (lkf g0) (r + 1) s = pTest (lkf g0) s from (if_neg (fun z => by first | exact hc_18 z.2 | exact pfl_n hc_9 z.1)).trans (if_neg (fun z => by first | exact hc_65 z.2 | exact pfl_n hc_56 z.1 | exact pfl_n hc_9 z.1))]
          · refine zs_aload_n (j := 0) (i := 0) rfl rfl rfl ?_
            refine zs_bipush (n := 40) rfl ⟨by omega, by omega⟩ ?_
            refine zs_callV (host := "") rfl kX5_36 vX5_expect (c_X5_expect g0 j s 40) [ZI 40] [] rfl (zroom_of (by omega)) rfl (Nat.le_of_ble_eq_true rfl) ⟨rfl, rfl, hB⟩ (fun r_71 g_71 hq_71 => ?_)
            obtain ⟨hr_71, hg_71⟩ := hq_71
            rw [hr_71, hg_71]
            show ZVV _ _ _ 74 _ [] _
            refine zs_aload_n (j := 0) (i := 0) rfl rfl rfl ?_
            refine zs_iload_n (j := 1) (i := 1) rfl rfl rfl ?_
            refine zs_iconst (n := 1) rfl ⟨by omega, by omega⟩ ?_
            refine zs_iadd_r rfl ⟨by omega, by omega⟩ ?_
            show ZVV _ _ _ 78 _ _ _
            refine zs_callS (host := "") rfl kX5_66 sX5_readEither (hei (pEx (lkf g0) 40 s)) [ZR 5 0, ZI (x + 1)] [] rfl (zroom_of (by omega)) rfl (Nat.le_of_ble_eq_true rfl) ⟨rfl, rfl, (pEx_B (by decide) hB)⟩ (fun r_78 g_78 hq_78 => ?_)
            obtain ⟨hr_78, hg_78⟩ := hq_78
            rw [hr_78, hg_78]
            show ZVV _ _ _ 81 _ [] _
            refine zs_aload_n (j := 0) (i := 0) rfl rfl rfl ?_
            refine zs_bipush (n := 41) rfl ⟨by omega, by omega⟩ ?_
            refine zs_callV (host := "") rfl kX5_36 vX5_expect (c_X5_expect g0 j (pEi (lkf g0) (pPa (lkf g0) r) (pEx (lkf g0) 40 s)) 41) [ZI 41] [] rfl (zroom_of (by omega)) rfl (Nat.le_of_ble_eq_true rfl) ⟨rfl, rfl, (pEi_B (pPa_B r) _ (pEx_B (by decide) hB))⟩ (fun r_84 g_84 hq_84 => ?_)
            obtain ⟨hr_84, hg_84⟩ := hq_84
            rw [hr_84, hg_84]
            show ZVV _ _ _ 87 _ [] _
            refine zs_goto 120 rfl (by omega) ?_
            exact zs_return rfl rfl (⟨rfl, by rw [show pPa (lkf g0) (r + 1) s = pEx (lkf g0) 41 (pEi (lkf g0) (pPa (lkf g0) r) (pEx (lkf g0) 40 s)) from (if_neg (fun z => by first | exact hc_18 z.2 | exact pfl_n hc_9 z.1)).trans (if_pos ⟨by exact pfl_f hc_56, Classical.not_not.mp hc_65⟩)]⟩)
    · refine zs_aload_n (j := 0) (i := 0) rfl rfl rfl ?_
      refine zs_getfield (f := 5) (k := 4) rfl rfl (trivial) ?_
      show ZVV _ _ _ _ _ (ZI (lkf g0 s.1) :: _) _
      refine zs_bipush (n := 33) rfl ⟨by omega, by omega⟩ ?_
      refine zs_icmp_ne 47 rfl (by omega) (fun hc_18 => ?_) (fun hc_18 => ?_)
      · refine zs_iload_n (j := 1) (i := 1) rfl rfl rfl ?_
        refine zs_iconst (n := 4) rfl ⟨by omega, by omega⟩ ?_
        refine zs_icmp_ge 90 rfl (by omega) (fun hc_49 => ?_) (fun hc_49 => ?_)
        · exfalso; omega
        · refine zs_aload_n (j := 0) (i := 0) rfl rfl rfl ?_
          refine zs_getfield (f := 5) (k := 5) rfl rfl (trivial) ?_
          show ZVV _ _ _ _ _ (ZI (if s.2.1 = true then 1 else 0) :: _) _
          refine zs_if_ne 90 rfl (by omega) (fun hc_56 => ?_) (fun hc_56 => ?_)
          · refine l_X5_test h2 (by omega) hB ⟨rfl, ?_⟩
            rw [show pPa (lkf g0) (r + 1) s = pTest (lkf g0) s from (if_neg (fun z => by first | exact hc_18 z.2 | exact pfl_n hc_9 z.1)).trans (if_neg (fun z => by first | exact hc_65 z.2 | exact pfl_n hc_56 z.1 | exact pfl_n hc_9 z.1))]
          · refine zs_aload_n (j := 0) (i := 0) rfl rfl rfl ?_
            refine zs_getfield (f := 5) (k := 4) rfl rfl (trivial) ?_
            show ZVV _ _ _ _ _ (ZI (lkf g0 s.1) :: _) _
            refine zs_bipush (n := 40) rfl ⟨by omega, by omega⟩ ?_
            refine zs_icmp_ne 90 rfl (by omega) (fun hc_65 => ?_) (fun hc_65 => ?_)
            · refine l_X5_test h2 (by omega) hB ⟨rfl, ?_⟩
              rw [show pPa (lkf g0) (r + 1) s = pTest (lkf g0) s from (if_neg (fun z => by first | exact hc_18 z.2 | exact pfl_n hc_9 z.1)).trans (if_neg (fun z => by first | exact hc_65 z.2 | exact pfl_n hc_56 z.1 | exact pfl_n hc_9 z.1))]
            · refine zs_aload_n (j := 0) (i := 0) rfl rfl rfl ?_
              refine zs_bipush (n := 40) rfl ⟨by omega, by omega⟩ ?_
              refine zs_callV (host := "") rfl kX5_36 vX5_expect (c_X5_expect g0 j s 40) [ZI 40] [] rfl (zroom_of (by omega)) rfl (Nat.le_of_ble_eq_true rfl) ⟨rfl, rfl, hB⟩ (fun r_71 g_71 hq_71 => ?_)
              obtain ⟨hr_71, hg_71⟩ := hq_71
              rw [hr_71, hg_71]
              show ZVV _ _ _ 74 _ [] _
              refine zs_aload_n (j := 0) (i := 0) rfl rfl rfl ?_
              refine zs_iload_n (j := 1) (i := 1) rfl rfl rfl ?_
              refine zs_iconst (n := 1) rfl ⟨by omega, by omega⟩ ?_
              refine zs_iadd_r rfl ⟨by omega, by omega⟩ ?_
              show ZVV _ _ _ 78 _ _ _
              refine zs_callS (host := "") rfl kX5_66 sX5_readEither (hei (pEx (lkf g0) 40 s)) [ZR 5 0, ZI (x + 1)] [] rfl (zroom_of (by omega)) rfl (Nat.le_of_ble_eq_true rfl) ⟨rfl, rfl, (pEx_B (by decide) hB)⟩ (fun r_78 g_78 hq_78 => ?_)
              obtain ⟨hr_78, hg_78⟩ := hq_78
              rw [hr_78, hg_78]
              show ZVV _ _ _ 81 _ [] _
              refine zs_aload_n (j := 0) (i := 0) rfl rfl rfl ?_
              refine zs_bipush (n := 41) rfl ⟨by omega, by omega⟩ ?_
              refine zs_callV (host := "") rfl kX5_36 vX5_expect (c_X5_expect g0 j (pEi (lkf g0) (pPa (lkf g0) r) (pEx (lkf g0) 40 s)) 41) [ZI 41] [] rfl (zroom_of (by omega)) rfl (Nat.le_of_ble_eq_true rfl) ⟨rfl, rfl, (pEi_B (pPa_B r) _ (pEx_B (by decide) hB))⟩ (fun r_84 g_84 hq_84 => ?_)
              obtain ⟨hr_84, hg_84⟩ := hq_84
              rw [hr_84, hg_84]
              show ZVV _ _ _ 87 _ [] _
              refine zs_goto 120 rfl (by omega) ?_
              exact zs_return rfl rfl (⟨rfl, by rw [show pPa (lkf g0) (r + 1) s = pEx (lkf g0) 41 (pEi (lkf g0) (pPa (lkf g0) r) (pEx (lkf g0) 40 s)) from (if_neg (fun z => by first | exact hc_18 z.2 | exact pfl_n hc_9 z.1)).trans (if_pos ⟨by exact pfl_f hc_56, Classical.not_not.mp hc_65⟩)]⟩)
      · refine zs_aload_n (j := 0) (i := 0) rfl rfl rfl ?_
        refine zs_bipush (n := 33) rfl ⟨by omega, by omega⟩ ?_
        refine zs_callV (host := "") rfl kX5_36 vX5_expect (c_X5_expect g0 j s 33) [ZI 33] [] rfl (zroom_of (by omega)) rfl (Nat.le_of_ble_eq_true rfl) ⟨rfl, rfl, hB⟩ (fun r_24 g_24 hq_24 => ?_)
        obtain ⟨hr_24, hg_24⟩ := hq_24
        rw [hr_24, hg_24]
        show ZVV _ _ _ 27 _ [] _
        refine zs_aload_n (j := 0) (i := 0) rfl rfl rfl ?_
        refine zs_iload_n (j := 1) (i := 1) rfl rfl rfl ?_
        refine zs_iconst (n := 1) rfl ⟨by omega, by omega⟩ ?_
        refine zs_iadd_r rfl ⟨by omega, by omega⟩ ?_
        show ZVV _ _ _ 31 _ _ _
        refine zs_callS (host := "") rfl kX5_77 sX5_readPart (hrec (pEx (lkf g0) 33 s)) [ZR 5 0, ZI (x + 1)] [] rfl (zroom_of (by omega)) rfl (Nat.le_of_ble_eq_true rfl) ⟨rfl, rfl, (pEx_B (by decide) hB)⟩ (fun r_31 g_31 hq_31 => ?_)
        obtain ⟨hr_31, hg_31⟩ := hq_31
        rw [hr_31, hg_31]
        show ZVV _ _ _ 34 _ [] _
        refine zs_aload_n (j := 0) (i := 0) rfl rfl rfl ?_
        refine zs_getfield (f := 5) (k := 2) rfl rfl (by show 0 ≤ g0 5 0 2; omega) ?_
        show ZVV _ _ _ _ _ (ZR 3 (((pset g0 j (pPa (lkf g0) r (pEx (lkf g0) 33 s))) 5 0 2).toNat) :: _) _
        rw [show ((pset g0 j (pPa (lkf g0) r (pEx (lkf g0) 33 s))) 5 0 2).toNat = j from by show (g0 5 0 2).toNat = j; rw [h2]; rfl]
        refine zs_bipush (n := 18) rfl ⟨by omega, by omega⟩ ?_
        refine zs_iconst (n := 0) rfl ⟨by omega, by omega⟩ ?_
        refine zs_callV (host := "") rfl kX5_70 vX3_add (c_X3_addp g0 j (pPa (lkf g0) r (pEx (lkf g0) 33 s)) 18 0) [ZI 18, ZI 0] [] rfl (zroom_of (by omega)) rfl (Nat.le_of_ble_eq_true rfl) ⟨rfl, rfl, (pPa_B r _ (pEx_B (by decide) hB)), by decide, by decide⟩ (fun r_41 g_41 hq_41 => ?_)
        obtain ⟨hr_41, hg_41⟩ := hq_41
        rw [hr_41, hg_41]
        rw [show (18 * 100 + 0 : Int) = 1800 from rfl]
        show ZVV _ _ _ 44 _ [] _
        refine zs_goto 120 rfl (by omega) ?_
        exact zs_return rfl rfl (⟨rfl, by rw [show pPa (lkf g0) (r + 1) s = pAdd 1800 (pPa (lkf g0) r (pEx (lkf g0) 33 s)) from if_pos ⟨by exact pfl_f hc_9, Classical.not_not.mp hc_18⟩]⟩)

theorem c_X5_ei {g0 : ZG} {j : Nat} (h2 : g0 5 0 2 = (j : Int)) {D r : Nat} (hD : 5 ≤ D) {x : Int} (hrec : ∀ s, ZC mX5_readPart D (fun av g => av = [ZR 5 0, ZI x] ∧ g = pset g0 j s ∧ PB s) (fun _ g r' g' => r' = none ∧ g' = pset g0 j (pPa (lkf g0) r s))) (s : PS) : ZC mX5_readEither (D + 2) (fun av g => av = [ZR 5 0, ZI x] ∧ g = pset g0 j s ∧ PB s) (fun _ g r' g' => r' = none ∧ g' = pset g0 j (pEi (lkf g0) (pPa (lkf g0) r) s)) :=
  c_X5_readEither (part := pBo (lkf g0) (pPa (lkf g0) r)) h2 (pBo_B (pPa_B r)) (Nat.le_succ_of_le hD) (fun s => c_X5_readBoth h2 (pPa_B r) hD hrec s) s
theorem c_X5_readPart {g0 : ZG} {j : Nat} (h2 : g0 5 0 2 = (j : Int)) : ∀ (r : Nat), r ≤ 4 → ∀ s, ZC mX5_readPart (5 + 3 * r) (fun av g => av = [ZR 5 0, ZI (4 - (r : Int))] ∧ g = pset g0 j s ∧ PB s) (fun _ g r' g' => r' = none ∧ g' = pset g0 j (pPa (lkf g0) r s)) := by
  intro r
  induction r with
  | zero => intro _ s; exact c_X5_part0 h2 (by decide) s
  | succ r ih =>
    intro hr s
    have e : (4 - ((r + 1 : Nat) : Int)) + 1 = 4 - (r : Int) := by omega
    have ih := ih (by omega)
    rw [← e] at ih
    exact c_X5_parts h2 (by omega) ⟨by omega, by omega⟩ ih (fun s => c_X5_ei h2 (by omega) ih s) s
theorem c_X5_either4 {g0 : ZG} {j : Nat} (h2 : g0 5 0 2 = (j : Int)) (s : PS) : ZC mX5_readEither 19 (fun av g => av = [ZR 5 0, ZI 0] ∧ g = pset g0 j s ∧ PB s) (fun _ g r' g' => r' = none ∧ g' = pset g0 j (pEi (lkf g0) (pPa (lkf g0) 4) s)) := c_X5_ei h2 (by omega) (c_X5_readPart h2 4 (Nat.le_refl 4)) s
