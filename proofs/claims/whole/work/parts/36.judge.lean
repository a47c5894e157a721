def cJudge (g : ZG) (u i : Int) : Int := if ¬ (0 ≤ u ∧ u < 6) then -1 else if g 4 u.toNat 0 ≠ -1 ∧ g 4 u.toNat 0 ≠ 4 then -12 else tJudge (cT g) (g 21 u.toNat) (g 4 u.toNat 1) i (g 2 0 3).toNat 0
theorem l_X7_judge {Y : ZW} {Q : Option ZV → ZG → Prop} {g : ZG} {u i : Int} (hp : CP g) (hlen : ∀ q : Nat, q < 6 → 0 ≤ g 4 q 1 ∧ g 4 q 1 ≤ 60) (hu : 0 ≤ u ∧ u < 6) (hi : -2147483648 ≤ i ∧ i < 2147483648) : ∀ (m k : Nat) (G : ZG), (k : Int) + m = g 2 0 3 → zLV g 1 G → zTL G = cT g → (∀ M, zQR 1 g M → Q (some (ZI (tJudge (cT g) (g 21 u.toNat) (g 4 u.toNat 1) i m k))) M) → ZVV Y mX7_judge (zcx Y 7 Q) 48 [ZR 7 0, ZI u, ZI i, ZR 4 u.toNat, ZI (k : Int)] [] G := by
  have hn6 := hp.1.1.2.2.1
  intro m
  induction m with
  | zero =>
    intro k G hk hLS hT hq
    have e2_G : G 2 0 = g 2 0 := hLS.2.2.1 2 0 rfl
    have e18_G : G 18 0 = g 18 0 := hLS.2.2.1 18 0 rfl
    have e4_G : G 4 u.toNat = g 4 u.toNat := hLS.2.2.1 4 u.toNat rfl
    have hl := hlen u.toNat (by omega)
    refine zs_iload (i := 4) rfl rfl ?_
    refine zs_aload_n (j := 0) (i := 0) rfl rfl rfl ?_
    refine zs_getfield (f := 7) (k := 5) rfl rfl (trivial) ?_
    show ZVV _ _ _ _ _ (ZR 2 0 :: _) _
    refine zs_getfield (f := 2) (k := 3) rfl rfl (trivial) ?_
    show ZVV _ _ _ _ _ (ZI (G 2 0 3) :: _) _
    rw [e2_G]
    refine zs_icmp_ge 131 rfl (by omega) (fun hc_57 => ?_) (fun hc_57 => ?_)
    · refine zs_bipush (n := (-5)) rfl ⟨by omega, by omega⟩ ?_
      exact zs_ireturn rfl rfl (hq _ hLS.q)
    · exfalso; omega
  | succ m ih =>
    intro k G hk hLS hT hq
    have e2_G : G 2 0 = g 2 0 := hLS.2.2.1 2 0 rfl
    have e18_G : G 18 0 = g 18 0 := hLS.2.2.1 18 0 rfl
    have e4_G : G 4 u.toNat = g 4 u.toNat := hLS.2.2.1 4 u.toNat rfl
    have hl := hlen u.toNat (by omega)
    refine zs_iload (i := 4) rfl rfl ?_
    refine zs_aload_n (j := 0) (i := 0) rfl rfl rfl ?_
    refine zs_getfield (f := 7) (k := 5) rfl rfl (trivial) ?_
    show ZVV _ _ _ _ _ (ZR 2 0 :: _) _
    refine zs_getfield (f := 2) (k := 3) rfl rfl (trivial) ?_
    show ZVV _ _ _ _ _ (ZI (G 2 0 3) :: _) _
    rw [e2_G]
    refine zs_icmp_ge 131 rfl (by omega) (fun hc_57 => ?_) (fun hc_57 => ?_)
    · exfalso; omega
    · refine zs_iload_n (j := 2) (i := 2) rfl rfl rfl ?_
      refine zs_if_lt 75 rfl (by omega) (fun hc_61 => ?_) (fun hc_61 => ?_)
      · refine zs_bipush (n := 100) rfl ⟨by omega, by omega⟩ ?_
        refine zs_iload (i := 4) rfl rfl ?_
        refine zs_iadd_r rfl ⟨by omega, by omega⟩ ?_
        exact zs_ireturn rfl rfl (by have := hq _ hLS.q; rw [tJudge_s, if_pos (by omega)] at this; exact this)
      · refine zs_iload_n (j := 2) (i := 2) rfl rfl rfl ?_
        refine zs_aload_n (j := 3) (i := 3) rfl rfl rfl ?_
        refine zs_getfield (f := 4) (k := 1) rfl rfl (trivial) ?_
        show ZVV _ _ _ _ _ (ZI (G 4 u.toNat 1) :: _) _
        rw [e4_G]
        refine zs_iload (i := 4) rfl rfl ?_
        refine zs_isub_r rfl ⟨by omega, by omega⟩ ?_
        refine zs_icmp_lt 81 rfl (by omega) (fun hc_72 => ?_) (fun hc_72 => ?_)
        · refine zs_aload_n (j := 0) (i := 0) rfl rfl rfl ?_
          refine zs_getfield (f := 7) (k := 7) rfl rfl (trivial) ?_
          show ZVV _ _ _ _ _ (ZR 1 0 :: _) _
          refine zs_iload (i := 4) rfl rfl ?_
          refine zs_aload_n (j := 0) (i := 0) rfl rfl rfl ?_
          refine zs_getfield (f := 7) (k := 5) rfl rfl (trivial) ?_
          show ZVV _ _ _ _ _ (ZR 2 0 :: _) _
          refine zs_getfield (f := 2) (k := 7) rfl rfl (trivial) ?_
          show ZVV _ _ _ _ _ (ZR 18 0 :: _) _
          refine zs_iload (i := 4) rfl rfl ?_
          show ZVV _ _ _ 96 _ _ _
          refine zs_iald (n := 6) rfl rfl (by omega) (by omega) ?_
          show ZVV _ _ _ _ _ (ZI (G 18 0 k) :: _) _
          rw [e18_G]
          have hm18 := hp.1.2.2.1 k (by omega)
          have hm8 := (hp.1.1.2.2.2.2.2 k (by omega)).1.2
          have hG3 : G 2 2 3 = g 2 0 3 := congrArg tnp hT
          have hG0 : G 2 2 0 = g 2 0 0 := congrArg tn hT
          refine zs_callV (host := "") rfl kX7_115 vX1_suits (c_X1_suits (k : Int) (g 18 0 k)) [ZI (k : Int), ZI (g 18 0 k)] [] rfl (zroom_of (by omega)) rfl (Nat.le_of_ble_eq_true rfl) ⟨rfl, hLS.1, ⟨by omega, by rw [hG3]; omega⟩, ⟨hm18, by rw [hG0]; exact hm8⟩⟩ (fun r_97 g_97 hq_97 => ?_)
          obtain ⟨hr_97, hS_97, hL_97, -⟩ := hq_97
          have hLS_97 := hLS.sl hS_97 hL_97
          have e21_97 : g_97 21 u.toNat = g 21 u.toNat := hLS_97.2.2.1 21 u.toNat rfl
          rw [hr_97, hT]
          show ZVV _ _ _ 100 _ [ZI (if tSu (cT g) k (g 18 0 k) = true then 1 else 0)] _
          refine zs_aload_n (j := 3) (i := 3) rfl rfl rfl ?_
          refine zs_getfield (f := 4) (k := 2) rfl rfl (trivial) ?_
          show ZVV _ _ _ _ _ (ZR 21 u.toNat :: _) _
          refine zs_iload_n (j := 2) (i := 2) rfl rfl rfl ?_
          refine zs_iload (i := 4) rfl rfl ?_
          refine zs_iadd_r rfl ⟨by omega, by omega⟩ ?_
          refine zs_lald (n := 60) rfl rfl (by omega) (by omega) ?_
          show ZVV _ _ _ _ _ (ZJ (g_97 21 u.toNat (i + (k : Int)).toNat) :: _) _
          rw [e21_97]
          show ZVV _ _ _ 109 _ _ _
          refine zs_lconst (n := 0) rfl ?_
          show ZVV _ _ _ _ _ (ZJ 0 :: _) _
          refine zs_lcmp rfl ?_
          refine zs_if_eq 118 rfl (by omega) (fun hc_111 => ?_) (fun hc_111 => ?_)
          · refine zs_iconst (n := 0) rfl ⟨by omega, by omega⟩ ?_
            refine zs_icmp_eq 125 rfl (by omega) (fun hc_119 => ?_) (fun hc_119 => ?_)
            · have hlc : ((if g 21 u.toNat (i + (k : Int)).toNat < 0 then -1 else if g 21 u.toNat (i + (k : Int)).toNat = 0 then 0 else 1) = 0) ↔ g 21 u.toNat (i + (k : Int)).toNat = 0 := by
                by_cases q1 : g 21 u.toNat (i + (k : Int)).toNat < 0
                · rw [if_pos q1]; omega
                · rw [if_neg q1]
                  by_cases q2 : g 21 u.toNat (i + (k : Int)).toNat = 0
                  · rw [if_pos q2]; omega
                  · rw [if_neg q2]; omega
              first | have hx : g 21 u.toNat (i + (k : Int)).toNat = 0 := hlc.mp hc_111 | have hx : ¬ g 21 u.toNat (i + (k : Int)).toNat = 0 := fun z => hc_111 (hlc.mpr z)
              have hts : tho (cT g) k = g 18 0 k := rfl
              have hiff : (tSu (cT g) k (tho (cT g) k) = true ↔ g 21 u.toNat (i + (k : Int)).toNat ≠ 0) := by
                rw [hts]
                by_cases q3 : tSu (cT g) k (g 18 0 k) = true
                · rw [if_pos q3] at hc_119
                  simp only [q3, true_iff]
                  omega
                · rw [if_neg q3] at hc_119
                  first | exact ⟨fun z => absurd z q3, fun z => absurd hx z⟩ | exact fun z => q3 (z.mpr hx) | omega
              refine zs_iinc_r (i := 4) rfl rfl (by intro r x hr; have hr2 : r = 3 := (by omega); subst hr2; intro z; cases z) ⟨by omega, by omega⟩ ?_
              show ZVV _ _ _ _ [ZR 7 0, ZI u, ZI i, ZR 4 u.toNat, ZI ((k : Int) + 1)] _ _
              refine zs_goto 48 rfl (by omega) ?_
              exact ih (k + 1) _ (by omega) hLS_97 (hS_97.townL.trans hT) (fun M z => by have := hq M z; rw [tJudge_s, if_neg (by omega), if_pos hiff] at this; exact this)
            · have hlc : ((if g 21 u.toNat (i + (k : Int)).toNat < 0 then -1 else if g 21 u.toNat (i + (k : Int)).toNat = 0 then 0 else 1) = 0) ↔ g 21 u.toNat (i + (k : Int)).toNat = 0 := by
                by_cases q1 : g 21 u.toNat (i + (k : Int)).toNat < 0
                · rw [if_pos q1]; omega
                · rw [if_neg q1]
                  by_cases q2 : g 21 u.toNat (i + (k : Int)).toNat = 0
                  · rw [if_pos q2]; omega
                  · rw [if_neg q2]; omega
              first | have hx : g 21 u.toNat (i + (k : Int)).toNat = 0 := hlc.mp hc_111 | have hx : ¬ g 21 u.toNat (i + (k : Int)).toNat = 0 := fun z => hc_111 (hlc.mpr z)
              have hts : tho (cT g) k = g 18 0 k := rfl
              have hiff : ¬ (tSu (cT g) k (tho (cT g) k) = true ↔ g 21 u.toNat (i + (k : Int)).toNat ≠ 0) := by
                rw [hts]
                by_cases q3 : tSu (cT g) k (g 18 0 k) = true
                · rw [if_pos q3] at hc_119
                  simp only [q3, true_iff]
                  omega
                · rw [if_neg q3] at hc_119
                  first | exact ⟨fun z => absurd z q3, fun z => absurd hx z⟩ | exact fun z => q3 (z.mpr hx) | omega
              refine zs_iload (i := 4) rfl rfl ?_
              exact zs_ireturn rfl rfl (by have := hq _ hLS_97.q; rw [tJudge_s, if_neg (by omega), if_neg hiff] at this; exact this)
          · refine zs_iconst (n := 1) rfl ⟨by omega, by omega⟩ ?_
            refine zs_goto 119 rfl (by omega) ?_
            refine zs_icmp_eq 125 rfl (by omega) (fun hc_119 => ?_) (fun hc_119 => ?_)
            · have hlc : ((if g 21 u.toNat (i + (k : Int)).toNat < 0 then -1 else if g 21 u.toNat (i + (k : Int)).toNat = 0 then 0 else 1) = 0) ↔ g 21 u.toNat (i + (k : Int)).toNat = 0 := by
                by_cases q1 : g 21 u.toNat (i + (k : Int)).toNat < 0
                · rw [if_pos q1]; omega
                · rw [if_neg q1]
                  by_cases q2 : g 21 u.toNat (i + (k : Int)).toNat = 0
                  · rw [if_pos q2]; omega
                  · rw [if_neg q2]; omega
              first | have hx : g 21 u.toNat (i + (k : Int)).toNat = 0 := hlc.mp hc_111 | have hx : ¬ g 21 u.toNat (i + (k : Int)).toNat = 0 := fun z => hc_111 (hlc.mpr z)
              have hts : tho (cT g) k = g 18 0 k := rfl
              have hiff : (tSu (cT g) k (tho (cT g) k) = true ↔ g 21 u.toNat (i + (k : Int)).toNat ≠ 0) := by
                rw [hts]
                by_cases q3 : tSu (cT g) k (g 18 0 k) = true
                · rw [if_pos q3] at hc_119
                  simp only [q3, true_iff]
                  omega
                · rw [if_neg q3] at hc_119
                  first | exact ⟨fun z => absurd z q3, fun z => absurd hx z⟩ | exact fun z => q3 (z.mpr hx) | omega
              refine zs_iinc_r (i := 4) rfl rfl (by intro r x hr; have hr2 : r = 3 := (by omega); subst hr2; intro z; cases z) ⟨by omega, by omega⟩ ?_
              show ZVV _ _ _ _ [ZR 7 0, ZI u, ZI i, ZR 4 u.toNat, ZI ((k : Int) + 1)] _ _
              refine zs_goto 48 rfl (by omega) ?_
              exact ih (k + 1) _ (by omega) hLS_97 (hS_97.townL.trans hT) (fun M z => by have := hq M z; rw [tJudge_s, if_neg (by omega), if_pos hiff] at this; exact this)
            · have hlc : ((if g 21 u.toNat (i + (k : Int)).toNat < 0 then -1 else if g 21 u.toNat (i + (k : Int)).toNat = 0 then 0 else 1) = 0) ↔ g 21 u.toNat (i + (k : Int)).toNat = 0 := by
                by_cases q1 : g 21 u.toNat (i + (k : Int)).toNat < 0
                · rw [if_pos q1]; omega
                · rw [if_neg q1]
                  by_cases q2 : g 21 u.toNat (i + (k : Int)).toNat = 0
                  · rw [if_pos q2]; omega
                  · rw [if_neg q2]; omega
              first | have hx : g 21 u.toNat (i + (k : Int)).toNat = 0 := hlc.mp hc_111 | have hx : ¬ g 21 u.toNat (i + (k : Int)).toNat = 0 := fun z => hc_111 (hlc.mpr z)
              have hts : tho (cT g) k = g 18 0 k := rfl
              have hiff : ¬ (tSu (cT g) k (tho (cT g) k) = true ↔ g 21 u.toNat (i + (k : Int)).toNat ≠ 0) := by
                rw [hts]
                by_cases q3 : tSu (cT g) k (g 18 0 k) = true
                · rw [if_pos q3] at hc_119
                  simp only [q3, true_iff]
                  omega
                · rw [if_neg q3] at hc_119
                  first | exact ⟨fun z => absurd z q3, fun z => absurd hx z⟩ | exact fun z => q3 (z.mpr hx) | omega
              refine zs_iload (i := 4) rfl rfl ?_
              exact zs_ireturn rfl rfl (by have := hq _ hLS_97.q; rw [tJudge_s, if_neg (by omega), if_neg hiff] at this; exact this)
        · refine zs_bipush (n := 100) rfl ⟨by omega, by omega⟩ ?_
          refine zs_iload (i := 4) rfl rfl ?_
          refine zs_iadd_r rfl ⟨by omega, by omega⟩ ?_
          exact zs_ireturn rfl rfl (by have := hq _ hLS.q; rw [tJudge_s, if_pos (by omega)] at this; exact this)
theorem c_X7_judge (u i : Int) : ZC mX7_judge 7 (fun av g => av = [ZR 7 0, ZI u, ZI i] ∧ CP g ∧ (∀ q : Nat, q < 6 → 0 ≤ g 4 q 1 ∧ g 4 q 1 ≤ 60)) (fun _ g r g' => r = some (ZI (cJudge g u i)) ∧ zQR 1 g g') := by
  refine zc_of gX7_judge (fun av g hp => by obtain ⟨rfl, -⟩ := hp; exact Nat.le_of_ble_eq_true rfl) (fun Y av g hwf hrg hp hok => ?_)
  obtain ⟨rfl, hp⟩ := hp
  show ZVV _ _ _ 0 [ZR 7 0, ZI u, ZI i, ZX 99, ZX 99] [] _
  have hlen := hp.2
  replace hp := hp.1
  have hw2 := hok (ZI i) (by simp)
  have hw : -2147483648 ≤ i ∧ i < 2147483648 := hw2
  refine zs_iload_n (j := 1) (i := 1) rfl rfl rfl ?_
  refine zs_callS (host := "") rfl kX7_209 sX7_isTape (c_X7_isTape u) [ZI u] [] rfl (zroom_of (by omega)) rfl (Nat.le_of_ble_eq_true rfl) (⟨rfl, trivial⟩) (fun r_1 g_1 hq_1 => ?_)
  obtain ⟨hr_1, hg_1⟩ := hq_1
  rw [hr_1, hg_1]
  show ZVV _ _ _ 4 _ [ZI (if 0 ≤ u ∧ u < 6 then 1 else 0)] _
  refine zs_if_ne 9 rfl (by omega) (fun hc_4 => ?_) (fun hc_4 => ?_)
  · refine zs_aload_n (j := 0) (i := 0) rfl rfl rfl ?_
    refine zs_getfield (f := 7) (k := 1) rfl rfl (trivial) ?_
    show ZVV _ _ _ _ _ (ZR 26 0 :: _) _
    refine zs_iload_n (j := 1) (i := 1) rfl rfl rfl ?_
    refine zs_aald6 (n := 6) rfl rfl (by omega) (by omega) ?_
    refine zs_astore_n (j := 3) (i := 3) rfl rfl (by decide) (by intro r x hr; have hr2 : r = 2 := (by omega); subst hr2; intro z; cases z) ?_
    show ZVV _ _ _ _ [ZR 7 0, ZI u, ZI i, ZR 4 u.toNat, ZX 99] _ _
    refine zs_aload_n (j := 3) (i := 3) rfl rfl rfl ?_
    refine zs_callV (host := "") rfl kX7_212 vX4_isThere (c_X4_isThere u.toNat) [] [] rfl (zroom_of (by omega)) rfl (Nat.le_of_ble_eq_true rfl) (⟨rfl, trivial⟩) (fun r_17 g_17 hq_17 => ?_)
    obtain ⟨hr_17, hg_17⟩ := hq_17
    rw [hr_17, hg_17]
    show ZVV _ _ _ 20 _ [ZI (if g 4 u.toNat 0 ≠ -1 then 1 else 0)] _
    show ZVV _ _ _ 20 _ _ _
    refine zs_if_eq 34 rfl (by omega) (fun hc_20 => ?_) (fun hc_20 => ?_)
    · refine zs_aload_n (j := 0) (i := 0) rfl rfl rfl ?_
      refine zs_getfield (f := 7) (k := 7) rfl rfl (trivial) ?_
      show ZVV _ _ _ _ _ (ZR 1 0 :: _) _
      refine zs_aload_n (j := 0) (i := 0) rfl rfl rfl ?_
      refine zs_getfield (f := 7) (k := 5) rfl rfl (trivial) ?_
      show ZVV _ _ _ _ _ (ZR 2 0 :: _) _
      refine zs_callV (host := "") rfl kX7_98 vX1_startFrom (c_X1_startFrom 0) [ZR 2 0] [] rfl (zroom_of (by omega)) rfl (Nat.le_of_ble_eq_true rfl) ⟨rfl, ⟨by decide, hp.2.1.2.1, Int.le_trans hp.2.2 (by decide)⟩, hp.1.2.1.1.1⟩ (fun r_42 g_42 hq_42 => ?_)
      obtain ⟨hr_42, hg_42⟩ := hq_42
      rw [hr_42]
      obtain ⟨hL42, hH42, hT42, hV42, hB42, hs42, eL18_42, eL3_42, eL0_42, eL8_42⟩ := start_okx hp hg_42
      have e2_42 : g_42 2 0 = g 2 0 := hV42 2 0 rfl
      have e15_42 : g_42 15 0 = g 15 0 := hV42 15 0 rfl
      have e16_42 : g_42 16 0 = g 16 0 := hV42 16 0 rfl
      have e17_42 : g_42 17 0 = g 17 0 := hV42 17 0 rfl
      have e18_42 : g_42 18 0 = g 18 0 := hV42 18 0 rfl
      have e19_42 : g_42 19 0 = g 19 0 := hV42 19 0 rfl
      obtain ⟨hLS, hTT⟩ := zLV.start hp hg_42
      show ZVV _ _ _ 45 _ [] g_42
      refine zs_iconst (n := 0) rfl ⟨by omega, by omega⟩ ?_
      refine zs_istore (i := 4) rfl (by decide) (by intro r x hr; have hr2 : r = 3 := (by omega); subst hr2; intro z; cases z) ?_
      show ZVV _ _ _ _ [ZR 7 0, ZI u, ZI i, ZR 4 u.toNat, ZI 0] _ _
      exact l_X7_judge hp hlen (by omega) hw (g 2 0 3).toNat 0 _ (by have := hp.1.1.2.2.1; omega) hLS hTT (fun M z => ⟨by unfold cJudge; rw [if_neg (by omega), if_neg (by omega)], z⟩)
    · refine zs_aload_n (j := 3) (i := 3) rfl rfl rfl ?_
      refine zs_getfield (f := 4) (k := 0) rfl rfl (trivial) ?_
      show ZVV _ _ _ _ _ (ZI (g 4 u.toNat 0) :: _) _
      refine zs_iconst (n := 4) rfl ⟨by omega, by omega⟩ ?_
      refine zs_icmp_eq 34 rfl (by omega) (fun hc_28 => ?_) (fun hc_28 => ?_)
      · refine zs_aload_n (j := 0) (i := 0) rfl rfl rfl ?_
        refine zs_getfield (f := 7) (k := 7) rfl rfl (trivial) ?_
        show ZVV _ _ _ _ _ (ZR 1 0 :: _) _
        refine zs_aload_n (j := 0) (i := 0) rfl rfl rfl ?_
        refine zs_getfield (f := 7) (k := 5) rfl rfl (trivial) ?_
        show ZVV _ _ _ _ _ (ZR 2 0 :: _) _
        refine zs_callV (host := "") rfl kX7_98 vX1_startFrom (c_X1_startFrom 0) [ZR 2 0] [] rfl (zroom_of (by omega)) rfl (Nat.le_of_ble_eq_true rfl) ⟨rfl, ⟨by decide, hp.2.1.2.1, Int.le_trans hp.2.2 (by decide)⟩, hp.1.2.1.1.1⟩ (fun r_42 g_42 hq_42 => ?_)
        obtain ⟨hr_42, hg_42⟩ := hq_42
        rw [hr_42]
        obtain ⟨hL42, hH42, hT42, hV42, hB42, hs42, eL18_42, eL3_42, eL0_42, eL8_42⟩ := start_okx hp hg_42
        have e2_42 : g_42 2 0 = g 2 0 := hV42 2 0 rfl
        have e15_42 : g_42 15 0 = g 15 0 := hV42 15 0 rfl
        have e16_42 : g_42 16 0 = g 16 0 := hV42 16 0 rfl
        have e17_42 : g_42 17 0 = g 17 0 := hV42 17 0 rfl
        have e18_42 : g_42 18 0 = g 18 0 := hV42 18 0 rfl
        have e19_42 : g_42 19 0 = g 19 0 := hV42 19 0 rfl
        obtain ⟨hLS, hTT⟩ := zLV.start hp hg_42
        show ZVV _ _ _ 45 _ [] g_42
        refine zs_iconst (n := 0) rfl ⟨by omega, by omega⟩ ?_
        refine zs_istore (i := 4) rfl (by decide) (by intro r x hr; have hr2 : r = 3 := (by omega); subst hr2; intro z; cases z) ?_
        show ZVV _ _ _ _ [ZR 7 0, ZI u, ZI i, ZR 4 u.toNat, ZI 0] _ _
        exact l_X7_judge hp hlen (by omega) hw (g 2 0 3).toNat 0 _ (by have := hp.1.1.2.2.1; omega) hLS hTT (fun M z => ⟨by unfold cJudge; rw [if_neg (by omega), if_neg (by omega)], z⟩)
      · refine zs_bipush (n := (-12)) rfl ⟨by omega, by omega⟩ ?_
        exact zs_ireturn rfl rfl (⟨by unfold cJudge; rw [if_neg (by omega), if_pos (by omega)], ⟨zVS.rf g, hp.2.1, by omega⟩⟩)
  · refine zs_iconst (n := (-1)) rfl ⟨by omega, by omega⟩ ?_
    exact zs_ireturn rfl rfl (⟨by unfold cJudge; rw [if_pos (by omega)], ⟨zVS.rf g, hp.2.1, by omega⟩⟩)

