def tNear (t : ZT) (p : Nat) (mc : Int) (n k : Nat) (best ba : Int) : Int := match n with
  | 0 => best
  | n + 1 => if ((k : Int) - tho t p).natAbs < ba ∧ (tFr t k = true ∧ tSu t p k = true) ∧ (tWt t p k).2.2 ≤ mc then tNear t p mc n (k + 1) k ((k : Int) - tho t p).natAbs else tNear t p mc n (k + 1) best ba
theorem tNear_s (t : ZT) (p : Nat) (mc : Int) (n k : Nat) (best ba : Int) : tNear t p mc (n + 1) k best ba = if ((k : Int) - tho t p).natAbs < ba ∧ (tFr t k = true ∧ tSu t p k = true) ∧ (tWt t p k).2.2 ≤ mc then tNear t p mc n (k + 1) k ((k : Int) - tho t p).natAbs else tNear t p mc n (k + 1) best ba := rfl
def tNext (t : ZT) (p : Nat) (n : Nat) (h : Int) : Int := match n with
  | 0 => -5
  | n + 1 => if tFr t (if tn t ≤ h + 1 then 0 else h + 1) = true ∧ tSu t p (if tn t ≤ h + 1 then 0 else h + 1) = true then (if tn t ≤ h + 1 then 0 else h + 1) else tNext t p n (if tn t ≤ h + 1 then 0 else h + 1)
theorem tNext_s (t : ZT) (p : Nat) (n : Nat) (h : Int) : tNext t p (n + 1) h = if tFr t (if tn t ≤ h + 1 then 0 else h + 1) = true ∧ tSu t p (if tn t ≤ h + 1 then 0 else h + 1) = true then (if tn t ≤ h + 1 then 0 else h + 1) else tNext t p n (if tn t ≤ h + 1 then 0 else h + 1) := rfl
theorem zif1 {b : Bool} (h : ¬ (if b = true then (1 : Int) else 0) = 0) : b = true := by
  cases b
  · exact absurd rfl h
  · rfl
theorem zif0 {b : Bool} (h : (if b = true then (1 : Int) else 0) = 0) : ¬ b = true := fun z => by rw [if_pos z] at h; cases h
theorem l_X1_nearest {Y : ZW} {Q : Option ZV → ZG → Prop} {g : ZG} {p mc : Int} (hg : LOK g) (hpp : 0 ≤ p ∧ p < g 2 2 3) (hhp : 0 ≤ g 18 2 p.toNat ∧ g 18 2 p.toNat < g 2 2 0) : ∀ (n k : Nat) (best ba : Int) (z6 : ZV) (G : ZG), (∀ y, z6 ≠ ZJ y) → (k : Int) + n = g 2 2 0 → (0 ≤ ba ∧ ba ≤ 8) → zSL g G → LOK G → (∀ G', zSL g G' → LOK G' → Q (some (ZI (tNear (zTL g) p.toNat mc n k best ba))) G') → ZVV Y mX1_nearest (zcx Y 4 Q) 10 [ZR 1 0, ZI p, ZI mc, ZI best, ZI ba, ZI (k : Int), z6] [] G := by
  have hn6 := hg.1.2.2.1
  have hn8 := hg.1.1
  intro n
  induction n with
  | zero =>
    intro k best ba z6 G hz6 hk hb hS hL hq
    have e2 : G 2 = g 2 := hS.1 2 (by decide) (by decide) (by decide) (by decide)
    have e15 : G 15 = g 15 := hS.1 15 (by decide) (by decide) (by decide) (by decide)
    have e16 : G 16 = g 16 := hS.1 16 (by decide) (by decide) (by decide) (by decide)
    have e17 : G 17 = g 17 := hS.1 17 (by decide) (by decide) (by decide) (by decide)
    have e18 : G 18 = g 18 := hS.1 18 (by decide) (by decide) (by decide) (by decide)
    refine zs_iload (i := 5) rfl rfl ?_
    refine zs_aload_n (j := 0) (i := 0) rfl rfl rfl ?_
    refine zs_getfield (f := 1) (k := 0) rfl rfl (trivial) ?_
    show ZVV _ _ _ _ _ (ZR 2 2 :: _) _
    refine zs_getfield (f := 2) (k := 0) rfl rfl (trivial) ?_
    show ZVV _ _ _ _ _ (ZI (G 2 2 0) :: _) _
    rw [e2]
    refine zs_icmp_ge 97 rfl (by omega) (fun hc_19 => ?_) (fun hc_19 => ?_)
    · refine zs_iload_n (j := 3) (i := 3) rfl rfl rfl ?_
      exact zs_ireturn rfl rfl (hq G hS hL)
    · exfalso; omega
  | succ n ih =>
    intro k best ba z6 G hz6 hk hb hS hL hq
    have e2 : G 2 = g 2 := hS.1 2 (by decide) (by decide) (by decide) (by decide)
    have e15 : G 15 = g 15 := hS.1 15 (by decide) (by decide) (by decide) (by decide)
    have e16 : G 16 = g 16 := hS.1 16 (by decide) (by decide) (by decide) (by decide)
    have e17 : G 17 = g 17 := hS.1 17 (by decide) (by decide) (by decide) (by decide)
    have e18 : G 18 = g 18 := hS.1 18 (by decide) (by decide) (by decide) (by decide)
    simp only [tNear_s] at hq
    refine zs_iload (i := 5) rfl rfl ?_
    refine zs_aload_n (j := 0) (i := 0) rfl rfl rfl ?_
    refine zs_getfield (f := 1) (k := 0) rfl rfl (trivial) ?_
    show ZVV _ _ _ _ _ (ZR 2 2 :: _) _
    refine zs_getfield (f := 2) (k := 0) rfl rfl (trivial) ?_
    show ZVV _ _ _ _ _ (ZI (G 2 2 0) :: _) _
    rw [e2]
    refine zs_icmp_ge 97 rfl (by omega) (fun hc_19 => ?_) (fun hc_19 => ?_)
    · exfalso; omega
    · refine zs_iload (i := 5) rfl rfl ?_
      refine zs_aload_n (j := 0) (i := 0) rfl rfl rfl ?_
      refine zs_getfield (f := 1) (k := 0) rfl rfl (trivial) ?_
      show ZVV _ _ _ _ _ (ZR 2 2 :: _) _
      refine zs_getfield (f := 2) (k := 7) rfl rfl (trivial) ?_
      show ZVV _ _ _ _ _ (ZR 18 2 :: _) _
      refine zs_iload_n (j := 1) (i := 1) rfl rfl rfl ?_
      refine zs_iald (n := 6) rfl rfl (by omega) (by omega) ?_
      show ZVV _ _ _ _ _ (ZI (G 18 2 p.toNat) :: _) _
      rw [e18]
      refine zs_isub_r rfl ⟨by omega, by omega⟩ ?_
      show ZVV _ _ _ 34 _ _ _
      refine zs_abs rfl kX1_108 (zroom_of (by omega)) (Nat.le_of_ble_eq_true rfl) (by omega) ?_
      refine zs_istore (i := 6) rfl (by decide) (by intro r x hr; have hr2 : r = 5 := (by omega); subst hr2; intro z; cases z) ?_
      show ZVV _ _ _ _ [ZR 1 0, ZI p, ZI mc, ZI best, ZI ba, ZI (k : Int), ZI (((k : Int) - (g 18 2 p.toNat)).natAbs : Int)] _ _
      refine zs_iload (i := 6) rfl rfl ?_
      refine zs_iload (i := 4) rfl rfl ?_
      refine zs_icmp_ge 91 rfl (by omega) (fun hc_43 => ?_) (fun hc_43 => ?_)
      · refine zs_iinc_r (i := 5) rfl rfl (by intro r x hr; have hr2 : r = 4 := (by omega); subst hr2; intro z; cases z) ⟨by omega, by omega⟩ ?_
        show ZVV _ _ _ _ [ZR 1 0, ZI p, ZI mc, ZI best, ZI ba, ZI ((k : Int) + 1), ZI (((k : Int) - (g 18 2 p.toNat)).natAbs : Int)] _ _
        refine zs_goto 10 rfl (by omega) ?_
        refine ih (k + 1) best ba _ G (by intro y h; cases h) (by omega) hb hS hL (fun G' a b => ?_)
        have := hq G' a b
        rw [if_neg (by
          rintro ⟨z1, ⟨z2, z3⟩, z4⟩
          have z5 : ((k : Int) - g 18 2 p.toNat).natAbs < ba := z1
          first | omega | exact hc_56 (of_decide_eq_true z2))] at this
        exact this
      · refine zs_aload_n (j := 0) (i := 0) rfl rfl rfl ?_
        refine zs_getfield (f := 1) (k := 0) rfl rfl (trivial) ?_
        show ZVV _ _ _ _ _ (ZR 2 2 :: _) _
        refine zs_iload (i := 5) rfl rfl ?_
        refine zs_callV (host := "") rfl kX1_99 vX2_whoIn (c_X2_whoIn 2 (k : Int)) [ZI (k : Int)] [] rfl (zroom_of (by omega)) rfl (Nat.le_of_ble_eq_true rfl) ⟨rfl, (by rw [e2]; exact hn6 : 0 ≤ G 2 2 3 ∧ G 2 2 3 ≤ 6)⟩ (fun r_52 g_52 hq_52 => ?_)
        obtain ⟨hr_52, hg_52⟩ := hq_52
        rw [hr_52, hg_52, e2, e18]
        show ZVV _ _ _ 55 _ [ZI (zwho (g 2 2 3) (g 18 2) (k : Int))] _
        refine zs_iconst (n := (-1)) rfl ⟨by omega, by omega⟩ ?_
        refine zs_icmp_ne 91 rfl (by omega) (fun hc_56 => ?_) (fun hc_56 => ?_)
        · refine zs_iinc_r (i := 5) rfl rfl (by intro r x hr; have hr2 : r = 4 := (by omega); subst hr2; intro z; cases z) ⟨by omega, by omega⟩ ?_
          show ZVV _ _ _ _ [ZR 1 0, ZI p, ZI mc, ZI best, ZI ba, ZI ((k : Int) + 1), ZI (((k : Int) - (g 18 2 p.toNat)).natAbs : Int)] _ _
          refine zs_goto 10 rfl (by omega) ?_
          refine ih (k + 1) best ba _ G (by intro y h; cases h) (by omega) hb hS hL (fun G' a b => ?_)
          have := hq G' a b
          rw [if_neg (by
            rintro ⟨z1, ⟨z2, z3⟩, z4⟩
            have z5 : ((k : Int) - g 18 2 p.toNat).natAbs < ba := z1
            first | omega | exact hc_56 (of_decide_eq_true z2))] at this
          exact this
        · refine zs_aload_n (j := 0) (i := 0) rfl rfl rfl ?_
          refine zs_iload_n (j := 1) (i := 1) rfl rfl rfl ?_
          refine zs_iload (i := 5) rfl rfl ?_
          refine zs_callV (host := "") rfl kX1_82 vX1_suits (c_X1_suits p (k : Int)) [ZI p, ZI (k : Int)] [] rfl (zroom_of (by omega)) rfl (Nat.le_of_ble_eq_true rfl) ⟨rfl, hL, (by rw [e2]; exact hpp : 0 ≤ p ∧ p < G 2 2 3), (by rw [e2]; exact ⟨by omega, by omega⟩ : 0 ≤ (k : Int) ∧ (k : Int) < G 2 2 0)⟩ (fun r_63 g_63 hq_63 => ?_)
          obtain ⟨hr_63, hS1_63, hL_63, hw_63, hk_63⟩ := hq_63
          rw [hr_63, hS.townL]
          have hS_63 := hS.tr hS1_63
          have e2_63 : g_63 2 = g 2 := hS_63.1 2 (by decide) (by decide) (by decide) (by decide)
          have e15_63 : g_63 15 = g 15 := hS_63.1 15 (by decide) (by decide) (by decide) (by decide)
          have e16_63 : g_63 16 = g 16 := hS_63.1 16 (by decide) (by decide) (by decide) (by decide)
          have e17_63 : g_63 17 = g 17 := hS_63.1 17 (by decide) (by decide) (by decide) (by decide)
          have e18_63 : g_63 18 = g 18 := hS_63.1 18 (by decide) (by decide) (by decide) (by decide)
          show ZVV _ _ _ 66 _ [ZI (if tSu (zTL g) p.toNat (k : Int) = true then 1 else 0)] g_63
          refine zs_if_eq 91 rfl (by omega) (fun hc_66 => ?_) (fun hc_66 => ?_)
          · refine zs_iinc_r (i := 5) rfl rfl (by intro r x hr; have hr2 : r = 4 := (by omega); subst hr2; intro z; cases z) ⟨by omega, by omega⟩ ?_
            show ZVV _ _ _ _ [ZR 1 0, ZI p, ZI mc, ZI best, ZI ba, ZI ((k : Int) + 1), ZI (((k : Int) - (g 18 2 p.toNat)).natAbs : Int)] _ _
            refine zs_goto 10 rfl (by omega) ?_
            refine ih (k + 1) best ba _ g_63 (by intro y h; cases h) (by omega) hb hS_63 hL_63 (fun G' a b => ?_)
            have := hq G' a b
            rw [if_neg (by
              rintro ⟨z1, ⟨z2, z3⟩, z4⟩
              first | exact zif0 hc_66 z3 | (rw [← hcost] at z4; omega))] at this
            exact this
          · refine zs_aload_n (j := 0) (i := 0) rfl rfl rfl ?_
            refine zs_getfield (f := 1) (k := 6) rfl rfl (trivial) ?_
            show ZVV _ _ _ _ _ (ZR 12 0 :: _) _
            refine zs_aload_n (j := 0) (i := 0) rfl rfl rfl ?_
            refine zs_getfield (f := 1) (k := 5) rfl rfl (trivial) ?_
            show ZVV _ _ _ _ _ (ZI (g_63 1 0 5) :: _) _
            refine zs_iconst (n := 2) rfl ⟨by omega, by omega⟩ ?_
            refine zs_iadd_r rfl ⟨by omega, by omega⟩ ?_
            refine zs_iald (n := 864) rfl rfl (by omega) (by omega) ?_
            have hcost : g_63 12 0 (g_63 1 0 5 + 2).toNat = (tWt (zTL g) p.toNat k).2.2 := by
              have := congrArg (fun z => z.2.2) hk_63
              rw [hS.townL] at this
              exact this
            show ZVV _ _ _ 80 _ _ _
            refine zs_iload_n (j := 2) (i := 2) rfl rfl rfl ?_
            refine zs_icmp_gt 91 rfl (by omega) (fun hc_81 => ?_) (fun hc_81 => ?_)
            · refine zs_iinc_r (i := 5) rfl rfl (by intro r x hr; have hr2 : r = 4 := (by omega); subst hr2; intro z; cases z) ⟨by omega, by omega⟩ ?_
              show ZVV _ _ _ _ [ZR 1 0, ZI p, ZI mc, ZI best, ZI ba, ZI ((k : Int) + 1), ZI (((k : Int) - (g 18 2 p.toNat)).natAbs : Int)] _ _
              refine zs_goto 10 rfl (by omega) ?_
              refine ih (k + 1) best ba _ g_63 (by intro y h; cases h) (by omega) hb hS_63 hL_63 (fun G' a b => ?_)
              have := hq G' a b
              rw [if_neg (by
                rintro ⟨z1, ⟨z2, z3⟩, z4⟩
                first | exact zif0 hc_66 z3 | (rw [← hcost] at z4; omega))] at this
              exact this
            · refine zs_iload (i := 5) rfl rfl ?_
              refine zs_istore_n (j := 3) (i := 3) rfl rfl (by decide) (by intro r x hr; have hr2 : r = 2 := (by omega); subst hr2; intro z; cases z) ?_
              show ZVV _ _ _ _ [ZR 1 0, ZI p, ZI mc, ZI (k : Int), ZI ba, ZI (k : Int), ZI (((k : Int) - (g 18 2 p.toNat)).natAbs : Int)] _ _
              refine zs_iload (i := 6) rfl rfl ?_
              refine zs_istore (i := 4) rfl (by decide) (by intro r x hr; have hr2 : r = 3 := (by omega); subst hr2; intro z; cases z) ?_
              show ZVV _ _ _ _ [ZR 1 0, ZI p, ZI mc, ZI (k : Int), ZI (((k : Int) - (g 18 2 p.toNat)).natAbs : Int), ZI (k : Int), ZI (((k : Int) - (g 18 2 p.toNat)).natAbs : Int)] _ _
              refine zs_iinc_r (i := 5) rfl rfl (by intro r x hr; have hr2 : r = 4 := (by omega); subst hr2; intro z; cases z) ⟨by omega, by omega⟩ ?_
              show ZVV _ _ _ _ [ZR 1 0, ZI p, ZI mc, ZI (k : Int), ZI (((k : Int) - (g 18 2 p.toNat)).natAbs : Int), ZI ((k : Int) + 1), ZI (((k : Int) - (g 18 2 p.toNat)).natAbs : Int)] _ _
              refine zs_goto 10 rfl (by omega) ?_
              refine ih (k + 1) k _ _ g_63 (by intro y h; cases h) (by omega) (by omega) hS_63 hL_63 (fun G' a b => ?_)
              have := hq G' a b
              rw [if_pos ⟨by show ((k : Int) - g 18 2 p.toNat).natAbs < ba; omega, ⟨decide_eq_true (Classical.not_not.mp hc_56), zif1 hc_66⟩, by rw [← hcost]; omega⟩] at this
              exact this
theorem c_X1_nearest (p mc : Int) : ZC mX1_nearest 4 (fun av g => av = [ZR 1 0, ZI p, ZI mc] ∧ LOK g ∧ (0 ≤ p ∧ p < g 2 2 3) ∧ 0 ≤ g 18 2 p.toNat) (fun _ g r g' => r = some (ZI (tNear (zTL g) p.toNat mc (g 2 2 0).toNat 0 (-5) 8)) ∧ zSL g g' ∧ LOK g') := by
  refine zc_of gX1_nearest (fun av g hp => by obtain ⟨rfl, -⟩ := hp; exact Nat.le_of_ble_eq_true rfl) (fun Y av g hwf hrg hp hok => ?_)
  obtain ⟨rfl, hp⟩ := hp
  show ZVV _ _ _ 0 [ZR 1 0, ZI p, ZI mc, ZX 99, ZX 99, ZX 99, ZX 99] [] _
  refine zs_bipush (n := (-5)) rfl ⟨by omega, by omega⟩ ?_
  refine zs_istore_n (j := 3) (i := 3) rfl rfl (by decide) (by intro r x hr; have hr2 : r = 2 := (by omega); subst hr2; intro z; cases z) ?_
  show ZVV _ _ _ _ [ZR 1 0, ZI p, ZI mc, ZI (-5), ZX 99, ZX 99, ZX 99] _ _
  refine zs_bipush (n := 8) rfl ⟨by omega, by omega⟩ ?_
  refine zs_istore (i := 4) rfl (by decide) (by intro r x hr; have hr2 : r = 3 := (by omega); subst hr2; intro z; cases z) ?_
  show ZVV _ _ _ _ [ZR 1 0, ZI p, ZI mc, ZI (-5), ZI 8, ZX 99, ZX 99] _ _
  refine zs_iconst (n := 0) rfl ⟨by omega, by omega⟩ ?_
  refine zs_istore (i := 5) rfl (by decide) (by intro r x hr; have hr2 : r = 4 := (by omega); subst hr2; intro z; cases z) ?_
  show ZVV _ _ _ _ [ZR 1 0, ZI p, ZI mc, ZI (-5), ZI 8, ZI 0, ZX 99] _ _
  exact l_X1_nearest hp.1 hp.2.1 ⟨hp.2.2, (hp.1.1.2.2.2.2.2 p.toNat (by have := hp.2.1; omega)).1.2⟩ (g 2 2 0).toNat 0 (-5) 8 _ g (by intro y h; cases h) (by have := hp.1.1.1; omega) (by omega) (zSL.rf g) hp.1 (fun G' a b => ⟨rfl, a, b⟩)

theorem l_X1_nextBehind {Y : ZW} {Q : Option ZV → ZG → Prop} {g : ZG} {p : Int} (hg : LOK g) (hpp : 0 ≤ p ∧ p < g 2 2 3) : ∀ (n k : Nat) (h : Int) (G : ZG), (k : Int) + n = g 2 2 0 → (0 ≤ h ∧ h < g 2 2 0) → zSL g G → LOK G → (∀ G', zSL g G' → LOK G' → Q (some (ZI (tNext (zTL g) p.toNat n h))) G') → ZVV Y mX1_nextBehind (zcx Y 4 Q) 12 [ZR 1 0, ZI p, ZI h, ZI (k : Int)] [] G := by
  have hn6 := hg.1.2.2.1
  have hn8 := hg.1.1
  intro n
  induction n with
  | zero =>
    intro k h G hk hb hS hL hq
    have e2 : G 2 = g 2 := hS.1 2 (by decide) (by decide) (by decide) (by decide)
    have e15 : G 15 = g 15 := hS.1 15 (by decide) (by decide) (by decide) (by decide)
    have e16 : G 16 = g 16 := hS.1 16 (by decide) (by decide) (by decide) (by decide)
    have e17 : G 17 = g 17 := hS.1 17 (by decide) (by decide) (by decide) (by decide)
    have e18 : G 18 = g 18 := hS.1 18 (by decide) (by decide) (by decide) (by decide)
    refine zs_iload_n (j := 3) (i := 3) rfl rfl rfl ?_
    refine zs_aload_n (j := 0) (i := 0) rfl rfl rfl ?_
    refine zs_getfield (f := 1) (k := 0) rfl rfl (trivial) ?_
    show ZVV _ _ _ _ _ (ZR 2 2 :: _) _
    refine zs_getfield (f := 2) (k := 0) rfl rfl (trivial) ?_
    show ZVV _ _ _ _ _ (ZI (G 2 2 0) :: _) _
    rw [e2]
    refine zs_icmp_ge 73 rfl (by omega) (fun hc_20 => ?_) (fun hc_20 => ?_)
    · refine zs_bipush (n := (-5)) rfl ⟨by omega, by omega⟩ ?_
      exact zs_ireturn rfl rfl (hq G hS hL)
    · exfalso; omega
  | succ n ih =>
    intro k h G hk hb hS hL hq
    have e2 : G 2 = g 2 := hS.1 2 (by decide) (by decide) (by decide) (by decide)
    have e15 : G 15 = g 15 := hS.1 15 (by decide) (by decide) (by decide) (by decide)
    have e16 : G 16 = g 16 := hS.1 16 (by decide) (by decide) (by decide) (by decide)
    have e17 : G 17 = g 17 := hS.1 17 (by decide) (by decide) (by decide) (by decide)
    have e18 : G 18 = g 18 := hS.1 18 (by decide) (by decide) (by decide) (by decide)
    have htn : tn (zTL g) = g 2 2 0 := rfl
    simp only [tNext_s, htn] at hq
    refine zs_iload_n (j := 3) (i := 3) rfl rfl rfl ?_
    refine zs_aload_n (j := 0) (i := 0) rfl rfl rfl ?_
    refine zs_getfield (f := 1) (k := 0) rfl rfl (trivial) ?_
    show ZVV _ _ _ _ _ (ZR 2 2 :: _) _
    refine zs_getfield (f := 2) (k := 0) rfl rfl (trivial) ?_
    show ZVV _ _ _ _ _ (ZI (G 2 2 0) :: _) _
    rw [e2]
    refine zs_icmp_ge 73 rfl (by omega) (fun hc_20 => ?_) (fun hc_20 => ?_)
    · exfalso; omega
    · refine zs_iload_n (j := 2) (i := 2) rfl rfl rfl ?_
      refine zs_iconst (n := 1) rfl ⟨by omega, by omega⟩ ?_
      refine zs_iadd_r rfl ⟨by omega, by omega⟩ ?_
      refine zs_aload_n (j := 0) (i := 0) rfl rfl rfl ?_
      refine zs_getfield (f := 1) (k := 0) rfl rfl (trivial) ?_
      show ZVV _ _ _ _ _ (ZR 2 2 :: _) _
      refine zs_getfield (f := 2) (k := 0) rfl rfl (trivial) ?_
      show ZVV _ _ _ _ _ (ZI (G 2 2 0) :: _) _
      rw [e2]
      refine zs_icmp_lt 40 rfl (by omega) (fun hc_33 => ?_) (fun hc_33 => ?_)
      · refine zs_iload_n (j := 2) (i := 2) rfl rfl rfl ?_
        refine zs_iconst (n := 1) rfl ⟨by omega, by omega⟩ ?_
        refine zs_iadd_r rfl ⟨by omega, by omega⟩ ?_
        have hv : (if g 2 2 0 ≤ h + 1 then 0 else h + 1) = h + 1 := if_neg (by omega)
        have hv0 : (0 : Int) ≤ h + 1 ∧ (h + 1 : Int) < g 2 2 0 := ⟨by omega, by omega⟩
        rw [hv] at hq
        refine zs_istore_n (j := 2) (i := 2) rfl rfl (by decide) (by intro r x hr; have hr2 : r = 1 := (by omega); subst hr2; intro z; cases z) ?_
        show ZVV _ _ _ _ [ZR 1 0, ZI p, ZI (h + 1), ZI (k : Int)] _ _
        refine zs_aload_n (j := 0) (i := 0) rfl rfl rfl ?_
        refine zs_getfield (f := 1) (k := 0) rfl rfl (trivial) ?_
        show ZVV _ _ _ _ _ (ZR 2 2 :: _) _
        refine zs_iload_n (j := 2) (i := 2) rfl rfl rfl ?_
        show ZVV _ _ _ 49 _ _ _
        refine zs_callV (host := "") rfl kX1_99 vX2_whoIn (c_X2_whoIn 2 (h + 1)) [ZI (h + 1)] [] rfl (zroom_of (by omega)) rfl (Nat.le_of_ble_eq_true rfl) ⟨rfl, (by rw [e2]; exact hn6 : 0 ≤ G 2 2 3 ∧ G 2 2 3 ≤ 6)⟩ (fun r_49 g_49 hq_49 => ?_)
        obtain ⟨hr_49, hg_49⟩ := hq_49
        rw [hr_49, hg_49, e2, e18]
        show ZVV _ _ _ 52 _ [ZI (zwho (g 2 2 3) (g 18 2) (h + 1))] _
        refine zs_iconst (n := (-1)) rfl ⟨by omega, by omega⟩ ?_
        refine zs_icmp_ne 67 rfl (by omega) (fun hc_53 => ?_) (fun hc_53 => ?_)
        · refine zs_iinc_r (i := 3) rfl rfl (by intro r x hr; have hr2 : r = 2 := (by omega); subst hr2; intro z; cases z) ⟨by omega, by omega⟩ ?_
          show ZVV _ _ _ _ [ZR 1 0, ZI p, ZI (h + 1), ZI ((k : Int) + 1)] _ _
          refine zs_goto 12 rfl (by omega) ?_
          refine ih (k + 1) _ G (by omega) hv0 hS hL (fun G' a b => ?_)
          have := hq G' a b
          rw [if_neg (fun z => hc_53 (of_decide_eq_true z.1))] at this
          exact this
        · refine zs_aload_n (j := 0) (i := 0) rfl rfl rfl ?_
          refine zs_iload_n (j := 1) (i := 1) rfl rfl rfl ?_
          refine zs_iload_n (j := 2) (i := 2) rfl rfl rfl ?_
          refine zs_callV (host := "") rfl kX1_82 vX1_suits (c_X1_suits p (h + 1)) [ZI p, ZI (h + 1)] [] rfl (zroom_of (by omega)) rfl (Nat.le_of_ble_eq_true rfl) ⟨rfl, hL, (by rw [e2]; exact hpp : 0 ≤ p ∧ p < G 2 2 3), (by rw [e2]; exact hv0)⟩ (fun r_59 g_59 hq_59 => ?_)
          obtain ⟨hr_59, hS1_59, hL_59, hw_59, hk_59⟩ := hq_59
          rw [hr_59, hS.townL]
          have hS_59 := hS.tr hS1_59
          have e2_59 : g_59 2 = g 2 := hS_59.1 2 (by decide) (by decide) (by decide) (by decide)
          have e15_59 : g_59 15 = g 15 := hS_59.1 15 (by decide) (by decide) (by decide) (by decide)
          have e16_59 : g_59 16 = g 16 := hS_59.1 16 (by decide) (by decide) (by decide) (by decide)
          have e17_59 : g_59 17 = g 17 := hS_59.1 17 (by decide) (by decide) (by decide) (by decide)
          have e18_59 : g_59 18 = g 18 := hS_59.1 18 (by decide) (by decide) (by decide) (by decide)
          show ZVV _ _ _ 62 _ [ZI (if tSu (zTL g) p.toNat (h + 1) = true then 1 else 0)] g_59
          refine zs_if_eq 67 rfl (by omega) (fun hc_62 => ?_) (fun hc_62 => ?_)
          · refine zs_iinc_r (i := 3) rfl rfl (by intro r x hr; have hr2 : r = 2 := (by omega); subst hr2; intro z; cases z) ⟨by omega, by omega⟩ ?_
            show ZVV _ _ _ _ [ZR 1 0, ZI p, ZI (h + 1), ZI ((k : Int) + 1)] _ _
            refine zs_goto 12 rfl (by omega) ?_
            refine ih (k + 1) _ g_59 (by omega) hv0 hS_59 hL_59 (fun G' a b => ?_)
            have := hq G' a b
            rw [if_neg (fun z => zif0 hc_62 z.2)] at this
            exact this
          · refine zs_iload_n (j := 2) (i := 2) rfl rfl rfl ?_
            exact zs_ireturn rfl rfl (by
        have := hq g_59 hS_59 hL_59
        rw [if_pos ⟨decide_eq_true (Classical.not_not.mp hc_53), zif1 hc_62⟩] at this
        exact this)
      · refine zs_iconst (n := 0) rfl ⟨by omega, by omega⟩ ?_
        refine zs_goto 43 rfl (by omega) ?_
        have hv : (if g 2 2 0 ≤ h + 1 then 0 else h + 1) = 0 := if_pos (by omega)
        have hv0 : (0 : Int) ≤ 0 ∧ (0 : Int) < g 2 2 0 := ⟨by omega, by omega⟩
        rw [hv] at hq
        refine zs_istore_n (j := 2) (i := 2) rfl rfl (by decide) (by intro r x hr; have hr2 : r = 1 := (by omega); subst hr2; intro z; cases z) ?_
        show ZVV _ _ _ _ [ZR 1 0, ZI p, ZI 0, ZI (k : Int)] _ _
        refine zs_aload_n (j := 0) (i := 0) rfl rfl rfl ?_
        refine zs_getfield (f := 1) (k := 0) rfl rfl (trivial) ?_
        show ZVV _ _ _ _ _ (ZR 2 2 :: _) _
        refine zs_iload_n (j := 2) (i := 2) rfl rfl rfl ?_
        refine zs_callV (host := "") rfl kX1_99 vX2_whoIn (c_X2_whoIn 2 0) [ZI 0] [] rfl (zroom_of (by omega)) rfl (Nat.le_of_ble_eq_true rfl) ⟨rfl, (by rw [e2]; exact hn6 : 0 ≤ G 2 2 3 ∧ G 2 2 3 ≤ 6)⟩ (fun r_49 g_49 hq_49 => ?_)
        obtain ⟨hr_49, hg_49⟩ := hq_49
        rw [hr_49, hg_49, e2, e18]
        show ZVV _ _ _ 52 _ [ZI (zwho (g 2 2 3) (g 18 2) 0)] _
        show ZVV _ _ _ 52 _ _ _
        refine zs_iconst (n := (-1)) rfl ⟨by omega, by omega⟩ ?_
        refine zs_icmp_ne 67 rfl (by omega) (fun hc_53 => ?_) (fun hc_53 => ?_)
        · refine zs_iinc_r (i := 3) rfl rfl (by intro r x hr; have hr2 : r = 2 := (by omega); subst hr2; intro z; cases z) ⟨by omega, by omega⟩ ?_
          show ZVV _ _ _ _ [ZR 1 0, ZI p, ZI 0, ZI ((k : Int) + 1)] _ _
          refine zs_goto 12 rfl (by omega) ?_
          refine ih (k + 1) _ G (by omega) hv0 hS hL (fun G' a b => ?_)
          have := hq G' a b
          rw [if_neg (fun z => hc_53 (of_decide_eq_true z.1))] at this
          exact this
        · refine zs_aload_n (j := 0) (i := 0) rfl rfl rfl ?_
          refine zs_iload_n (j := 1) (i := 1) rfl rfl rfl ?_
          refine zs_iload_n (j := 2) (i := 2) rfl rfl rfl ?_
          refine zs_callV (host := "") rfl kX1_82 vX1_suits (c_X1_suits p 0) [ZI p, ZI 0] [] rfl (zroom_of (by omega)) rfl (Nat.le_of_ble_eq_true rfl) ⟨rfl, hL, (by rw [e2]; exact hpp : 0 ≤ p ∧ p < G 2 2 3), (by rw [e2]; exact hv0)⟩ (fun r_59 g_59 hq_59 => ?_)
          obtain ⟨hr_59, hS1_59, hL_59, hw_59, hk_59⟩ := hq_59
          rw [hr_59, hS.townL]
          have hS_59 := hS.tr hS1_59
          have e2_59 : g_59 2 = g 2 := hS_59.1 2 (by decide) (by decide) (by decide) (by decide)
          have e15_59 : g_59 15 = g 15 := hS_59.1 15 (by decide) (by decide) (by decide) (by decide)
          have e16_59 : g_59 16 = g 16 := hS_59.1 16 (by decide) (by decide) (by decide) (by decide)
          have e17_59 : g_59 17 = g 17 := hS_59.1 17 (by decide) (by decide) (by decide) (by decide)
          have e18_59 : g_59 18 = g 18 := hS_59.1 18 (by decide) (by decide) (by decide) (by decide)
          show ZVV _ _ _ 62 _ [ZI (if tSu (zTL g) p.toNat 0 = true then 1 else 0)] g_59
          refine zs_if_eq 67 rfl (by omega) (fun hc_62 => ?_) (fun hc_62 => ?_)
          · refine zs_iinc_r (i := 3) rfl rfl (by intro r x hr; have hr2 : r = 2 := (by omega); subst hr2; intro z; cases z) ⟨by omega, by omega⟩ ?_
            show ZVV _ _ _ _ [ZR 1 0, ZI p, ZI 0, ZI ((k : Int) + 1)] _ _
            refine zs_goto 12 rfl (by omega) ?_
            refine ih (k + 1) _ g_59 (by omega) hv0 hS_59 hL_59 (fun G' a b => ?_)
            have := hq G' a b
            rw [if_neg (fun z => zif0 hc_62 z.2)] at this
            exact this
          · refine zs_iload_n (j := 2) (i := 2) rfl rfl rfl ?_
            exact zs_ireturn rfl rfl (by
        have := hq g_59 hS_59 hL_59
        rw [if_pos ⟨decide_eq_true (Classical.not_not.mp hc_53), zif1 hc_62⟩] at this
        exact this)
theorem c_X1_nextBehind (p : Int) : ZC mX1_nextBehind 4 (fun av g => av = [ZR 1 0, ZI p] ∧ LOK g ∧ (0 ≤ p ∧ p < g 2 2 3) ∧ 0 ≤ g 18 2 p.toNat) (fun _ g r g' => r = some (ZI (tNext (zTL g) p.toNat ((g 2 2 0).toNat - 1) (g 18 2 p.toNat))) ∧ zSL g g' ∧ LOK g') := by
  refine zc_of gX1_nextBehind (fun av g hp => by obtain ⟨rfl, -⟩ := hp; exact Nat.le_of_ble_eq_true rfl) (fun Y av g hwf hrg hp hok => ?_)
  obtain ⟨rfl, hp⟩ := hp
  show ZVV _ _ _ 0 [ZR 1 0, ZI p, ZX 99, ZX 99] [] _
  refine zs_aload_n (j := 0) (i := 0) rfl rfl rfl ?_
  refine zs_getfield (f := 1) (k := 0) rfl rfl (trivial) ?_
  show ZVV _ _ _ _ _ (ZR 2 2 :: _) _
  refine zs_getfield (f := 2) (k := 7) rfl rfl (trivial) ?_
  show ZVV _ _ _ _ _ (ZR 18 2 :: _) _
  have hpp := hp.2.1
  have hn6 := hp.1.1.2.2.1
  refine zs_iload_n (j := 1) (i := 1) rfl rfl rfl ?_
  have hpp := hp.2.1
  have hn6 := hp.1.1.2.2.1
  refine zs_iald (n := 6) rfl rfl (by omega) (by omega) ?_
  refine zs_istore_n (j := 2) (i := 2) rfl rfl (by decide) (by intro r x hr; have hr2 : r = 1 := (by omega); subst hr2; intro z; cases z) ?_
  show ZVV _ _ _ _ [ZR 1 0, ZI p, ZI (g 18 2 p.toNat), ZX 99] _ _
  refine zs_iconst (n := 1) rfl ⟨by omega, by omega⟩ ?_
  show ZVV _ _ _ 11 _ _ _
  refine zs_istore_n (j := 3) (i := 3) rfl rfl (by decide) (by intro r x hr; have hr2 : r = 2 := (by omega); subst hr2; intro z; cases z) ?_
  show ZVV _ _ _ _ [ZR 1 0, ZI p, ZI (g 18 2 p.toNat), ZI 1] _ _
  exact l_X1_nextBehind hp.1 hp.2.1 ((g 2 2 0).toNat - 1) 1 _ g (by have := hp.1.1.1; omega) ⟨hp.2.2, (hp.1.1.2.2.2.2.2 p.toNat (by have := hp.2.1; omega)).1.2⟩ (zSL.rf g) hp.1 (fun G' a b => ⟨rfl, a, b⟩)

theorem c_X1_changeHouses (p u : Int) : ZC mX1_changeHouses 1 (fun av g => av = [ZR 1 0, ZI p, ZI u] ∧ (0 ≤ p ∧ p < 6) ∧ (0 ≤ u ∧ u < 6)) (fun _ g r g' => r = none ∧ g' = zup (zup g 18 2 p.toNat (g 18 2 u.toNat)) 18 2 u.toNat (g 18 2 p.toNat)) := by
  refine zc_of gX1_changeHouses (fun av g hp => by obtain ⟨rfl, -⟩ := hp; exact Nat.le_of_ble_eq_true rfl) (fun Y av g hwf hrg hp hok => ?_)
  obtain ⟨rfl, hp⟩ := hp
  show ZVV _ _ _ 0 [ZR 1 0, ZI p, ZI u, ZX 99] [] _
  refine zs_aload_n (j := 0) (i := 0) rfl rfl rfl ?_
  refine zs_getfield (f := 1) (k := 0) rfl rfl (trivial) ?_
  show ZVV _ _ _ _ _ (ZR 2 2 :: _) _
  refine zs_getfield (f := 2) (k := 7) rfl rfl (trivial) ?_
  show ZVV _ _ _ _ _ (ZR 18 2 :: _) _
  refine zs_iload_n (j := 1) (i := 1) rfl rfl rfl ?_
  refine zs_iald (n := 6) rfl rfl (by omega) (by omega) ?_
  refine zs_istore_n (j := 3) (i := 3) rfl rfl (by decide) (by intro r x hr; have hr2 : r = 2 := (by omega); subst hr2; intro z; cases z) ?_
  show ZVV _ _ _ _ [ZR 1 0, ZI p, ZI u, ZI (g 18 2 p.toNat)] _ _
  refine zs_aload_n (j := 0) (i := 0) rfl rfl rfl ?_
  show ZVV _ _ _ 11 _ _ _
  refine zs_getfield (f := 1) (k := 0) rfl rfl (trivial) ?_
  show ZVV _ _ _ _ _ (ZR 2 2 :: _) _
  refine zs_getfield (f := 2) (k := 7) rfl rfl (trivial) ?_
  show ZVV _ _ _ _ _ (ZR 18 2 :: _) _
  refine zs_iload_n (j := 1) (i := 1) rfl rfl rfl ?_
  refine zs_aload_n (j := 0) (i := 0) rfl rfl rfl ?_
  refine zs_getfield (f := 1) (k := 0) rfl rfl (trivial) ?_
  show ZVV _ _ _ _ _ (ZR 2 2 :: _) _
  refine zs_getfield (f := 2) (k := 7) rfl rfl (trivial) ?_
  show ZVV _ _ _ _ _ (ZR 18 2 :: _) _
  refine zs_iload_n (j := 2) (i := 2) rfl rfl rfl ?_
  refine zs_iald (n := 6) rfl rfl (by omega) (by omega) ?_
  show ZVV _ _ _ 27 _ _ _
  refine zs_iast (n := 6) rfl rfl (by omega) (by omega) ?_
  refine zs_aload_n (j := 0) (i := 0) rfl rfl rfl ?_
  refine zs_getfield (f := 1) (k := 0) rfl rfl (trivial) ?_
  show ZVV _ _ _ _ _ (ZR 2 2 :: _) _
  refine zs_getfield (f := 2) (k := 7) rfl rfl (trivial) ?_
  show ZVV _ _ _ _ _ (ZR 18 2 :: _) _
  refine zs_iload_n (j := 2) (i := 2) rfl rfl rfl ?_
  refine zs_iload_n (j := 3) (i := 3) rfl rfl rfl ?_
  refine zs_iast (n := 6) rfl rfl (by omega) (by omega) ?_
  exact zs_return rfl rfl (⟨rfl, rfl⟩)

