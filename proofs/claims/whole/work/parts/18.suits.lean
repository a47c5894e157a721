theorem zev_rng {fa st : Nat → Int} : ∀ (n k h : Nat) (x : ZE), zwfs st n k h → (0 ≤ x.2.1 ∧ (0 ≤ x.2.2.1 ∧ x.2.2.1 ≤ 100) ∧ 0 ≤ x.2.2.2) → 0 ≤ (zev fa st n k x).2.1 ∧ (0 ≤ (zev fa st n k x).2.2.1 ∧ (zev fa st n k x).2.2.1 ≤ 100) ∧ (0 ≤ (zev fa st n k x).2.2.2 ∧ (zev fa st n k x).2.2.2 ≤ x.2.2.2 + 100 * n) := by
  intro n
  induction n with
  | zero => intro k h x hw hx; show 0 ≤ x.2.1 ∧ _; exact ⟨hx.1, hx.2.1, hx.2.2, by show x.2.2.2 ≤ _; omega⟩
  | succ n ih =>
    intro k h x hw hx
    rw [zwfs_s] at hw
    rw [zev_s]
    have hm : 0 ≤ (if x.1.headD false = true then 1 else 0) * (st k % 100) ∧ (if x.1.headD false = true then 1 else 0) * (st k % 100) ≤ 99 := by split <;> omega
    have hmost : 0 ≤ (if x.1.headD false = true ∧ st k % 100 < x.2.2.1 then st k % 100 else x.2.2.1) ∧ (if x.1.headD false = true ∧ st k % 100 < x.2.2.1 then st k % 100 else x.2.2.1) ≤ 100 := by split <;> omega
    have h1 : 0 ≤ (zev1 fa (st k / 100) (st k % 100) x).2.1 ∧ (0 ≤ (zev1 fa (st k / 100) (st k % 100) x).2.2.1 ∧ (zev1 fa (st k / 100) (st k % 100) x).2.2.1 ≤ 100) ∧ (0 ≤ (zev1 fa (st k / 100) (st k % 100) x).2.2.2 ∧ (zev1 fa (st k / 100) (st k % 100) x).2.2.2 ≤ x.2.2.2 + 99) := by
      unfold zev1
      split
      · exact ⟨hx.1, hx.2.1, hx.2.2, by show x.2.2.2 ≤ _; omega⟩
      split
      · exact ⟨hx.1, hx.2.1, hx.2.2, by show x.2.2.2 ≤ _; omega⟩
      split
      · exact ⟨hx.1, hx.2.1, hx.2.2, by show x.2.2.2 ≤ _; omega⟩
      split
      · exact ⟨by show 0 ≤ x.2.1 + _; omega, hx.2.1, hx.2.2, by show x.2.2.2 ≤ _; omega⟩
      split
      · exact ⟨hx.1, hmost, hx.2.2, by show x.2.2.2 ≤ _; omega⟩
      split
      · exact ⟨hx.1, hx.2.1, by show 0 ≤ x.2.2.2 + _; omega, by show x.2.2.2 + _ ≤ _; omega⟩
      · exact ⟨hx.1, hx.2.1, hx.2.2, by show x.2.2.2 ≤ _; omega⟩
    have h2 := ih (k + 1) _ (zev1 fa (st k / 100) (st k % 100) x) hw.2.2 ⟨h1.1, h1.2.1, h1.2.2.1⟩
    refine ⟨h2.1, h2.2.1, h2.2.2.1, ?_⟩
    omega
theorem zwC_rng {g : ZG} {i : Nat} (h : HOLD g i) (p s k hh f m : Int) : (0 ≤ (zwC g (g 2 i 11).toNat p s k hh f m).1 ∧ (zwC g (g 2 i 11).toNat p s k hh f m).1 ≤ 100) ∧ (0 ≤ (zwC g (g 2 i 11).toNat p s k hh f m).2.1 ∧ (zwC g (g 2 i 11).toNat p s k hh f m).2.1 ≤ 100) ∧ (0 ≤ (zwC g (g 2 i 11).toNat p s k hh f m).2.2 ∧ (zwC g (g 2 i 11).toNat p s k hh f m).2.2 ≤ 10000) := by
  have h1 := zev_rng (fa := zfa p s k hh f m) (g 3 (g 2 i 11).toNat 1).toNat 0 0 ([], 0, 100, 0) h.2.2 ⟨by decide, ⟨by decide, by decide⟩, by decide⟩
  unfold zwC zwres
  refine ⟨?_, h1.2.1, h1.2.2.1, ?_⟩
  · dsimp only
    split
    · omega
    · split <;> omega
  · have := h.2.1
    have := h1.2.2.2
    dsimp only at this ⊢
    omega
theorem tWt_rng {g : ZG} (h : LOK g) (p : Nat) (hh : Int) : (0 ≤ (tWt (zTL g) p hh).1 ∧ (tWt (zTL g) p hh).1 ≤ 100) ∧ (0 ≤ (tWt (zTL g) p hh).2.1 ∧ (tWt (zTL g) p hh).2.1 ≤ 100) ∧ (0 ≤ (tWt (zTL g) p hh).2.2 ∧ (tWt (zTL g) p hh).2.2 ≤ 10000) := zwC_rng h.2.1 _ _ _ _ _ _
theorem zmul_rng {a b : Int} (ha : 0 ≤ a ∧ a ≤ 100) (hb : 0 ≤ b ∧ b ≤ 6) : -2147483648 ≤ a * b ∧ a * b < 2147483648 := by
  have h1 := Int.mul_nonneg ha.1 hb.1
  have h2 := Int.mul_le_mul_of_nonneg_right ha.2 hb.1
  omega
theorem zmul_rng' {a b : Int} (ha : -1 ≤ a ∧ a ≤ 100) (hb : 0 ≤ b ∧ b ≤ 6) : -2147483648 ≤ a * b ∧ a * b < 2147483648 := by
  by_cases h : a = -1
  · subst h; omega
  · exact zmul_rng ⟨by omega, ha.2⟩ hb
def SPOST (g : ZG) (p h : Int) (r : Option ZV) (g' : ZG) : Prop := r = some (ZI (if tSu (zTL g) p.toNat h = true then 1 else 0)) ∧ zSL g g' ∧ LOK g' ∧ (0 ≤ g' 1 0 5 ∧ g' 1 0 5 + 2 < 864) ∧ (g' 12 0 (g' 1 0 5).toNat, g' 12 0 (g' 1 0 5 + 1).toNat, g' 12 0 (g' 1 0 5 + 2).toNat) = tWt (zTL g) p.toNat h
theorem c_X1_weightOf (p w : Int) : ZC mX1_weightOf 3 (fun av g => av = [ZR 1 0, ZI p, ZI w] ∧ LOK g ∧ (0 ≤ p ∧ p < g 2 2 3) ∧ 0 ≤ g 18 2 p.toNat ∧ (0 ≤ w ∧ w ≤ 2)) (fun _ g r g' => r = some (ZI (if w = 0 then (tWt (zTL g) p.toNat (g 18 2 p.toNat)).1 else if w = 1 then (tWt (zTL g) p.toNat (g 18 2 p.toNat)).2.1 else (tWt (zTL g) p.toNat (g 18 2 p.toNat)).2.2)) ∧ zSL g g' ∧ LOK g') := by
  refine zc_of gX1_weightOf (fun av g hp => by obtain ⟨rfl, -⟩ := hp; exact Nat.le_of_ble_eq_true rfl) (fun Y av g hwf hrg hp hok => ?_)
  obtain ⟨rfl, hp⟩ := hp
  show ZVV _ _ _ 0 [ZR 1 0, ZI p, ZI w] [] _
  have hpp := hp.2.1
  have hn6 := hp.1.1.2.2.1
  have hw2 := hp.2.2.2
  refine zs_aload_n (j := 0) (i := 0) rfl rfl rfl ?_
  refine zs_iload_n (j := 1) (i := 1) rfl rfl rfl ?_
  refine zs_aload_n (j := 0) (i := 0) rfl rfl rfl ?_
  refine zs_getfield (f := 1) (k := 0) rfl rfl (trivial) ?_
  show ZVV _ _ _ _ _ (ZR 2 2 :: _) _
  refine zs_getfield (f := 2) (k := 7) rfl rfl (trivial) ?_
  show ZVV _ _ _ _ _ (ZR 18 2 :: _) _
  refine zs_iload_n (j := 1) (i := 1) rfl rfl rfl ?_
  refine zs_iald (n := 6) rfl rfl (by omega) (by omega) ?_
  show ZVV _ _ _ 11 _ _ _
  refine zs_callV (host := "") rfl kX1_79 vX1_weigh (c_X1_weigh p (g 18 2 p.toNat)) [ZI p, ZI (g 18 2 p.toNat)] [] rfl (zroom_of (by omega)) rfl (Nat.le_of_ble_eq_true rfl) ⟨rfl, ⟨hp.1, hp.2.1, hp.2.2.1, by have := (hp.1.1.2.2.2.2.2 p.toNat (by have := hp.2.1; omega)).1; omega⟩⟩ (fun r_11 g_11 hq_11 => ?_)
  obtain ⟨hr_11, hS_11, hL_11, ho_11, ha_11, hw_11, hk_11⟩ := hq_11
  rw [hr_11]
  show ZVV _ _ _ 14 _ [] g_11
  refine zs_aload_n (j := 0) (i := 0) rfl rfl rfl ?_
  refine zs_getfield (f := 1) (k := 6) rfl rfl (trivial) ?_
  show ZVV _ _ _ _ _ (ZR 12 0 :: _) _
  refine zs_aload_n (j := 0) (i := 0) rfl rfl rfl ?_
  refine zs_getfield (f := 1) (k := 5) rfl rfl (trivial) ?_
  show ZVV _ _ _ _ _ (ZI (g_11 1 0 5) :: _) _
  refine zs_iload_n (j := 2) (i := 2) rfl rfl rfl ?_
  refine zs_iadd_r rfl ⟨by omega, by omega⟩ ?_
  refine zs_iald (n := 864) rfl rfl (by omega) (by omega) ?_
  show ZVV _ _ _ 25 _ _ _
  exact zs_ireturn rfl rfl (⟨by
    rw [← hk_11]
    rcases (by omega : w = 0 ∨ w = 1 ∨ w = 2) with e | e | e <;> subst e
    · rw [if_pos rfl, Int.add_zero]
    · rfl
    · rfl, hS_11, hL_11⟩)

theorem c_X1_suits (p h : Int) : ZC mX1_suits 3 (fun av g => av = [ZR 1 0, ZI p, ZI h] ∧ LOK g ∧ (0 ≤ p ∧ p < g 2 2 3) ∧ (0 ≤ h ∧ h < g 2 2 0)) (fun _ g r g' => SPOST g p h r g') := by
  refine zc_of gX1_suits (fun av g hp => by obtain ⟨rfl, -⟩ := hp; exact Nat.le_of_ble_eq_true rfl) (fun Y av g hwf hrg hp hok => ?_)
  obtain ⟨rfl, hp⟩ := hp
  show ZVV _ _ _ 0 [ZR 1 0, ZI p, ZI h, ZX 99, ZX 99] [] _
  refine zs_aload_n (j := 0) (i := 0) rfl rfl rfl ?_
  refine zs_iload_n (j := 1) (i := 1) rfl rfl rfl ?_
  refine zs_iload_n (j := 2) (i := 2) rfl rfl rfl ?_
  refine zs_callV (host := "") rfl kX1_79 vX1_weigh (c_X1_weigh p h) [ZI p, ZI h] [] rfl (zroom_of (by omega)) rfl (Nat.le_of_ble_eq_true rfl) ⟨rfl, hp⟩ (fun r_3 g_3 hq_3 => ?_)
  obtain ⟨hr_3, hS_3, hL_3, ho_3, ha_3, hw_3, hk_3⟩ := hq_3
  rw [hr_3]
  show ZVV _ _ _ 6 _ [] g_3
  have hrg2 := tWt_rng hp.1 p.toNat h
  have hpp := hp.2.1
  have hn6 := hp.1.1.2.2.1
  have ho2 := tBes_rng (zTL g) (p := p.toNat) h (show p.toNat < (g 2 2 3).toNat by omega)
  have ha2 := tAl_rng (zTL g) (p := p.toNat) h (show p.toNat < (g 2 2 3).toNat by omega)
  have hnp : tnp (zTL g) = g 2 2 3 := rfl
  rw [hnp] at ho2 ha2
  have hk1 : g_3 12 0 (g_3 1 0 5 + 0).toNat = (tWt (zTL g) p.toNat h).1 := by rw [Int.add_zero]; exact congrArg (fun z => z.1) hk_3
  have hk2 : g_3 12 0 (g_3 1 0 5 + 1).toNat = (tWt (zTL g) p.toNat h).2.1 := congrArg (fun z => z.2.1) hk_3
  have hwf : g_3 1 0 1 = g 1 0 1 := hS_3.2 0 1 (by decide) (by decide) (by decide)
  have hwb := hp.1.2.2.2.1
  have hsu : tSu (zTL g) p.toNat h = decide (g_3 1 0 3 = 0 ∨ ((if g_3 1 0 1 = -1 then g_3 12 0 (g_3 1 0 5 + 0).toNat else g_3 1 0 1) * g_3 1 0 3 ≤ 100 * g_3 1 0 4 ∧ 100 * g_3 1 0 4 ≤ g_3 12 0 (g_3 1 0 5 + 1).toNat * g_3 1 0 3)) := by rw [hk1, hk2, hwf, ho_3, ha_3]; rfl
  refine zs_aload_n (j := 0) (i := 0) rfl rfl rfl ?_
  refine zs_getfield (f := 1) (k := 1) rfl rfl (trivial) ?_
  show ZVV _ _ _ _ _ (ZI (g_3 1 0 1) :: _) _
  refine zs_iconst (n := (-1)) rfl ⟨by omega, by omega⟩ ?_
  show ZVV _ _ _ 11 _ _ _
  refine zs_icmp_ne 28 rfl (by omega) (fun hc_11 => ?_) (fun hc_11 => ?_)
  · have hwq : ¬ g_3 1 0 1 = -1 := hc_11
    have hpr1 := zmul_rng' (a := g_3 1 0 1) (b := g_3 1 0 3) (by omega) (by omega)
    have hpr2 := zmul_rng (b := g_3 1 0 3) (hk2 ▸ hrg2.2.1) (by omega)
    refine zs_aload_n (j := 0) (i := 0) rfl rfl rfl ?_
    refine zs_getfield (f := 1) (k := 1) rfl rfl (trivial) ?_
    show ZVV _ _ _ _ _ (ZI (g_3 1 0 1) :: _) _
    refine zs_istore_n (j := 3) (i := 3) rfl rfl (by decide) (by intro r x hr; have hr2 : r = 2 := (by omega); subst hr2; intro z; cases z) ?_
    show ZVV _ _ _ _ [ZR 1 0, ZI p, ZI h, ZI (g_3 1 0 1), ZX 99] _ _
    refine zs_aload_n (j := 0) (i := 0) rfl rfl rfl ?_
    refine zs_getfield (f := 1) (k := 6) rfl rfl (trivial) ?_
    show ZVV _ _ _ _ _ (ZR 12 0 :: _) _
    refine zs_aload_n (j := 0) (i := 0) rfl rfl rfl ?_
    refine zs_getfield (f := 1) (k := 5) rfl rfl (trivial) ?_
    show ZVV _ _ _ _ _ (ZI (g_3 1 0 5) :: _) _
    show ZVV _ _ _ 41 _ _ _
    refine zs_iconst (n := 1) rfl ⟨by omega, by omega⟩ ?_
    refine zs_iadd_r rfl ⟨by omega, by omega⟩ ?_
    refine zs_iald (n := 864) rfl rfl (by omega) (by omega) ?_
    refine zs_istore (i := 4) rfl (by decide) (by intro r x hr; have hr2 : r = 3 := (by omega); subst hr2; intro z; cases z) ?_
    show ZVV _ _ _ _ [ZR 1 0, ZI p, ZI h, ZI (g_3 1 0 1), ZI (g_3 12 0 ((g_3 1 0 5) + 1).toNat)] _ _
    refine zs_aload_n (j := 0) (i := 0) rfl rfl rfl ?_
    refine zs_getfield (f := 1) (k := 3) rfl rfl (trivial) ?_
    show ZVV _ _ _ _ _ (ZI (g_3 1 0 3) :: _) _
    refine zs_if_eq 86 rfl (by omega) (fun hc_50 => ?_) (fun hc_50 => ?_)
    · refine zs_iconst (n := 1) rfl ⟨by omega, by omega⟩ ?_
      refine zs_goto 91 rfl (by omega) ?_
      exact zs_zreturn rfl rfl (by omega) (⟨by
    rw [hsu]
    first
    | (rw [if_pos hwq]; first | (rw [if_pos (by rw [decide_eq_true_eq]; omega)]) | (rw [if_neg (by rw [decide_eq_true_eq]; omega)]))
    | (rw [if_neg hwq]; first | (rw [if_pos (by rw [decide_eq_true_eq]; omega)]) | (rw [if_neg (by rw [decide_eq_true_eq]; omega)])), hS_3, hL_3, hw_3, hk_3⟩)
    · refine zs_bipush (n := 100) rfl ⟨by omega, by omega⟩ ?_
      refine zs_aload_n (j := 0) (i := 0) rfl rfl rfl ?_
      refine zs_getfield (f := 1) (k := 4) rfl rfl (trivial) ?_
      show ZVV _ _ _ _ _ (ZI (g_3 1 0 4) :: _) _
      refine zs_imul_r rfl ⟨by omega, by omega⟩ ?_
      refine zs_iload_n (j := 3) (i := 3) rfl rfl rfl ?_
      refine zs_aload_n (j := 0) (i := 0) rfl rfl rfl ?_
      refine zs_getfield (f := 1) (k := 3) rfl rfl (trivial) ?_
      show ZVV _ _ _ _ _ (ZI (g_3 1 0 3) :: _) _
      show ZVV _ _ _ 65 _ _ _
      refine zs_imul_r rfl ⟨by omega, by omega⟩ ?_
      refine zs_icmp_lt 90 rfl (by omega) (fun hc_66 => ?_) (fun hc_66 => ?_)
      · refine zs_iconst (n := 0) rfl ⟨by omega, by omega⟩ ?_
        exact zs_zreturn rfl rfl (by omega) (⟨by
    rw [hsu]
    first
    | (rw [if_pos hwq]; first | (rw [if_pos (by rw [decide_eq_true_eq]; omega)]) | (rw [if_neg (by rw [decide_eq_true_eq]; omega)]))
    | (rw [if_neg hwq]; first | (rw [if_pos (by rw [decide_eq_true_eq]; omega)]) | (rw [if_neg (by rw [decide_eq_true_eq]; omega)])), hS_3, hL_3, hw_3, hk_3⟩)
      · refine zs_bipush (n := 100) rfl ⟨by omega, by omega⟩ ?_
        refine zs_aload_n (j := 0) (i := 0) rfl rfl rfl ?_
        refine zs_getfield (f := 1) (k := 4) rfl rfl (trivial) ?_
        show ZVV _ _ _ _ _ (ZI (g_3 1 0 4) :: _) _
        refine zs_imul_r rfl ⟨by omega, by omega⟩ ?_
        refine zs_iload (i := 4) rfl rfl ?_
        refine zs_aload_n (j := 0) (i := 0) rfl rfl rfl ?_
        refine zs_getfield (f := 1) (k := 3) rfl rfl (trivial) ?_
        show ZVV _ _ _ _ _ (ZI (g_3 1 0 3) :: _) _
        show ZVV _ _ _ 82 _ _ _
        refine zs_imul_r rfl ⟨by omega, by omega⟩ ?_
        refine zs_icmp_gt 90 rfl (by omega) (fun hc_83 => ?_) (fun hc_83 => ?_)
        · refine zs_iconst (n := 0) rfl ⟨by omega, by omega⟩ ?_
          exact zs_zreturn rfl rfl (by omega) (⟨by
    rw [hsu]
    first
    | (rw [if_pos hwq]; first | (rw [if_pos (by rw [decide_eq_true_eq]; omega)]) | (rw [if_neg (by rw [decide_eq_true_eq]; omega)]))
    | (rw [if_neg hwq]; first | (rw [if_pos (by rw [decide_eq_true_eq]; omega)]) | (rw [if_neg (by rw [decide_eq_true_eq]; omega)])), hS_3, hL_3, hw_3, hk_3⟩)
        · refine zs_iconst (n := 1) rfl ⟨by omega, by omega⟩ ?_
          refine zs_goto 91 rfl (by omega) ?_
          exact zs_zreturn rfl rfl (by omega) (⟨by
    rw [hsu]
    first
    | (rw [if_pos hwq]; first | (rw [if_pos (by rw [decide_eq_true_eq]; omega)]) | (rw [if_neg (by rw [decide_eq_true_eq]; omega)]))
    | (rw [if_neg hwq]; first | (rw [if_pos (by rw [decide_eq_true_eq]; omega)]) | (rw [if_neg (by rw [decide_eq_true_eq]; omega)])), hS_3, hL_3, hw_3, hk_3⟩)
  · have hwq : g_3 1 0 1 = -1 := Classical.not_not.mp hc_11
    have hpr1 := zmul_rng (b := g_3 1 0 3) (hk1 ▸ hrg2.1) (by omega)
    have hpr2 := zmul_rng (b := g_3 1 0 3) (hk2 ▸ hrg2.2.1) (by omega)
    refine zs_aload_n (j := 0) (i := 0) rfl rfl rfl ?_
    refine zs_getfield (f := 1) (k := 6) rfl rfl (trivial) ?_
    show ZVV _ _ _ _ _ (ZR 12 0 :: _) _
    refine zs_aload_n (j := 0) (i := 0) rfl rfl rfl ?_
    refine zs_getfield (f := 1) (k := 5) rfl rfl (trivial) ?_
    show ZVV _ _ _ _ _ (ZI (g_3 1 0 5) :: _) _
    refine zs_iconst (n := 0) rfl ⟨by omega, by omega⟩ ?_
    refine zs_iadd_r rfl ⟨by omega, by omega⟩ ?_
    refine zs_iald (n := 864) rfl rfl (by omega) (by omega) ?_
    show ZVV _ _ _ 25 _ _ _
    refine zs_goto 32 rfl (by omega) ?_
    refine zs_istore_n (j := 3) (i := 3) rfl rfl (by decide) (by intro r x hr; have hr2 : r = 2 := (by omega); subst hr2; intro z; cases z) ?_
    show ZVV _ _ _ _ [ZR 1 0, ZI p, ZI h, ZI (g_3 12 0 ((g_3 1 0 5) + 0).toNat), ZX 99] _ _
    refine zs_aload_n (j := 0) (i := 0) rfl rfl rfl ?_
    refine zs_getfield (f := 1) (k := 6) rfl rfl (trivial) ?_
    show ZVV _ _ _ _ _ (ZR 12 0 :: _) _
    refine zs_aload_n (j := 0) (i := 0) rfl rfl rfl ?_
    refine zs_getfield (f := 1) (k := 5) rfl rfl (trivial) ?_
    show ZVV _ _ _ _ _ (ZI (g_3 1 0 5) :: _) _
    refine zs_iconst (n := 1) rfl ⟨by omega, by omega⟩ ?_
    refine zs_iadd_r rfl ⟨by omega, by omega⟩ ?_
    show ZVV _ _ _ 43 _ _ _
    refine zs_iald (n := 864) rfl rfl (by omega) (by omega) ?_
    refine zs_istore (i := 4) rfl (by decide) (by intro r x hr; have hr2 : r = 3 := (by omega); subst hr2; intro z; cases z) ?_
    show ZVV _ _ _ _ [ZR 1 0, ZI p, ZI h, ZI (g_3 12 0 ((g_3 1 0 5) + 0).toNat), ZI (g_3 12 0 ((g_3 1 0 5) + 1).toNat)] _ _
    refine zs_aload_n (j := 0) (i := 0) rfl rfl rfl ?_
    refine zs_getfield (f := 1) (k := 3) rfl rfl (trivial) ?_
    show ZVV _ _ _ _ _ (ZI (g_3 1 0 3) :: _) _
    refine zs_if_eq 86 rfl (by omega) (fun hc_50 => ?_) (fun hc_50 => ?_)
    · refine zs_iconst (n := 1) rfl ⟨by omega, by omega⟩ ?_
      refine zs_goto 91 rfl (by omega) ?_
      exact zs_zreturn rfl rfl (by omega) (⟨by
    rw [hsu]
    first
    | (rw [if_pos hwq]; first | (rw [if_pos (by rw [decide_eq_true_eq]; omega)]) | (rw [if_neg (by rw [decide_eq_true_eq]; omega)]))
    | (rw [if_neg hwq]; first | (rw [if_pos (by rw [decide_eq_true_eq]; omega)]) | (rw [if_neg (by rw [decide_eq_true_eq]; omega)])), hS_3, hL_3, hw_3, hk_3⟩)
    · refine zs_bipush (n := 100) rfl ⟨by omega, by omega⟩ ?_
      refine zs_aload_n (j := 0) (i := 0) rfl rfl rfl ?_
      refine zs_getfield (f := 1) (k := 4) rfl rfl (trivial) ?_
      show ZVV _ _ _ _ _ (ZI (g_3 1 0 4) :: _) _
      refine zs_imul_r rfl ⟨by omega, by omega⟩ ?_
      refine zs_iload_n (j := 3) (i := 3) rfl rfl rfl ?_
      refine zs_aload_n (j := 0) (i := 0) rfl rfl rfl ?_
      refine zs_getfield (f := 1) (k := 3) rfl rfl (trivial) ?_
      show ZVV _ _ _ _ _ (ZI (g_3 1 0 3) :: _) _
      show ZVV _ _ _ 65 _ _ _
      refine zs_imul_r rfl ⟨by omega, by omega⟩ ?_
      refine zs_icmp_lt 90 rfl (by omega) (fun hc_66 => ?_) (fun hc_66 => ?_)
      · refine zs_iconst (n := 0) rfl ⟨by omega, by omega⟩ ?_
        exact zs_zreturn rfl rfl (by omega) (⟨by
    rw [hsu]
    first
    | (rw [if_pos hwq]; first | (rw [if_pos (by rw [decide_eq_true_eq]; omega)]) | (rw [if_neg (by rw [decide_eq_true_eq]; omega)]))
    | (rw [if_neg hwq]; first | (rw [if_pos (by rw [decide_eq_true_eq]; omega)]) | (rw [if_neg (by rw [decide_eq_true_eq]; omega)])), hS_3, hL_3, hw_3, hk_3⟩)
      · refine zs_bipush (n := 100) rfl ⟨by omega, by omega⟩ ?_
        refine zs_aload_n (j := 0) (i := 0) rfl rfl rfl ?_
        refine zs_getfield (f := 1) (k := 4) rfl rfl (trivial) ?_
        show ZVV _ _ _ _ _ (ZI (g_3 1 0 4) :: _) _
        refine zs_imul_r rfl ⟨by omega, by omega⟩ ?_
        refine zs_iload (i := 4) rfl rfl ?_
        refine zs_aload_n (j := 0) (i := 0) rfl rfl rfl ?_
        refine zs_getfield (f := 1) (k := 3) rfl rfl (trivial) ?_
        show ZVV _ _ _ _ _ (ZI (g_3 1 0 3) :: _) _
        show ZVV _ _ _ 82 _ _ _
        refine zs_imul_r rfl ⟨by omega, by omega⟩ ?_
        refine zs_icmp_gt 90 rfl (by omega) (fun hc_83 => ?_) (fun hc_83 => ?_)
        · refine zs_iconst (n := 0) rfl ⟨by omega, by omega⟩ ?_
          exact zs_zreturn rfl rfl (by omega) (⟨by
    rw [hsu]
    first
    | (rw [if_pos hwq]; first | (rw [if_pos (by rw [decide_eq_true_eq]; omega)]) | (rw [if_neg (by rw [decide_eq_true_eq]; omega)]))
    | (rw [if_neg hwq]; first | (rw [if_pos (by rw [decide_eq_true_eq]; omega)]) | (rw [if_neg (by rw [decide_eq_true_eq]; omega)])), hS_3, hL_3, hw_3, hk_3⟩)
        · refine zs_iconst (n := 1) rfl ⟨by omega, by omega⟩ ?_
          refine zs_goto 91 rfl (by omega) ?_
          exact zs_zreturn rfl rfl (by omega) (⟨by
    rw [hsu]
    first
    | (rw [if_pos hwq]; first | (rw [if_pos (by rw [decide_eq_true_eq]; omega)]) | (rw [if_neg (by rw [decide_eq_true_eq]; omega)]))
    | (rw [if_neg hwq]; first | (rw [if_pos (by rw [decide_eq_true_eq]; omega)]) | (rw [if_neg (by rw [decide_eq_true_eq]; omega)])), hS_3, hL_3, hw_3, hk_3⟩)

