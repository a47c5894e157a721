def lkm (g : ZG) (a : Int) : Int := if 0 ≤ a ∧ a < g 8 0 10 ∧ a < 100 then g 34 0 a.toNat else -1
def FED (g : ZG) : Prop := (0 ≤ g 8 0 10 ∧ g 8 0 10 ≤ 100) ∧ (0 ≤ g 8 0 11 ∧ g 8 0 11 ≤ 100) ∧ ∀ k : Nat, k < 100 → 0 ≤ g 34 0 k ∧ g 34 0 k ≤ 127
theorem lkm_lt {g : ZG} {a : Int} (h : lkm g a ≠ -1) : 0 ≤ a ∧ a < 100 ∧ a < g 8 0 10 := by
  unfold lkm at h
  by_cases h2 : 0 ≤ a ∧ a < g 8 0 10 ∧ a < 100
  · exact ⟨h2.1, h2.2.2, h2.2.1⟩
  · rw [if_neg h2] at h; exact absurd rfl h
theorem lkm_r {g : ZG} (h : FED g) (a : Int) : -1 ≤ lkm g a ∧ lkm g a ≤ 127 := by
  unfold lkm
  split
  · have := h.2.2 a.toNat (by omega); omega
  · exact ⟨Int.le_refl _, by decide⟩
theorem lkm_up (g : ZG) {k : Nat} (hk : k ≠ 10) (v : Int) : lkm (zup g 8 0 k v) = lkm g := by
  funext a; unfold lkm; rw [zup_nk _ _ _ _ _ _ (Ne.symm hk), zup_nf _ _ _ _ (by decide)]
theorem FED.up {g : ZG} (h : FED g) {k : Nat} (hk : k ≠ 10 ∧ k ≠ 11) (v : Int) : FED (zup g 8 0 k v) := by
  unfold FED; rw [zup_nk _ _ _ _ _ _ (Ne.symm hk.1), zup_nk _ _ _ _ _ _ (Ne.symm hk.2), zup_nf _ _ _ _ (by decide)]; exact h
theorem FED.at {g : ZG} (h : FED g) {v : Int} (hv : 0 ≤ v ∧ v ≤ 100) : FED (zup g 8 0 11 v) := by
  unfold FED; rw [zup_nk _ _ _ _ _ _ (by decide), zup_eq, zup_nf _ _ _ _ (by decide)]; exact ⟨h.1, hv, h.2.2⟩
theorem c_X8_next  : ZC mX8_next 1 (fun av g => av = [ZR 8 0] ∧ FED g) (fun _ g r g' => r = some (ZI (lkm g (g 8 0 11))) ∧ g' = g) := by
  refine zc_of gX8_next (fun av g hp => by obtain ⟨rfl, -⟩ := hp; exact Nat.le_of_ble_eq_true rfl) (fun Y av g hwf hrg hp hok => ?_)
  obtain ⟨rfl, hp⟩ := hp
  show ZVV _ _ _ 0 [ZR 8 0] [] _
  have h1 := hp.1
  have h2 := hp.2.1
  refine zs_aload_n (j := 0) (i := 0) rfl rfl rfl ?_
  refine zs_getfield (f := 8) (k := 11) rfl rfl (trivial) ?_
  show ZVV _ _ _ _ _ (ZI (g 8 0 11) :: _) _
  refine zs_aload_n (j := 0) (i := 0) rfl rfl rfl ?_
  refine zs_getfield (f := 8) (k := 10) rfl rfl (trivial) ?_
  show ZVV _ _ _ _ _ (ZI (g 8 0 10) :: _) _
  refine zs_icmp_ge 23 rfl (by omega) (fun hc_8 => ?_) (fun hc_8 => ?_)
  · refine zs_iconst (n := (-1)) rfl ⟨by omega, by omega⟩ ?_
    exact zs_ireturn rfl rfl (⟨by unfold lkm; first | rw [if_pos (by omega)] | rw [if_neg (by omega)], rfl⟩)
  · refine zs_aload_n (j := 0) (i := 0) rfl rfl rfl ?_
    refine zs_getfield (f := 8) (k := 13) rfl rfl (trivial) ?_
    show ZVV _ _ _ _ _ (ZR 34 0 :: _) _
    refine zs_aload_n (j := 0) (i := 0) rfl rfl rfl ?_
    refine zs_getfield (f := 8) (k := 11) rfl rfl (trivial) ?_
    show ZVV _ _ _ _ _ (ZI (g 8 0 11) :: _) _
    refine zs_iald (n := 100) rfl rfl (by omega) (by omega) ?_
    refine zs_goto 24 rfl (by omega) ?_
    exact zs_ireturn rfl rfl (⟨by unfold lkm; first | rw [if_pos (by omega)] | rw [if_neg (by omega)], rfl⟩)

theorem c_X8_takes (c : Int) : ZC mX8_takes 2 (fun av g => av = [ZR 8 0, ZI c] ∧ FED g ∧ 0 ≤ c) (fun _ g r g' => r = some (ZI (if lkm g (g 8 0 11) = c then 1 else 0)) ∧ g' = (if lkm g (g 8 0 11) = c then zup g 8 0 11 (g 8 0 11 + 1) else g)) := by
  refine zc_of gX8_takes (fun av g hp => by obtain ⟨rfl, -⟩ := hp; exact Nat.le_of_ble_eq_true rfl) (fun Y av g hwf hrg hp hok => ?_)
  obtain ⟨rfl, hp⟩ := hp
  show ZVV _ _ _ 0 [ZR 8 0, ZI c] [] _
  obtain ⟨hp, hc⟩ := hp
  have h2 := hp.2.1
  refine zs_aload_n (j := 0) (i := 0) rfl rfl rfl ?_
  refine zs_callV (host := "") rfl kX8_189 vX8_next (c_X8_next) [] [] rfl (zroom_of (by omega)) rfl (Nat.le_of_ble_eq_true rfl) (⟨rfl, hp⟩) (fun r_1 g_1 hq_1 => ?_)
  obtain ⟨hr_1, hg_1⟩ := hq_1
  rw [hr_1, hg_1]
  show ZVV _ _ _ 4 _ [ZI (lkm g (g 8 0 11))] _
  refine zs_iload_n (j := 1) (i := 1) rfl rfl rfl ?_
  refine zs_icmp_eq 10 rfl (by omega) (fun hc_5 => ?_) (fun hc_5 => ?_)
  · refine zs_aload_n (j := 0) (i := 0) rfl rfl rfl ?_
    refine zs_dup rfl (by intro x z; cases z) ?_
    refine zs_getfield (f := 8) (k := 11) rfl rfl (trivial) ?_
    show ZVV _ _ _ _ _ (ZI (g 8 0 11) :: _) _
    refine zs_iconst (n := 1) rfl ⟨by omega, by omega⟩ ?_
    refine zs_iadd_r rfl ⟨by omega, by omega⟩ ?_
    refine zs_putfield (f := 8) (k := 11) (x := (g 8 0 11) + 1) rfl rfl (rfl) ?_
    refine zs_iconst (n := 1) rfl ⟨by omega, by omega⟩ ?_
    show ZVV _ _ _ 21 _ _ _
    exact zs_zreturn rfl rfl (by omega) (⟨by first | rw [if_pos (by omega)] | rw [if_neg (by omega)], by first | rw [if_pos (by omega)] | rw [if_neg (by omega)]⟩)
  · refine zs_iconst (n := 0) rfl ⟨by omega, by omega⟩ ?_
    exact zs_zreturn rfl rfl (by omega) (⟨by first | rw [if_pos (by omega)] | rw [if_neg (by omega)], by first | rw [if_pos (by omega)] | rw [if_neg (by omega)]⟩)

theorem c_X8_isDigit  : ZC mX8_isDigit 2 (fun av g => av = [ZR 8 0] ∧ FED g) (fun _ g r g' => r = some (ZI (if 48 ≤ lkm g (g 8 0 11) ∧ lkm g (g 8 0 11) ≤ 57 then 1 else 0)) ∧ g' = g) := by
  refine zc_of gX8_isDigit (fun av g hp => by obtain ⟨rfl, -⟩ := hp; exact Nat.le_of_ble_eq_true rfl) (fun Y av g hwf hrg hp hok => ?_)
  obtain ⟨rfl, hp⟩ := hp
  show ZVV _ _ _ 0 [ZR 8 0] [] _
  refine zs_aload_n (j := 0) (i := 0) rfl rfl rfl ?_
  refine zs_aload_n (j := 0) (i := 0) rfl rfl rfl ?_
  refine zs_callV (host := "") rfl kX8_189 vX8_next (c_X8_next) [] [ZR 8 0] rfl (zroom_of (by omega)) rfl (Nat.le_of_ble_eq_true rfl) (⟨rfl, hp⟩) (fun r_2 g_2 hq_2 => ?_)
  obtain ⟨hr_2, hg_2⟩ := hq_2
  rw [hr_2, hg_2]
  show ZVV _ _ _ 5 _ [ZI (lkm g (g 8 0 11)), ZR 8 0] _
  refine zs_bipush (n := 48) rfl ⟨by omega, by omega⟩ ?_
  refine zs_bipush (n := 57) rfl ⟨by omega, by omega⟩ ?_
  refine zs_callV (host := "") rfl kX8_170 vX8_in (c_X8_in (lkm g (g 8 0 11)) 48 57) [ZI (lkm g (g 8 0 11)), ZI 48, ZI 57] [] rfl (zroom_of (by omega)) rfl (Nat.le_of_ble_eq_true rfl) (⟨rfl, trivial⟩) (fun r_9 g_9 hq_9 => ?_)
  obtain ⟨hr_9, hg_9⟩ := hq_9
  rw [hr_9, hg_9]
  show ZVV _ _ _ 12 _ [ZI (if 48 ≤ lkm g (g 8 0 11) ∧ lkm g (g 8 0 11) ≤ 57 then 1 else 0)] _
  exact zs_zreturn rfl rfl (by omega) (⟨rfl, rfl⟩)

def xNum (lk : Int → Int) (a : Int) : Int × Int := if 48 ≤ lk (a + 1) ∧ lk (a + 1) ≤ 57 then ((lk a - 48) * 10 + lk (a + 1) - 48, a + 2) else (lk a - 48, a + 1)
theorem zup_com (g : ZG) {f i k c : Nat} (u v : Int) (h : k ≠ c) : zup (zup g f i k u) f i c v = zup (zup g f i c v) f i k u := by
  funext a b d
  unfold zup
  by_cases h1 : d = k
  · subst h1; by_cases h2 : a = f ∧ d = d ∧ b = i <;> simp [h]
  · by_cases h2 : d = c
    · subst h2; simp [h1]
    · simp [h1, h2]
set_option maxHeartbeats 4000000 in
theorem c_X8_takesNumber  : ZC mX8_takesNumber 3 (fun av g => av = [ZR 8 0] ∧ FED g) (fun _ g r g' => r = some (ZI (if 48 ≤ lkm g (g 8 0 11) ∧ lkm g (g 8 0 11) ≤ 57 then 1 else 0)) ∧ g' = (if 48 ≤ lkm g (g 8 0 11) ∧ lkm g (g 8 0 11) ≤ 57 then zup (zup g 8 0 12 (xNum (lkm g) (g 8 0 11)).1) 8 0 11 (xNum (lkm g) (g 8 0 11)).2 else g)) := by
  refine zc_of gX8_takesNumber (fun av g hp => by obtain ⟨rfl, -⟩ := hp; exact Nat.le_of_ble_eq_true rfl) (fun Y av g hwf hrg hp hok => ?_)
  obtain ⟨rfl, hp⟩ := hp
  show ZVV _ _ _ 0 [ZR 8 0, ZX 99] [] _
  have h2 := hp.2.1
  refine zs_aload_n (j := 0) (i := 0) rfl rfl rfl ?_
  refine zs_callV (host := "") rfl kX8_196 vX8_isDigit c_X8_isDigit [] [] rfl (zroom_of (by omega)) rfl (Nat.le_of_ble_eq_true rfl) ⟨rfl, hp⟩ (fun r_1 g_1 hq_1 => ?_)
  obtain ⟨hr_1, hg_1⟩ := hq_1
  rw [hr_1, hg_1]
  show ZVV _ _ _ 4 _ [ZI (if 48 ≤ lkm g (g 8 0 11) ∧ lkm g (g 8 0 11) ≤ 57 then 1 else 0)] g
  refine zs_if_ne 9 rfl (by omega) (fun hc_4 => ?_) (fun hc_4 => ?_)
  · refine zs_aload_n (j := 0) (i := 0) rfl rfl rfl ?_
    refine zs_iconst (n := 0) rfl ⟨by omega, by omega⟩ ?_
    refine zs_putfield (f := 8) (k := 12) (x := 0) rfl rfl (rfl) ?_
    refine zs_iconst (n := 0) rfl ⟨by omega, by omega⟩ ?_
    refine zs_istore_n (j := 1) (i := 1) rfl rfl (by decide) (by intro r x hr; have hr2 : r = 0 := (by omega); subst hr2; intro z; cases z) ?_
    show ZVV _ _ _ _ [ZR 8 0, ZI 0] _ _
    show ZVV _ _ _ 16 _ [] (zup g 8 0 12 0)
    rw [show zup g 8 0 12 0 = zup (zup g 8 0 12 0) 8 0 11 (g 8 0 11) from (zup_selfv (zup g 8 0 12 0) 8 0 11 (zup_nk _ _ _ _ _ _ (by decide))).symm]
    refine zs_iload_n (j := 1) (i := 1) rfl rfl rfl ?_
    refine zs_iconst (n := 2) rfl ⟨by omega, by omega⟩ ?_
    show ZVV _ _ _ 18 _ _ _
    refine zs_icmp_ge 63 rfl (by omega) (fun hc_18 => ?_) (fun hc_18 => ?_)
    · exfalso; omega
    · refine zs_aload_n (j := 0) (i := 0) rfl rfl rfl ?_
      refine zs_callV (host := "") rfl kX8_196 vX8_isDigit c_X8_isDigit [] [] rfl (zroom_of (by omega)) rfl (Nat.le_of_ble_eq_true rfl) ⟨rfl, (hp.up ⟨by decide, by decide⟩ _).at (by omega)⟩ (fun r_22 g_22 hq_22 => ?_)
      obtain ⟨hr_22, hg_22⟩ := hq_22
      rw [hr_22, hg_22, lkm_up _ (by decide), lkm_up _ (by decide), zup_eq]
      show ZVV _ _ _ 25 _ [ZI (if 48 ≤ lkm g (g 8 0 11) ∧ lkm g (g 8 0 11) ≤ 57 then 1 else 0)] (zup (zup g 8 0 12 0) 8 0 11 (g 8 0 11))
      refine zs_if_eq 63 rfl (by omega) (fun hc_25 => ?_) (fun hc_25 => ?_)
      · exfalso; omega
      · refine zs_aload_n (j := 0) (i := 0) rfl rfl rfl ?_
        refine zs_bipush (n := 10) rfl ⟨by omega, by omega⟩ ?_
        refine zs_aload_n (j := 0) (i := 0) rfl rfl rfl ?_
        refine zs_getfield (f := 8) (k := 12) rfl rfl (trivial) ?_
        show ZVV _ _ _ _ _ (ZI ((zup (zup g 8 0 12 0) 8 0 11 (g 8 0 11)) 8 0 12) :: _) _
        show ZVV _ _ _ 35 _ _ _
        rw [show (zup (zup g 8 0 12 0) 8 0 11 (g 8 0 11)) 8 0 12 = 0 from by rw [zup_nk _ _ _ _ _ _ (by decide), zup_eq]]
        refine zs_imul_r rfl ⟨by omega, by omega⟩ ?_
        refine zs_aload_n (j := 0) (i := 0) rfl rfl rfl ?_
        refine zs_callV (host := "") rfl kX8_189 vX8_next c_X8_next [] [ZI (10 * 0), ZR 8 0] rfl (zroom_of (by omega)) rfl (Nat.le_of_ble_eq_true rfl) ⟨rfl, (hp.up ⟨by decide, by decide⟩ _).at (by omega)⟩ (fun r_37 g_37 hq_37 => ?_)
        obtain ⟨hr_37, hg_37⟩ := hq_37
        rw [hr_37, hg_37, lkm_up _ (by decide), lkm_up _ (by decide), zup_eq]
        show ZVV _ _ _ 40 _ [ZI (lkm g (g 8 0 11)), ZI (10 * 0), ZR 8 0] (zup (zup g 8 0 12 0) 8 0 11 (g 8 0 11))
        show ZVV _ _ _ 40 _ _ _
        refine zs_iadd_r rfl ⟨by omega, by omega⟩ ?_
        refine zs_bipush (n := 48) rfl ⟨by omega, by omega⟩ ?_
        refine zs_isub_r rfl ⟨by omega, by omega⟩ ?_
        refine zs_putfield (f := 8) (k := 12) (x := ((10 * 0) + (lkm g (g 8 0 11))) - 48) rfl rfl (rfl) ?_
        rw [show zup (zup (zup g 8 0 12 0) 8 0 11 (g 8 0 11)) 8 0 12 (((10 * 0) + (lkm g (g 8 0 11))) - 48) = zup (zup g 8 0 12 (((10 * 0) + (lkm g (g 8 0 11))) - 48)) 8 0 11 (g 8 0 11) from by rw [zup_com _ _ _ (by decide), zup_zup]]
        refine zs_aload_n (j := 0) (i := 0) rfl rfl rfl ?_
        refine zs_dup rfl (by intro x z; cases z) ?_
        refine zs_getfield (f := 8) (k := 11) rfl rfl (trivial) ?_
        show ZVV _ _ _ _ _ (ZI ((zup (zup g 8 0 12 (((10 * 0) + (lkm g (g 8 0 11))) - 48)) 8 0 11 (g 8 0 11)) 8 0 11) :: _) _
        rw [show (zup (zup g 8 0 12 (((10 * 0) + (lkm g (g 8 0 11))) - 48)) 8 0 11 (g 8 0 11)) 8 0 11 = (g 8 0 11) from zup_eq _ _ _ _ _]
        refine zs_iconst (n := 1) rfl ⟨by omega, by omega⟩ ?_
        show ZVV _ _ _ 53 _ _ _
        refine zs_iadd_r rfl ⟨by omega, by omega⟩ ?_
        refine zs_putfield (f := 8) (k := 11) (x := (g 8 0 11) + 1) rfl rfl (rfl) ?_
        rw [show zup (zup (zup g 8 0 12 (((10 * 0) + (lkm g (g 8 0 11))) - 48)) 8 0 11 (g 8 0 11)) 8 0 11 ((g 8 0 11) + 1) = zup (zup g 8 0 12 (((10 * 0) + (lkm g (g 8 0 11))) - 48)) 8 0 11 ((g 8 0 11) + 1) from zup_zup _ _ _ _ _ _]
        have hl_16 := lkm_lt (g := g) (a := (g 8 0 11)) (by omega)
        refine zs_iinc_r (i := 1) rfl rfl (by intro r x hr; have hr2 : r = 0 := (by omega); subst hr2; intro z; cases z) ⟨by omega, by omega⟩ ?_
        show ZVV _ _ _ _ [ZR 8 0, ZI (0 + 1)] _ _
        refine zs_goto 16 rfl (by omega) ?_
        skip
        refine zs_iload_n (j := 1) (i := 1) rfl rfl rfl ?_
        refine zs_iconst (n := 2) rfl ⟨by omega, by omega⟩ ?_
        refine zs_icmp_ge 63 rfl (by omega) (fun hc_18 => ?_) (fun hc_18 => ?_)
        · exfalso; omega
        · refine zs_aload_n (j := 0) (i := 0) rfl rfl rfl ?_
          refine zs_callV (host := "") rfl kX8_196 vX8_isDigit c_X8_isDigit [] [] rfl (zroom_of (by omega)) rfl (Nat.le_of_ble_eq_true rfl) ⟨rfl, (hp.up ⟨by decide, by decide⟩ _).at (by omega)⟩ (fun r_22 g_22 hq_22 => ?_)
          obtain ⟨hr_22, hg_22⟩ := hq_22
          rw [hr_22, hg_22, lkm_up _ (by decide), lkm_up _ (by decide), zup_eq]
          show ZVV _ _ _ 25 _ [ZI (if 48 ≤ lkm g ((g 8 0 11) + 1) ∧ lkm g ((g 8 0 11) + 1) ≤ 57 then 1 else 0)] (zup (zup g 8 0 12 (((10 * 0) + (lkm g (g 8 0 11))) - 48)) 8 0 11 ((g 8 0 11) + 1))
          refine zs_if_eq 63 rfl (by omega) (fun hc_25 => ?_) (fun hc_25 => ?_)
          · refine zs_iconst (n := 1) rfl ⟨by omega, by omega⟩ ?_
            exact zs_zreturn rfl rfl (by omega) (⟨by rw [if_pos (show 48 ≤ lkm g (g 8 0 11) ∧ lkm g (g 8 0 11) ≤ 57 by omega)], by
      rw [if_pos (show 48 ≤ lkm g (g 8 0 11) ∧ lkm g (g 8 0 11) ≤ 57 by omega), show xNum (lkm g) (g 8 0 11) = (lkm g (g 8 0 11) - 48, g 8 0 11 + 1) from if_neg (show ¬ (48 ≤ lkm g (g 8 0 11 + 1) ∧ lkm g (g 8 0 11 + 1) ≤ 57) by omega)]
      show zup (zup g 8 0 12 (((10 * 0) + (lkm g (g 8 0 11))) - 48)) 8 0 11 ((g 8 0 11) + 1) = zup (zup g 8 0 12 (lkm g (g 8 0 11) - 48)) 8 0 11 (g 8 0 11 + 1)
      rw [show (((10 * 0) + (lkm g (g 8 0 11))) - 48) = lkm g (g 8 0 11) - 48 from by omega, show (((g 8 0 11) + 1) : Int) = g 8 0 11 + 1 from by omega]⟩)
          · refine zs_aload_n (j := 0) (i := 0) rfl rfl rfl ?_
            refine zs_bipush (n := 10) rfl ⟨by omega, by omega⟩ ?_
            refine zs_aload_n (j := 0) (i := 0) rfl rfl rfl ?_
            refine zs_getfield (f := 8) (k := 12) rfl rfl (trivial) ?_
            show ZVV _ _ _ _ _ (ZI ((zup (zup g 8 0 12 (((10 * 0) + (lkm g (g 8 0 11))) - 48)) 8 0 11 ((g 8 0 11) + 1)) 8 0 12) :: _) _
            show ZVV _ _ _ 35 _ _ _
            rw [show (zup (zup g 8 0 12 (((10 * 0) + (lkm g (g 8 0 11))) - 48)) 8 0 11 ((g 8 0 11) + 1)) 8 0 12 = (((10 * 0) + (lkm g (g 8 0 11))) - 48) from by rw [zup_nk _ _ _ _ _ _ (by decide), zup_eq]]
            refine zs_imul_r rfl ⟨by omega, by omega⟩ ?_
            refine zs_aload_n (j := 0) (i := 0) rfl rfl rfl ?_
            refine zs_callV (host := "") rfl kX8_189 vX8_next c_X8_next [] [ZI (10 * (((10 * 0) + (lkm g (g 8 0 11))) - 48)), ZR 8 0] rfl (zroom_of (by omega)) rfl (Nat.le_of_ble_eq_true rfl) ⟨rfl, (hp.up ⟨by decide, by decide⟩ _).at (by omega)⟩ (fun r_37 g_37 hq_37 => ?_)
            obtain ⟨hr_37, hg_37⟩ := hq_37
            rw [hr_37, hg_37, lkm_up _ (by decide), lkm_up _ (by decide), zup_eq]
            show ZVV _ _ _ 40 _ [ZI (lkm g ((g 8 0 11) + 1)), ZI (10 * (((10 * 0) + (lkm g (g 8 0 11))) - 48)), ZR 8 0] (zup (zup g 8 0 12 (((10 * 0) + (lkm g (g 8 0 11))) - 48)) 8 0 11 ((g 8 0 11) + 1))
            show ZVV _ _ _ 40 _ _ _
            refine zs_iadd_r rfl ⟨by omega, by omega⟩ ?_
            refine zs_bipush (n := 48) rfl ⟨by omega, by omega⟩ ?_
            refine zs_isub_r rfl ⟨by omega, by omega⟩ ?_
            refine zs_putfield (f := 8) (k := 12) (x := ((10 * (((10 * 0) + (lkm g (g 8 0 11))) - 48)) + (lkm g ((g 8 0 11) + 1))) - 48) rfl rfl (rfl) ?_
            rw [show zup (zup (zup g 8 0 12 (((10 * 0) + (lkm g (g 8 0 11))) - 48)) 8 0 11 ((g 8 0 11) + 1)) 8 0 12 (((10 * (((10 * 0) + (lkm g (g 8 0 11))) - 48)) + (lkm g ((g 8 0 11) + 1))) - 48) = zup (zup g 8 0 12 (((10 * (((10 * 0) + (lkm g (g 8 0 11))) - 48)) + (lkm g ((g 8 0 11) + 1))) - 48)) 8 0 11 ((g 8 0 11) + 1) from by rw [zup_com _ _ _ (by decide), zup_zup]]
            refine zs_aload_n (j := 0) (i := 0) rfl rfl rfl ?_
            refine zs_dup rfl (by intro x z; cases z) ?_
            refine zs_getfield (f := 8) (k := 11) rfl rfl (trivial) ?_
            show ZVV _ _ _ _ _ (ZI ((zup (zup g 8 0 12 (((10 * (((10 * 0) + (lkm g (g 8 0 11))) - 48)) + (lkm g ((g 8 0 11) + 1))) - 48)) 8 0 11 ((g 8 0 11) + 1)) 8 0 11) :: _) _
            rw [show (zup (zup g 8 0 12 (((10 * (((10 * 0) + (lkm g (g 8 0 11))) - 48)) + (lkm g ((g 8 0 11) + 1))) - 48)) 8 0 11 ((g 8 0 11) + 1)) 8 0 11 = ((g 8 0 11) + 1) from zup_eq _ _ _ _ _]
            refine zs_iconst (n := 1) rfl ⟨by omega, by omega⟩ ?_
            show ZVV _ _ _ 53 _ _ _
            refine zs_iadd_r rfl ⟨by omega, by omega⟩ ?_
            refine zs_putfield (f := 8) (k := 11) (x := ((g 8 0 11) + 1) + 1) rfl rfl (rfl) ?_
            rw [show zup (zup (zup g 8 0 12 (((10 * (((10 * 0) + (lkm g (g 8 0 11))) - 48)) + (lkm g ((g 8 0 11) + 1))) - 48)) 8 0 11 ((g 8 0 11) + 1)) 8 0 11 (((g 8 0 11) + 1) + 1) = zup (zup g 8 0 12 (((10 * (((10 * 0) + (lkm g (g 8 0 11))) - 48)) + (lkm g ((g 8 0 11) + 1))) - 48)) 8 0 11 (((g 8 0 11) + 1) + 1) from zup_zup _ _ _ _ _ _]
            have hl_22 := lkm_lt (g := g) (a := ((g 8 0 11) + 1)) (by omega)
            refine zs_iinc_r (i := 1) rfl rfl (by intro r x hr; have hr2 : r = 0 := (by omega); subst hr2; intro z; cases z) ⟨by omega, by omega⟩ ?_
            show ZVV _ _ _ _ [ZR 8 0, ZI (0 + 1 + 1)] _ _
            refine zs_goto 16 rfl (by omega) ?_
            skip
            refine zs_iload_n (j := 1) (i := 1) rfl rfl rfl ?_
            refine zs_iconst (n := 2) rfl ⟨by omega, by omega⟩ ?_
            refine zs_icmp_ge 63 rfl (by omega) (fun hc_18 => ?_) (fun hc_18 => ?_)
            · refine zs_iconst (n := 1) rfl ⟨by omega, by omega⟩ ?_
              exact zs_zreturn rfl rfl (by omega) (⟨by rw [if_pos (show 48 ≤ lkm g (g 8 0 11) ∧ lkm g (g 8 0 11) ≤ 57 by omega)], by
      rw [if_pos (show 48 ≤ lkm g (g 8 0 11) ∧ lkm g (g 8 0 11) ≤ 57 by omega), show xNum (lkm g) (g 8 0 11) = ((lkm g (g 8 0 11) - 48) * 10 + lkm g (g 8 0 11 + 1) - 48, g 8 0 11 + 2) from if_pos (show 48 ≤ lkm g (g 8 0 11 + 1) ∧ lkm g (g 8 0 11 + 1) ≤ 57 by omega)]
      show zup (zup g 8 0 12 (((10 * (((10 * 0) + (lkm g (g 8 0 11))) - 48)) + (lkm g ((g 8 0 11) + 1))) - 48)) 8 0 11 (((g 8 0 11) + 1) + 1) = zup (zup g 8 0 12 ((lkm g (g 8 0 11) - 48) * 10 + lkm g (g 8 0 11 + 1) - 48)) 8 0 11 (g 8 0 11 + 2)
      rw [show (((10 * (((10 * 0) + (lkm g (g 8 0 11))) - 48)) + (lkm g ((g 8 0 11) + 1))) - 48) = (lkm g (g 8 0 11) - 48) * 10 + lkm g (g 8 0 11 + 1) - 48 from by omega, show ((((g 8 0 11) + 1) + 1) : Int) = g 8 0 11 + 2 from by omega]⟩)
            · exfalso; omega
  · refine zs_iconst (n := 0) rfl ⟨by omega, by omega⟩ ?_
    exact zs_zreturn rfl rfl (by omega) (⟨by rw [if_neg (show ¬ (48 ≤ lkm g (g 8 0 11) ∧ lkm g (g 8 0 11) ≤ 57) by omega)], by rw [if_neg (show ¬ (48 ≤ lkm g (g 8 0 11) ∧ lkm g (g 8 0 11) ≤ 57) by omega)]⟩)

theorem c_X8_emits (x : Int) : ZC mX8_emits 1 (fun av g => av = [ZR 8 0, ZI x] ∧ 0 ≤ g 8 0 21 ∧ g 8 0 21 < 600) (fun _ g r g' => r = none ∧ g' = zup (zup g 40 0 (g 8 0 21).toNat x) 8 0 21 (g 8 0 21 + 1)) := by
  refine zc_of gX8_emits (fun av g hp => by obtain ⟨rfl, -⟩ := hp; exact Nat.le_of_ble_eq_true rfl) (fun Y av g hwf hrg hp hok => ?_)
  obtain ⟨rfl, hp⟩ := hp
  show ZVV _ _ _ 0 [ZR 8 0, ZI x] [] _
  refine zs_aload_n (j := 0) (i := 0) rfl rfl rfl ?_
  refine zs_getfield (f := 8) (k := 19) rfl rfl (trivial) ?_
  show ZVV _ _ _ _ _ (ZR 40 0 :: _) _
  refine zs_aload_n (j := 0) (i := 0) rfl rfl rfl ?_
  refine zs_getfield (f := 8) (k := 21) rfl rfl (trivial) ?_
  show ZVV _ _ _ _ _ (ZI (g 8 0 21) :: _) _
  refine zs_iload_n (j := 1) (i := 1) rfl rfl rfl ?_
  refine zs_iast (n := 600) rfl rfl (by omega) (by omega) ?_
  refine zs_aload_n (j := 0) (i := 0) rfl rfl rfl ?_
  show ZVV _ _ _ 11 _ _ _
  refine zs_dup rfl (by intro x z; cases z) ?_
  refine zs_getfield (f := 8) (k := 21) rfl rfl (trivial) ?_
  show ZVV _ _ _ _ _ (ZI (g 8 0 21) :: _) _
  refine zs_iconst (n := 1) rfl ⟨by omega, by omega⟩ ?_
  refine zs_iadd_r rfl ⟨by omega, by omega⟩ ?_
  refine zs_putfield (f := 8) (k := 21) (x := (g 8 0 21) + 1) rfl rfl (rfl) ?_
  exact zs_return rfl rfl (⟨rfl, rfl⟩)

def xPl (c : Int) : Int := if c = 112 then 0 else if c = 115 then 1 else if c = 107 then 2 else if c = 104 then 3 else if c = 102 then 4 else if c = 109 then 5 else -1
theorem c_X8_place (c : Int) : ZC mX8_place 1 (fun av g => av = [ZR 8 0, ZI c] ∧ True) (fun _ g r g' => r = some (ZI (xPl c)) ∧ g' = g) := by
  refine zc_of gX8_place (fun av g hp => by obtain ⟨rfl, -⟩ := hp; exact Nat.le_of_ble_eq_true rfl) (fun Y av g hwf hrg hp hok => ?_)
  obtain ⟨rfl, hp⟩ := hp
  show ZVV _ _ _ 0 [ZR 8 0, ZI c] [] _
  refine zs_iload_n (j := 1) (i := 1) rfl rfl rfl ?_
  by_cases hs_1_102 : c = 102
  · refine zs_tsIn 80 rfl (by omega) (by omega) (off := 79) (by rw [hs_1_102]; rfl) (by omega) ?_
    refine zs_iconst (n := 4) rfl ⟨by omega, by omega⟩ ?_
    exact zs_ireturn rfl rfl (⟨by unfold xPl; rw [if_neg (by omega), if_neg (by omega), if_neg (by omega), if_neg (by omega), if_pos (by omega)], rfl⟩)
  by_cases hs_1_103 : c = 103
  · refine zs_tsIn 84 rfl (by omega) (by omega) (off := 83) (by rw [hs_1_103]; rfl) (by omega) ?_
    refine zs_iconst (n := (-1)) rfl ⟨by omega, by omega⟩ ?_
    exact zs_ireturn rfl rfl (⟨by unfold xPl; rw [if_neg (by omega), if_neg (by omega), if_neg (by omega), if_neg (by omega), if_neg (by omega), if_neg (by omega)], rfl⟩)
  by_cases hs_1_104 : c = 104
  · refine zs_tsIn 78 rfl (by omega) (by omega) (off := 77) (by rw [hs_1_104]; rfl) (by omega) ?_
    refine zs_iconst (n := 3) rfl ⟨by omega, by omega⟩ ?_
    exact zs_ireturn rfl rfl (⟨by unfold xPl; rw [if_neg (by omega), if_neg (by omega), if_neg (by omega), if_pos (by omega)], rfl⟩)
  by_cases hs_1_105 : c = 105
  · refine zs_tsIn 84 rfl (by omega) (by omega) (off := 83) (by rw [hs_1_105]; rfl) (by omega) ?_
    refine zs_iconst (n := (-1)) rfl ⟨by omega, by omega⟩ ?_
    exact zs_ireturn rfl rfl (⟨by unfold xPl; rw [if_neg (by omega), if_neg (by omega), if_neg (by omega), if_neg (by omega), if_neg (by omega), if_neg (by omega)], rfl⟩)
  by_cases hs_1_106 : c = 106
  · refine zs_tsIn 84 rfl (by omega) (by omega) (off := 83) (by rw [hs_1_106]; rfl) (by omega) ?_
    refine zs_iconst (n := (-1)) rfl ⟨by omega, by omega⟩ ?_
    exact zs_ireturn rfl rfl (⟨by unfold xPl; rw [if_neg (by omega), if_neg (by omega), if_neg (by omega), if_neg (by omega), if_neg (by omega), if_neg (by omega)], rfl⟩)
  by_cases hs_1_107 : c = 107
  · refine zs_tsIn 76 rfl (by omega) (by omega) (off := 75) (by rw [hs_1_107]; rfl) (by omega) ?_
    refine zs_iconst (n := 2) rfl ⟨by omega, by omega⟩ ?_
    exact zs_ireturn rfl rfl (⟨by unfold xPl; rw [if_neg (by omega), if_neg (by omega), if_pos (by omega)], rfl⟩)
  by_cases hs_1_108 : c = 108
  · refine zs_tsIn 84 rfl (by omega) (by omega) (off := 83) (by rw [hs_1_108]; rfl) (by omega) ?_
    refine zs_iconst (n := (-1)) rfl ⟨by omega, by omega⟩ ?_
    exact zs_ireturn rfl rfl (⟨by unfold xPl; rw [if_neg (by omega), if_neg (by omega), if_neg (by omega), if_neg (by omega), if_neg (by omega), if_neg (by omega)], rfl⟩)
  by_cases hs_1_109 : c = 109
  · refine zs_tsIn 82 rfl (by omega) (by omega) (off := 81) (by rw [hs_1_109]; rfl) (by omega) ?_
    refine zs_iconst (n := 5) rfl ⟨by omega, by omega⟩ ?_
    exact zs_ireturn rfl rfl (⟨by unfold xPl; rw [if_neg (by omega), if_neg (by omega), if_neg (by omega), if_neg (by omega), if_neg (by omega), if_pos (by omega)], rfl⟩)
  by_cases hs_1_110 : c = 110
  · refine zs_tsIn 84 rfl (by omega) (by omega) (off := 83) (by rw [hs_1_110]; rfl) (by omega) ?_
    refine zs_iconst (n := (-1)) rfl ⟨by omega, by omega⟩ ?_
    exact zs_ireturn rfl rfl (⟨by unfold xPl; rw [if_neg (by omega), if_neg (by omega), if_neg (by omega), if_neg (by omega), if_neg (by omega), if_neg (by omega)], rfl⟩)
  by_cases hs_1_111 : c = 111
  · refine zs_tsIn 84 rfl (by omega) (by omega) (off := 83) (by rw [hs_1_111]; rfl) (by omega) ?_
    refine zs_iconst (n := (-1)) rfl ⟨by omega, by omega⟩ ?_
    exact zs_ireturn rfl rfl (⟨by unfold xPl; rw [if_neg (by omega), if_neg (by omega), if_neg (by omega), if_neg (by omega), if_neg (by omega), if_neg (by omega)], rfl⟩)
  by_cases hs_1_112 : c = 112
  · refine zs_tsIn 72 rfl (by omega) (by omega) (off := 71) (by rw [hs_1_112]; rfl) (by omega) ?_
    refine zs_iconst (n := 0) rfl ⟨by omega, by omega⟩ ?_
    exact zs_ireturn rfl rfl (⟨by unfold xPl; rw [if_pos (by omega)], rfl⟩)
  by_cases hs_1_113 : c = 113
  · refine zs_tsIn 84 rfl (by omega) (by omega) (off := 83) (by rw [hs_1_113]; rfl) (by omega) ?_
    refine zs_iconst (n := (-1)) rfl ⟨by omega, by omega⟩ ?_
    exact zs_ireturn rfl rfl (⟨by unfold xPl; rw [if_neg (by omega), if_neg (by omega), if_neg (by omega), if_neg (by omega), if_neg (by omega), if_neg (by omega)], rfl⟩)
  by_cases hs_1_114 : c = 114
  · refine zs_tsIn 84 rfl (by omega) (by omega) (off := 83) (by rw [hs_1_114]; rfl) (by omega) ?_
    refine zs_iconst (n := (-1)) rfl ⟨by omega, by omega⟩ ?_
    exact zs_ireturn rfl rfl (⟨by unfold xPl; rw [if_neg (by omega), if_neg (by omega), if_neg (by omega), if_neg (by omega), if_neg (by omega), if_neg (by omega)], rfl⟩)
  by_cases hs_1_115 : c = 115
  · refine zs_tsIn 74 rfl (by omega) (by omega) (off := 73) (by rw [hs_1_115]; rfl) (by omega) ?_
    refine zs_iconst (n := 1) rfl ⟨by omega, by omega⟩ ?_
    exact zs_ireturn rfl rfl (⟨by unfold xPl; rw [if_neg (by omega), if_pos (by omega)], rfl⟩)
  refine zs_tsOut 84 rfl (by omega) (by omega) ?_
  refine zs_iconst (n := (-1)) rfl ⟨by omega, by omega⟩ ?_
  exact zs_ireturn rfl rfl (⟨by unfold xPl; rw [if_neg (by omega), if_neg (by omega), if_neg (by omega), if_neg (by omega), if_neg (by omega), if_neg (by omega)], rfl⟩)

def LET (g : ZG) : Prop := ∀ k, k < 12 → g 42 0 k = [119, 105, 115, 104, 109, 111, 115, 116, 100, 101, 97, 114].getD k 0
def xWd (lk : Int → Int) (l : List Int) (n k : Nat) (a : Int) : Bool × Int := match n with
  | 0 => if lk a = 32 then (true, a + 1) else (false, a)
  | n + 1 => if lk a = l.getD k 0 then xWd lk l n (k + 1) (a + 1) else (false, a)
def xLet : List Int := [119, 105, 115, 104, 109, 111, 115, 116, 100, 101, 97, 114]
theorem xLet_r : ∀ k, k < 12 → 32 ≤ xLet.getD k 0 := by decide
theorem l_X8_takesWord {Y : ZW} {Q : Option ZV → ZG → Prop} {g : ZG} {b : Nat} (hb : b + 4 ≤ 12) (hf : FED g) (hlet : ∀ k, k < 12 → (g 42 0 k) = xLet.getD k 0) : ∀ (m k : Nat) (a : Int), k + m = 4 → (0 ≤ a ∧ a ≤ 100) → Q (some (ZI (if (xWd (lkm g) xLet m (b + k) a).1 = true then 1 else 0))) (zup g 8 0 11 (xWd (lkm g) xLet m (b + k) a).2) → ZVV Y mX8_takesWord (zcx Y 3 Q) 2 [ZR 8 0, ZI (b : Int), ZI 4, ZI (k : Int)] [] (zup g 8 0 11 a) := by
  intro m
  induction m with
  | zero =>
    intro k a hk ha hq
    refine zs_iload_n (j := 3) (i := 3) rfl rfl rfl ?_
    refine zs_iload_n (j := 2) (i := 2) rfl rfl rfl ?_
    refine zs_icmp_ge 30 rfl (by omega) (fun hc_4 => ?_) (fun hc_4 => ?_)
    · refine zs_aload_n (j := 0) (i := 0) rfl rfl rfl ?_
      refine zs_bipush (n := 32) rfl ⟨by omega, by omega⟩ ?_
      refine zs_callV (host := "") rfl kX8_193 vX8_takes (c_X8_takes 32) [ZI 32] [] rfl (zroom_of (by omega)) rfl (Nat.le_of_ble_eq_true rfl) ⟨rfl, hf.at ha, by decide⟩ (fun r_33 g_33 hq_33 => ?_)
      obtain ⟨hr_33, hg_33⟩ := hq_33
      rw [lkm_up _ (by decide), zup_eq] at hr_33 hg_33
      rw [zup_zup] at hg_33
      rw [hr_33]
      show ZVV _ _ _ 36 _ [ZI (if lkm g a = 32 then 1 else 0)] g_33
      exact zs_zreturn rfl rfl (by split <;> decide) (by
      by_cases hc : lkm g a = 32
      · rw [if_pos hc] at hg_33 ⊢
        rw [hg_33]
        have hx := hq
        rw [show xWd (lkm g) xLet 0 (b + k) a = (true, a + 1) from if_pos hc] at hx
        exact hx
      · rw [if_neg hc] at hg_33 ⊢
        rw [hg_33]
        have hx := hq
        rw [show xWd (lkm g) xLet 0 (b + k) a = (false, a) from if_neg hc] at hx
        exact hx)
    · exfalso; omega
  | succ m ih =>
    intro k a hk ha hq
    refine zs_iload_n (j := 3) (i := 3) rfl rfl rfl ?_
    refine zs_iload_n (j := 2) (i := 2) rfl rfl rfl ?_
    refine zs_icmp_ge 30 rfl (by omega) (fun hc_4 => ?_) (fun hc_4 => ?_)
    · exfalso; omega
    · refine zs_aload_n (j := 0) (i := 0) rfl rfl rfl ?_
      refine zs_aload_n (j := 0) (i := 0) rfl rfl rfl ?_
      refine zs_getfield (f := 8) (k := 24) rfl rfl (trivial) ?_
      show ZVV _ _ _ _ _ (ZR 42 0 :: _) _
      refine zs_iload_n (j := 1) (i := 1) rfl rfl rfl ?_
      refine zs_iload_n (j := 3) (i := 3) rfl rfl rfl ?_
      refine zs_iadd_r rfl ⟨by omega, by omega⟩ ?_
      refine zs_iald (n := 12) rfl rfl (by omega) (by omega) ?_
      show ZVV _ _ _ 16 _ _ _
      rw [show ((zup g 8 0 11 a) 42 0 ((b : Int) + (k : Int)).toNat) = xLet.getD (b + k) 0 from by rw [show ((b : Int) + (k : Int)).toNat = b + k by omega]; exact hlet (b + k) (by omega)]
      refine zs_callV (host := "") rfl kX8_193 vX8_takes (c_X8_takes (xLet.getD (b + k) 0)) [ZI (xLet.getD (b + k) 0)] [] rfl (zroom_of (by omega)) rfl (Nat.le_of_ble_eq_true rfl) ⟨rfl, hf.at ha, by have := xLet_r (b + k) (by omega); omega⟩ (fun r_16 g_16 hq_16 => ?_)
      obtain ⟨hr_16, hg_16⟩ := hq_16
      rw [lkm_up _ (by decide), zup_eq] at hr_16 hg_16
      rw [zup_zup] at hg_16
      rw [hr_16]
      show ZVV _ _ _ 19 _ [ZI (if lkm g a = (xLet.getD (b + k) 0) then 1 else 0)] g_16
      refine zs_if_ne 24 rfl (by omega) (fun hc_19 => ?_) (fun hc_19 => ?_)
      · refine zs_iinc_r (i := 3) rfl rfl (by intro r x hr; have hr2 : r = 2 := (by omega); subst hr2; intro z; cases z) ⟨by omega, by omega⟩ ?_
        show ZVV _ _ _ _ [ZR 8 0, ZI (b : Int), ZI 4, ZI ((k : Int) + 1)] _ _
        refine zs_goto 2 rfl (by omega) ?_
        have hc : lkm g a = xLet.getD (b + k) 0 := zifp1 (fun z => hc_19 z)
        rw [if_pos hc] at hg_16
        have hl := lkm_lt (g := g) (a := a) (by have := xLet_r (b + k) (by omega); omega)
        rw [hg_16]
        have hx := hq
        rw [show xWd (lkm g) xLet (m + 1) (b + k) a = xWd (lkm g) xLet m (b + (k + 1)) (a + 1) from if_pos hc] at hx
        exact ih (k + 1) (a + 1) (by omega) (by omega) hx
      · refine zs_iconst (n := 0) rfl ⟨by omega, by omega⟩ ?_
        exact zs_zreturn rfl rfl (by omega) (by
      have hc : ¬ lkm g a = xLet.getD (b + k) 0 := fun z => hc_19 (by rw [if_pos z]; decide)
      rw [if_neg hc] at hg_16
      rw [hg_16]
      have hx := hq
      rw [show xWd (lkm g) xLet (m + 1) (b + k) a = (false, a) from if_neg hc] at hx
      exact hx)
theorem c_X8_takesWord (b : Nat) : ZC mX8_takesWord 3 (fun av g => av = [ZR 8 0, ZI (b : Int), ZI 4] ∧ FED g ∧ LET g ∧ b + 4 ≤ 12) (fun _ g r g' => r = some (ZI (if (xWd (lkm g) xLet 4 b (g 8 0 11)).1 = true then 1 else 0)) ∧ g' = zup g 8 0 11 (xWd (lkm g) xLet 4 b (g 8 0 11)).2) := by
  refine zc_of gX8_takesWord (fun av g hp => by obtain ⟨rfl, -⟩ := hp; exact Nat.le_of_ble_eq_true rfl) (fun Y av g hwf hrg hp hok => ?_)
  obtain ⟨rfl, hp⟩ := hp
  show ZVV _ _ _ 0 [ZR 8 0, ZI (b : Int), ZI 4, ZX 99] [] _
  refine zs_iconst (n := 0) rfl ⟨by omega, by omega⟩ ?_
  refine zs_istore_n (j := 3) (i := 3) rfl rfl (by decide) (by intro r x hr; have hr2 : r = 2 := (by omega); subst hr2; intro z; cases z) ?_
  show ZVV _ _ _ _ [ZR 8 0, ZI (b : Int), ZI 4, ZI 0] _ _
  have hx := l_X8_takesWord (Y := Y) (Q := fun r g' => r = some (ZI (if (xWd (lkm g) xLet 4 b (g 8 0 11)).1 = true then 1 else 0)) ∧ g' = zup g 8 0 11 (xWd (lkm g) xLet 4 b (g 8 0 11)).2) hp.2.2 hp.1 hp.2.1 4 0 (g 8 0 11) rfl hp.1.2.1 ⟨rfl, rfl⟩
  rw [zup_self] at hx
  exact hx

