def mbegin (g : ZG) (b : Int) : ZG := if 0 ≤ g 0 0 3 ∧ g 0 0 3 < 20 then zup (zup g 10 0 (g 0 0 3).toNat b) 0 0 3 (g 0 0 3 + 1) else zup g 0 0 3 (g 0 0 3 + 1)
def mlog (g : ZG) (l : List Int) : ZG := l.foldl mbegin g
theorem mbegin_nk (g : ZG) (b : Int) (i : Nat) {k : Nat} (h : k ≠ 3) : mbegin g b 0 i k = g 0 i k := by
  unfold mbegin; split
  · rw [zup_nk _ _ _ _ _ _ h, zup_nf _ _ _ _ (by decide)]
  · rw [zup_nk _ _ _ _ _ _ h]
theorem mbegin_nf (g : ZG) (b : Int) {f : Nat} (h0 : f ≠ 0) (h1 : f ≠ 10) : mbegin g b f = g f := by
  unfold mbegin; split
  · rw [zup_nf _ _ _ _ h0, zup_nf _ _ _ _ h1]
  · rw [zup_nf _ _ _ _ h0]
theorem mbegin_3 (g : ZG) (b : Int) : mbegin g b 0 0 3 = g 0 0 3 + 1 := by
  unfold mbegin; split <;> rw [zup_eq]
theorem mlog_nk (l : List Int) : ∀ (g : ZG) (i : Nat) {k : Nat} (h : k ≠ 3), mlog g l 0 i k = g 0 i k := by
  induction l with
  | nil => intro g i k h; rfl
  | cons b r ih => intro g i k h; exact (ih (mbegin g b) i h).trans (mbegin_nk g b i h)
theorem mlog_nf (l : List Int) : ∀ (g : ZG) {f : Nat} (h0 : f ≠ 0) (h1 : f ≠ 10), mlog g l f = g f := by
  induction l with
  | nil => intro g f h0 h1; rfl
  | cons b r ih => intro g f h0 h1; exact (ih (mbegin g b) h0 h1).trans (mbegin_nf g b h0 h1)
theorem mlog_3 (l : List Int) : ∀ (g : ZG), mlog g l 0 0 3 = g 0 0 3 + l.length := by
  induction l with
  | nil => intro g; show g 0 0 3 = g 0 0 3 + 0; omega
  | cons b r ih => intro g; rw [show mlog g (b :: r) = mlog (mbegin g b) r from rfl, ih, mbegin_3, List.length_cons]; omega
theorem mlog_app (g : ZG) (a b : List Int) : mlog (mlog g a) b = mlog g (a ++ b) := by unfold mlog; rw [List.foldl_append]
theorem mlog_cons (g : ZG) (a : Int) (b : List Int) : mlog (mbegin g a) b = mlog g (a :: b) := rfl
def aLooks (v who fr x : Int) : List Int × Int := if fr = 2 ∨ fr = 5 then ([30, 10], zw (zw (x * 3) + who)) else if fr = 4 then ([50, 10], zw (-(zw (x + who)))) else if fr = 6 then ([71, 10], zxor (zw (x + who)) v) else ([10], zw (x + who))
def aG0 (kd v who x : Int) : List Int × Int := (11 :: (aLooks v who kd x).1, zw ((aLooks v who kd x).2 - v))
def aG1 (kd v who x : Int) : List Int × Int := (20 :: (aG0 kd v who x).1, zxor (aG0 kd v who x).2 6)
def aGoes (kd v who fr x : Int) : List Int × Int := if fr = 1 then aG1 kd v who x else if fr = 4 then (51 :: (aG1 kd v who (zw (x + 1))).1, (aG1 kd v who (zw (x + 1))).2) else if fr = 6 then (70 :: ((aG0 kd v who x).1 ++ (aLooks v who 3 2).1), zw ((aG0 kd v who x).2 + (aLooks v who 3 2).2)) else aG0 kd v who x
def aT0 (kd v who x : Int) : List Int × Int := (12 :: (aGoes kd v who kd x).1, zw ((aGoes kd v who kd x).2 * 2))
def aTells (kd v who fr x : Int) : List Int × Int := if fr = 3 ∨ fr = 6 then (40 :: ((aT0 kd v who x).1 ++ (aGoes kd v who kd 1).1), zw ((aT0 kd v who x).2 + (aGoes kd v who kd 1).2)) else if fr = 5 then (60 :: (aT0 kd v who (zw (x - who))).1, (aT0 kd v who (zw (x - who))).2) else aT0 kd v who x
theorem aLooks_len (v who fr x : Int) : (aLooks v who fr x).1.length ≤ 2 := by unfold aLooks; split <;> (try split) <;> (try split) <;> simp
theorem aG0_len (kd v who x : Int) : (aG0 kd v who x).1.length ≤ 3 := by have := aLooks_len v who kd x; unfold aG0; simp; omega
theorem aG1_len (kd v who x : Int) : (aG1 kd v who x).1.length ≤ 4 := by have := aG0_len kd v who x; unfold aG1; simp; omega
theorem aGoes_len (kd v who fr x : Int) : (aGoes kd v who fr x).1.length ≤ 6 := by
  have h1 := aG0_len kd v who x; have h2 := aG1_len kd v who x; have h3 := aG1_len kd v who (zw (x + 1)); have h4 := aLooks_len v who 3 2
  unfold aGoes; split <;> (try split) <;> (try split) <;> simp <;> omega
theorem aT0_len (kd v who x : Int) : (aT0 kd v who x).1.length ≤ 7 := by have := aGoes_len kd v who kd x; unfold aT0; simp; omega
theorem c_X0_begin (b : Int) : ZC mX0_begin 1 (fun av g => av = [ZR 0 0, ZI b] ∧ (-1000 ≤ g 0 0 3 ∧ g 0 0 3 ≤ 1000)) (fun _ g r g' => r = none ∧ g' = mbegin g b) := by
  refine zc_of gX0_begin (fun av g hp => by obtain ⟨rfl, -⟩ := hp; exact Nat.le_of_ble_eq_true rfl) (fun Y av g hwf hrg hp hok => ?_)
  obtain ⟨rfl, hp⟩ := hp
  show ZVV _ _ _ 0 [ZR 0 0, ZI b] [] _
  refine zs_aload_n (j := 0) (i := 0) rfl rfl rfl ?_
  refine zs_getfield (f := 0) (k := 3) rfl rfl (trivial) ?_
  show ZVV _ _ _ _ _ (ZI (g 0 0 3) :: _) _
  refine zs_if_lt 26 rfl (by omega) (fun hc_4 => ?_) (fun hc_4 => ?_)
  · refine zs_aload_n (j := 0) (i := 0) rfl rfl rfl ?_
    refine zs_dup rfl (by intro x z; cases z) ?_
    refine zs_getfield (f := 0) (k := 3) rfl rfl (trivial) ?_
    show ZVV _ _ _ _ _ (ZI (g 0 0 3) :: _) _
    refine zs_iconst (n := 1) rfl ⟨by omega, by omega⟩ ?_
    refine zs_iadd_r rfl ⟨by omega, by omega⟩ ?_
    refine zs_putfield (f := 0) (k := 3) (x := (g 0 0 3) + 1) rfl rfl (rfl) ?_
    exact zs_return rfl rfl (⟨rfl, by unfold mbegin; rw [if_neg (by omega)]⟩)
  · refine zs_aload_n (j := 0) (i := 0) rfl rfl rfl ?_
    refine zs_getfield (f := 0) (k := 3) rfl rfl (trivial) ?_
    show ZVV _ _ _ _ _ (ZI (g 0 0 3) :: _) _
    refine zs_bipush (n := 20) rfl ⟨by omega, by omega⟩ ?_
    refine zs_icmp_ge 26 rfl (by omega) (fun hc_13 => ?_) (fun hc_13 => ?_)
    · refine zs_aload_n (j := 0) (i := 0) rfl rfl rfl ?_
      refine zs_dup rfl (by intro x z; cases z) ?_
      refine zs_getfield (f := 0) (k := 3) rfl rfl (trivial) ?_
      show ZVV _ _ _ _ _ (ZI (g 0 0 3) :: _) _
      refine zs_iconst (n := 1) rfl ⟨by omega, by omega⟩ ?_
      refine zs_iadd_r rfl ⟨by omega, by omega⟩ ?_
      refine zs_putfield (f := 0) (k := 3) (x := (g 0 0 3) + 1) rfl rfl (rfl) ?_
      exact zs_return rfl rfl (⟨rfl, by unfold mbegin; rw [if_neg (by omega)]⟩)
    · refine zs_aload_n (j := 0) (i := 0) rfl rfl rfl ?_
      refine zs_getfield (f := 0) (k := 4) rfl rfl (trivial) ?_
      show ZVV _ _ _ _ _ (ZR 10 0 :: _) _
      refine zs_aload_n (j := 0) (i := 0) rfl rfl rfl ?_
      refine zs_getfield (f := 0) (k := 3) rfl rfl (trivial) ?_
      show ZVV _ _ _ _ _ (ZI (g 0 0 3) :: _) _
      refine zs_iload_n (j := 1) (i := 1) rfl rfl rfl ?_
      refine zs_iast (n := 20) rfl rfl (by omega) (by omega) ?_
      refine zs_aload_n (j := 0) (i := 0) rfl rfl rfl ?_
      show ZVV _ _ _ 27 _ _ _
      refine zs_dup rfl (by intro x z; cases z) ?_
      refine zs_getfield (f := 0) (k := 3) rfl rfl (trivial) ?_
      show ZVV _ _ _ _ _ (ZI (g 0 0 3) :: _) _
      refine zs_iconst (n := 1) rfl ⟨by omega, by omega⟩ ?_
      refine zs_iadd_r rfl ⟨by omega, by omega⟩ ?_
      refine zs_putfield (f := 0) (k := 3) (x := (g 0 0 3) + 1) rfl rfl (rfl) ?_
      exact zs_return rfl rfl (⟨rfl, by unfold mbegin; rw [if_pos ⟨by omega, by omega⟩]⟩)

theorem c_X0_looks0 (kd v who fr x : Int) : ZC mX0_looks 2 (fun av g => av = [ZR 0 0, ZI fr, ZI x] ∧ (-100 ≤ g 0 0 3 ∧ g 0 0 3 ≤ 200) ∧ g 0 0 0 = kd ∧ g 0 0 1 = v ∧ g 0 0 2 = who ∧ (fr ≠ 2 ∧ fr ≠ 4 ∧ fr ≠ 5 ∧ fr ≠ 6)) (fun _ g r g' => r = some (ZI (aLooks v who fr x).2) ∧ g' = mlog g (aLooks v who fr x).1) := by
  refine zc_of gX0_looks (fun av g hp => by obtain ⟨rfl, -⟩ := hp; exact Nat.le_of_ble_eq_true rfl) (fun Y av g hwf hrg hp hok => ?_)
  obtain ⟨rfl, hp⟩ := hp
  show ZVV _ _ _ 0 [ZR 0 0, ZI fr, ZI x] [] _
  obtain ⟨hr3, hv0, hv1, hv2, hc⟩ := hp
  refine zs_iload_n (j := 1) (i := 1) rfl rfl rfl ?_
  by_cases hs_1_2 : fr = 2
  · exfalso; omega
  by_cases hs_1_3 : fr = 3
  · refine zs_tsIn 83 rfl (by omega) (by omega) (off := 82) (by rw [hs_1_3]; rfl) (by omega) ?_
    refine zs_aload_n (j := 0) (i := 0) rfl rfl rfl ?_
    refine zs_bipush (n := 10) rfl ⟨by omega, by omega⟩ ?_
    refine zs_callV (host := "") rfl kX0_19 vX0_begin (c_X0_begin 10) [ZI 10] [] rfl (zroom_of (by omega)) rfl (Nat.le_of_ble_eq_true rfl) ⟨rfl, by omega⟩ (fun r_86 g_86 hq_86 => ?_)
    obtain ⟨hr_86, hg_86⟩ := hq_86
    rw [hr_86, hg_86]
    have hb3 := mbegin_3 g 10
    have hb0 := mbegin_nk g 10 0 (show 0 ≠ 3 by decide)
    have hb1 := mbegin_nk g 10 0 (show 1 ≠ 3 by decide)
    have hb2 := mbegin_nk g 10 0 (show 2 ≠ 3 by decide)
    show ZVV _ _ _ 89 _ [] (mbegin g 10)
    refine zs_iload_n (j := 2) (i := 2) rfl rfl rfl ?_
    refine zs_aload_n (j := 0) (i := 0) rfl rfl rfl ?_
    refine zs_getfield (f := 0) (k := 2) rfl rfl (trivial) ?_
    show ZVV _ _ _ _ _ (ZI ((mbegin g 10) 0 0 2) :: _) _
    have hrd_94 : (mbegin g 10) 0 0 2 = who := by rw [hb2]; exact hv2
    rw [hrd_94]
    show ZVV _ _ _ _ _ (ZI who :: _) _
    refine zs_iadd rfl ?_
    show ZVV _ _ _ 95 _ _ _
    exact zs_ireturn rfl rfl (by unfold aLooks; rw [if_neg (by omega), if_neg (by omega), if_neg (by omega)]; exact ⟨rfl, rfl⟩)
  by_cases hs_1_4 : fr = 4
  · exfalso; omega
  by_cases hs_1_5 : fr = 5
  · exfalso; omega
  by_cases hs_1_6 : fr = 6
  · exfalso; omega
  refine zs_tsOut 83 rfl (by omega) (by omega) ?_
  refine zs_aload_n (j := 0) (i := 0) rfl rfl rfl ?_
  refine zs_bipush (n := 10) rfl ⟨by omega, by omega⟩ ?_
  refine zs_callV (host := "") rfl kX0_19 vX0_begin (c_X0_begin 10) [ZI 10] [] rfl (zroom_of (by omega)) rfl (Nat.le_of_ble_eq_true rfl) ⟨rfl, by omega⟩ (fun r_86 g_86 hq_86 => ?_)
  obtain ⟨hr_86, hg_86⟩ := hq_86
  rw [hr_86, hg_86]
  have hb3 := mbegin_3 g 10
  have hb0 := mbegin_nk g 10 0 (show 0 ≠ 3 by decide)
  have hb1 := mbegin_nk g 10 0 (show 1 ≠ 3 by decide)
  have hb2 := mbegin_nk g 10 0 (show 2 ≠ 3 by decide)
  show ZVV _ _ _ 89 _ [] (mbegin g 10)
  refine zs_iload_n (j := 2) (i := 2) rfl rfl rfl ?_
  refine zs_aload_n (j := 0) (i := 0) rfl rfl rfl ?_
  refine zs_getfield (f := 0) (k := 2) rfl rfl (trivial) ?_
  show ZVV _ _ _ _ _ (ZI ((mbegin g 10) 0 0 2) :: _) _
  have hrd_94 : (mbegin g 10) 0 0 2 = who := by rw [hb2]; exact hv2
  rw [hrd_94]
  show ZVV _ _ _ _ _ (ZI who :: _) _
  refine zs_iadd rfl ?_
  show ZVV _ _ _ 95 _ _ _
  exact zs_ireturn rfl rfl (by unfold aLooks; rw [if_neg (by omega), if_neg (by omega), if_neg (by omega)]; exact ⟨rfl, rfl⟩)

theorem c_X0_looks (kd v who fr x : Int) : ZC mX0_looks 3 (fun av g => av = [ZR 0 0, ZI fr, ZI x] ∧ (-100 ≤ g 0 0 3 ∧ g 0 0 3 ≤ 199) ∧ g 0 0 0 = kd ∧ g 0 0 1 = v ∧ g 0 0 2 = who) (fun _ g r g' => r = some (ZI (aLooks v who fr x).2) ∧ g' = mlog g (aLooks v who fr x).1) := by
  refine zc_of gX0_looks (fun av g hp => by obtain ⟨rfl, -⟩ := hp; exact Nat.le_of_ble_eq_true rfl) (fun Y av g hwf hrg hp hok => ?_)
  obtain ⟨rfl, hp⟩ := hp
  show ZVV _ _ _ 0 [ZR 0 0, ZI fr, ZI x] [] _
  obtain ⟨hr3, hv0, hv1, hv2⟩ := hp
  refine zs_iload_n (j := 1) (i := 1) rfl rfl rfl ?_
  by_cases hs_1_2 : fr = 2
  · refine zs_tsIn 36 rfl (by omega) (by omega) (off := 35) (by rw [hs_1_2]; rfl) (by omega) ?_
    refine zs_aload_n (j := 0) (i := 0) rfl rfl rfl ?_
    refine zs_bipush (n := 30) rfl ⟨by omega, by omega⟩ ?_
    refine zs_callV (host := "") rfl kX0_19 vX0_begin (c_X0_begin 30) [ZI 30] [] rfl (zroom_of (by omega)) rfl (Nat.le_of_ble_eq_true rfl) ⟨rfl, by omega⟩ (fun r_39 g_39 hq_39 => ?_)
    obtain ⟨hr_39, hg_39⟩ := hq_39
    rw [hr_39, hg_39]
    have hb3 := mbegin_3 g 30
    have hb0 := mbegin_nk g 30 0 (show 0 ≠ 3 by decide)
    have hb1 := mbegin_nk g 30 0 (show 1 ≠ 3 by decide)
    have hb2 := mbegin_nk g 30 0 (show 2 ≠ 3 by decide)
    show ZVV _ _ _ 42 _ [] (mbegin g 30)
    refine zs_aload_n (j := 0) (i := 0) rfl rfl rfl ?_
    refine zs_iconst (n := 0) rfl ⟨by omega, by omega⟩ ?_
    refine zs_iload_n (j := 2) (i := 2) rfl rfl rfl ?_
    refine zs_iconst (n := 3) rfl ⟨by omega, by omega⟩ ?_
    show ZVV _ _ _ 46 _ _ _
    refine zs_imul rfl ?_
    refine zs_callS (host := "") rfl kX0_23 sX0_looks (c_X0_looks0 kd v who 0 (zw (x * 3))) [ZR 0 0, ZI 0, ZI (zw (x * 3))] [] rfl (zroom_of (by omega)) rfl (Nat.le_of_ble_eq_true rfl) (⟨rfl, by omega, hb0.trans hv0, hb1.trans hv1, hb2.trans hv2, by decide⟩) (fun r_47 g_47 hq_47 => ?_)
    obtain ⟨hr_47, hg_47⟩ := hq_47
    rw [hr_47, hg_47, mlog_cons]
    show ZVV _ _ _ 50 _ [ZI ((aLooks v who 0 (zw (x * 3))).2)] _
    exact zs_ireturn rfl rfl (by have he : aLooks v who 0 (zw (x * 3)) = ([10], zw (zw (x * 3) + who)) := (by unfold aLooks; rw [if_neg (by decide), if_neg (by decide), if_neg (by decide)]); rw [he]; unfold aLooks; rw [if_pos (by omega)]; exact ⟨rfl, rfl⟩)
  by_cases hs_1_3 : fr = 3
  · refine zs_tsIn 83 rfl (by omega) (by omega) (off := 82) (by rw [hs_1_3]; rfl) (by omega) ?_
    refine zs_aload_n (j := 0) (i := 0) rfl rfl rfl ?_
    refine zs_bipush (n := 10) rfl ⟨by omega, by omega⟩ ?_
    refine zs_callV (host := "") rfl kX0_19 vX0_begin (c_X0_begin 10) [ZI 10] [] rfl (zroom_of (by omega)) rfl (Nat.le_of_ble_eq_true rfl) ⟨rfl, by omega⟩ (fun r_86 g_86 hq_86 => ?_)
    obtain ⟨hr_86, hg_86⟩ := hq_86
    rw [hr_86, hg_86]
    have hb3 := mbegin_3 g 10
    have hb0 := mbegin_nk g 10 0 (show 0 ≠ 3 by decide)
    have hb1 := mbegin_nk g 10 0 (show 1 ≠ 3 by decide)
    have hb2 := mbegin_nk g 10 0 (show 2 ≠ 3 by decide)
    show ZVV _ _ _ 89 _ [] (mbegin g 10)
    refine zs_iload_n (j := 2) (i := 2) rfl rfl rfl ?_
    refine zs_aload_n (j := 0) (i := 0) rfl rfl rfl ?_
    refine zs_getfield (f := 0) (k := 2) rfl rfl (trivial) ?_
    show ZVV _ _ _ _ _ (ZI ((mbegin g 10) 0 0 2) :: _) _
    have hrd_94 : (mbegin g 10) 0 0 2 = who := by rw [hb2]; exact hv2
    rw [hrd_94]
    show ZVV _ _ _ _ _ (ZI who :: _) _
    refine zs_iadd rfl ?_
    show ZVV _ _ _ 95 _ _ _
    exact zs_ireturn rfl rfl (by unfold aLooks; rw [if_neg (by omega), if_neg (by omega), if_neg (by omega)]; exact ⟨rfl, rfl⟩)
  by_cases hs_1_4 : fr = 4
  · refine zs_tsIn 51 rfl (by omega) (by omega) (off := 50) (by rw [hs_1_4]; rfl) (by omega) ?_
    refine zs_aload_n (j := 0) (i := 0) rfl rfl rfl ?_
    refine zs_bipush (n := 50) rfl ⟨by omega, by omega⟩ ?_
    refine zs_callV (host := "") rfl kX0_19 vX0_begin (c_X0_begin 50) [ZI 50] [] rfl (zroom_of (by omega)) rfl (Nat.le_of_ble_eq_true rfl) ⟨rfl, by omega⟩ (fun r_54 g_54 hq_54 => ?_)
    obtain ⟨hr_54, hg_54⟩ := hq_54
    rw [hr_54, hg_54]
    have hb3 := mbegin_3 g 50
    have hb0 := mbegin_nk g 50 0 (show 0 ≠ 3 by decide)
    have hb1 := mbegin_nk g 50 0 (show 1 ≠ 3 by decide)
    have hb2 := mbegin_nk g 50 0 (show 2 ≠ 3 by decide)
    show ZVV _ _ _ 57 _ [] (mbegin g 50)
    refine zs_aload_n (j := 0) (i := 0) rfl rfl rfl ?_
    refine zs_iconst (n := 1) rfl ⟨by omega, by omega⟩ ?_
    refine zs_iload_n (j := 2) (i := 2) rfl rfl rfl ?_
    refine zs_callS (host := "") rfl kX0_23 sX0_looks (c_X0_looks0 kd v who 1 x) [ZR 0 0, ZI 1, ZI x] [] rfl (zroom_of (by omega)) rfl (Nat.le_of_ble_eq_true rfl) (⟨rfl, by omega, hb0.trans hv0, hb1.trans hv1, hb2.trans hv2, by decide⟩) (fun r_60 g_60 hq_60 => ?_)
    obtain ⟨hr_60, hg_60⟩ := hq_60
    rw [hr_60, hg_60, mlog_cons]
    show ZVV _ _ _ 63 _ [ZI ((aLooks v who 1 x).2)] _
    show ZVV _ _ _ 63 _ _ _
    refine zs_ineg rfl ?_
    exact zs_ireturn rfl rfl (by have he : aLooks v who 1 x = ([10], zw (x + who)) := (by unfold aLooks; rw [if_neg (by decide), if_neg (by decide), if_neg (by decide)]); rw [he]; unfold aLooks; rw [if_neg (by omega), if_pos (by omega)]; exact ⟨rfl, rfl⟩)
  by_cases hs_1_5 : fr = 5
  · refine zs_tsIn 36 rfl (by omega) (by omega) (off := 35) (by rw [hs_1_5]; rfl) (by omega) ?_
    refine zs_aload_n (j := 0) (i := 0) rfl rfl rfl ?_
    refine zs_bipush (n := 30) rfl ⟨by omega, by omega⟩ ?_
    refine zs_callV (host := "") rfl kX0_19 vX0_begin (c_X0_begin 30) [ZI 30] [] rfl (zroom_of (by omega)) rfl (Nat.le_of_ble_eq_true rfl) ⟨rfl, by omega⟩ (fun r_39 g_39 hq_39 => ?_)
    obtain ⟨hr_39, hg_39⟩ := hq_39
    rw [hr_39, hg_39]
    have hb3 := mbegin_3 g 30
    have hb0 := mbegin_nk g 30 0 (show 0 ≠ 3 by decide)
    have hb1 := mbegin_nk g 30 0 (show 1 ≠ 3 by decide)
    have hb2 := mbegin_nk g 30 0 (show 2 ≠ 3 by decide)
    show ZVV _ _ _ 42 _ [] (mbegin g 30)
    refine zs_aload_n (j := 0) (i := 0) rfl rfl rfl ?_
    refine zs_iconst (n := 0) rfl ⟨by omega, by omega⟩ ?_
    refine zs_iload_n (j := 2) (i := 2) rfl rfl rfl ?_
    refine zs_iconst (n := 3) rfl ⟨by omega, by omega⟩ ?_
    show ZVV _ _ _ 46 _ _ _
    refine zs_imul rfl ?_
    refine zs_callS (host := "") rfl kX0_23 sX0_looks (c_X0_looks0 kd v who 0 (zw (x * 3))) [ZR 0 0, ZI 0, ZI (zw (x * 3))] [] rfl (zroom_of (by omega)) rfl (Nat.le_of_ble_eq_true rfl) (⟨rfl, by omega, hb0.trans hv0, hb1.trans hv1, hb2.trans hv2, by decide⟩) (fun r_47 g_47 hq_47 => ?_)
    obtain ⟨hr_47, hg_47⟩ := hq_47
    rw [hr_47, hg_47, mlog_cons]
    show ZVV _ _ _ 50 _ [ZI ((aLooks v who 0 (zw (x * 3))).2)] _
    exact zs_ireturn rfl rfl (by have he : aLooks v who 0 (zw (x * 3)) = ([10], zw (zw (x * 3) + who)) := (by unfold aLooks; rw [if_neg (by decide), if_neg (by decide), if_neg (by decide)]); rw [he]; unfold aLooks; rw [if_pos (by omega)]; exact ⟨rfl, rfl⟩)
  by_cases hs_1_6 : fr = 6
  · refine zs_tsIn 65 rfl (by omega) (by omega) (off := 64) (by rw [hs_1_6]; rfl) (by omega) ?_
    refine zs_aload_n (j := 0) (i := 0) rfl rfl rfl ?_
    refine zs_bipush (n := 71) rfl ⟨by omega, by omega⟩ ?_
    refine zs_callV (host := "") rfl kX0_19 vX0_begin (c_X0_begin 71) [ZI 71] [] rfl (zroom_of (by omega)) rfl (Nat.le_of_ble_eq_true rfl) ⟨rfl, by omega⟩ (fun r_68 g_68 hq_68 => ?_)
    obtain ⟨hr_68, hg_68⟩ := hq_68
    rw [hr_68, hg_68]
    have hb3 := mbegin_3 g 71
    have hb0 := mbegin_nk g 71 0 (show 0 ≠ 3 by decide)
    have hb1 := mbegin_nk g 71 0 (show 1 ≠ 3 by decide)
    have hb2 := mbegin_nk g 71 0 (show 2 ≠ 3 by decide)
    show ZVV _ _ _ 71 _ [] (mbegin g 71)
    refine zs_aload_n (j := 0) (i := 0) rfl rfl rfl ?_
    refine zs_iconst (n := 3) rfl ⟨by omega, by omega⟩ ?_
    refine zs_iload_n (j := 2) (i := 2) rfl rfl rfl ?_
    refine zs_callS (host := "") rfl kX0_23 sX0_looks (c_X0_looks0 kd v who 3 x) [ZR 0 0, ZI 3, ZI x] [] rfl (zroom_of (by omega)) rfl (Nat.le_of_ble_eq_true rfl) (⟨rfl, by omega, hb0.trans hv0, hb1.trans hv1, hb2.trans hv2, by decide⟩) (fun r_74 g_74 hq_74 => ?_)
    obtain ⟨hr_74, hg_74⟩ := hq_74
    rw [hr_74, hg_74, mlog_cons]
    show ZVV _ _ _ 77 _ [ZI ((aLooks v who 3 x).2)] _
    show ZVV _ _ _ 77 _ _ _
    refine zs_aload_n (j := 0) (i := 0) rfl rfl rfl ?_
    refine zs_getfield (f := 0) (k := 1) rfl rfl (trivial) ?_
    show ZVV _ _ _ _ _ (ZI ((mlog g (71 :: (aLooks v who 3 x).1)) 0 0 1) :: _) _
    have hrd_81 : (mlog g (71 :: (aLooks v who 3 x).1)) 0 0 1 = v := by rw [mlog_nk _ _ _ (by decide)]; exact hv1
    rw [hrd_81]
    show ZVV _ _ _ _ _ (ZI v :: _) _
    refine zs_ixor rfl ?_
    exact zs_ireturn rfl rfl (by have he : aLooks v who 3 x = ([10], zw (x + who)) := (by unfold aLooks; rw [if_neg (by decide), if_neg (by decide), if_neg (by decide)]); rw [he]; unfold aLooks; rw [if_neg (by omega), if_neg (by omega), if_pos (by omega)]; exact ⟨rfl, rfl⟩)
  refine zs_tsOut 83 rfl (by omega) (by omega) ?_
  refine zs_aload_n (j := 0) (i := 0) rfl rfl rfl ?_
  refine zs_bipush (n := 10) rfl ⟨by omega, by omega⟩ ?_
  refine zs_callV (host := "") rfl kX0_19 vX0_begin (c_X0_begin 10) [ZI 10] [] rfl (zroom_of (by omega)) rfl (Nat.le_of_ble_eq_true rfl) ⟨rfl, by omega⟩ (fun r_86 g_86 hq_86 => ?_)
  obtain ⟨hr_86, hg_86⟩ := hq_86
  rw [hr_86, hg_86]
  have hb3 := mbegin_3 g 10
  have hb0 := mbegin_nk g 10 0 (show 0 ≠ 3 by decide)
  have hb1 := mbegin_nk g 10 0 (show 1 ≠ 3 by decide)
  have hb2 := mbegin_nk g 10 0 (show 2 ≠ 3 by decide)
  show ZVV _ _ _ 89 _ [] (mbegin g 10)
  refine zs_iload_n (j := 2) (i := 2) rfl rfl rfl ?_
  refine zs_aload_n (j := 0) (i := 0) rfl rfl rfl ?_
  refine zs_getfield (f := 0) (k := 2) rfl rfl (trivial) ?_
  show ZVV _ _ _ _ _ (ZI ((mbegin g 10) 0 0 2) :: _) _
  have hrd_94 : (mbegin g 10) 0 0 2 = who := by rw [hb2]; exact hv2
  rw [hrd_94]
  show ZVV _ _ _ _ _ (ZI who :: _) _
  refine zs_iadd rfl ?_
  show ZVV _ _ _ 95 _ _ _
  exact zs_ireturn rfl rfl (by unfold aLooks; rw [if_neg (by omega), if_neg (by omega), if_neg (by omega)]; exact ⟨rfl, rfl⟩)

theorem c_X0_goes0 (kd v who fr x : Int) : ZC mX0_goes 4 (fun av g => av = [ZR 0 0, ZI fr, ZI x] ∧ (-100 ≤ g 0 0 3 ∧ g 0 0 3 ≤ 198) ∧ g 0 0 0 = kd ∧ g 0 0 1 = v ∧ g 0 0 2 = who ∧ (fr ≠ 1 ∧ fr ≠ 4 ∧ fr ≠ 6)) (fun _ g r g' => r = some (ZI (aG0 kd v who x).2) ∧ g' = mlog g (aG0 kd v who x).1) := by
  refine zc_of gX0_goes (fun av g hp => by obtain ⟨rfl, -⟩ := hp; exact Nat.le_of_ble_eq_true rfl) (fun Y av g hwf hrg hp hok => ?_)
  obtain ⟨rfl, hp⟩ := hp
  show ZVV _ _ _ 0 [ZR 0 0, ZI fr, ZI x, ZX 99] [] _
  obtain ⟨hr3, hv0, hv1, hv2, hc⟩ := hp
  refine zs_iload_n (j := 1) (i := 1) rfl rfl rfl ?_
  by_cases hs_1_1 : fr = 1
  · exfalso; omega
  by_cases hs_1_4 : fr = 4
  · exfalso; omega
  by_cases hs_1_6 : fr = 6
  · exfalso; omega
  refine zs_ls 89 rfl rfl (off := 88) (by rw [zs_off (by omega)]; rw [zs_off (by omega)]; rw [zs_off (by omega)]; rfl) (by omega) ?_
  refine zs_aload_n (j := 0) (i := 0) rfl rfl rfl ?_
  refine zs_bipush (n := 11) rfl ⟨by omega, by omega⟩ ?_
  refine zs_callV (host := "") rfl kX0_19 vX0_begin (c_X0_begin 11) [ZI 11] [] rfl (zroom_of (by omega)) rfl (Nat.le_of_ble_eq_true rfl) ⟨rfl, by omega⟩ (fun r_92 g_92 hq_92 => ?_)
  obtain ⟨hr_92, hg_92⟩ := hq_92
  rw [hr_92, hg_92]
  have hb3 := mbegin_3 g 11
  have hb0 := mbegin_nk g 11 0 (show 0 ≠ 3 by decide)
  have hb1 := mbegin_nk g 11 0 (show 1 ≠ 3 by decide)
  have hb2 := mbegin_nk g 11 0 (show 2 ≠ 3 by decide)
  show ZVV _ _ _ 95 _ [] (mbegin g 11)
  refine zs_aload_n (j := 0) (i := 0) rfl rfl rfl ?_
  refine zs_aload_n (j := 0) (i := 0) rfl rfl rfl ?_
  refine zs_getfield (f := 0) (k := 0) rfl rfl (trivial) ?_
  show ZVV _ _ _ _ _ (ZI ((mbegin g 11) 0 0 0) :: _) _
  have hrd_100 : (mbegin g 11) 0 0 0 = kd := by rw [hb0]; exact hv0
  rw [hrd_100]
  show ZVV _ _ _ _ _ (ZI kd :: _) _
  refine zs_iload_n (j := 2) (i := 2) rfl rfl rfl ?_
  show ZVV _ _ _ 101 _ _ _
  refine zs_callS (host := "") rfl kX0_23 sX0_looks (c_X0_looks kd v who kd x) [ZR 0 0, ZI kd, ZI x] [] rfl (zroom_of (by omega)) rfl (Nat.le_of_ble_eq_true rfl) (⟨rfl, by omega, hb0.trans hv0, hb1.trans hv1, hb2.trans hv2⟩) (fun r_101 g_101 hq_101 => ?_)
  obtain ⟨hr_101, hg_101⟩ := hq_101
  rw [hr_101, hg_101, mlog_cons]
  show ZVV _ _ _ 104 _ [ZI ((aLooks v who kd x).2)] _
  refine zs_aload_n (j := 0) (i := 0) rfl rfl rfl ?_
  refine zs_getfield (f := 0) (k := 1) rfl rfl (trivial) ?_
  show ZVV _ _ _ _ _ (ZI ((mlog g (11 :: (aLooks v who kd x).1)) 0 0 1) :: _) _
  have hrd_108 : (mlog g (11 :: (aLooks v who kd x).1)) 0 0 1 = v := by rw [mlog_nk _ _ _ (by decide)]; exact hv1
  rw [hrd_108]
  show ZVV _ _ _ _ _ (ZI v :: _) _
  refine zs_isub rfl ?_
  exact zs_ireturn rfl rfl (by unfold aG0; exact ⟨rfl, rfl⟩)

theorem c_X0_goes1 (kd v who fr x : Int) : ZC mX0_goes 5 (fun av g => av = [ZR 0 0, ZI fr, ZI x] ∧ (-100 ≤ g 0 0 3 ∧ g 0 0 3 ≤ 197) ∧ g 0 0 0 = kd ∧ g 0 0 1 = v ∧ g 0 0 2 = who ∧ fr = 1) (fun _ g r g' => r = some (ZI (aG1 kd v who x).2) ∧ g' = mlog g (aG1 kd v who x).1) := by
  refine zc_of gX0_goes (fun av g hp => by obtain ⟨rfl, -⟩ := hp; exact Nat.le_of_ble_eq_true rfl) (fun Y av g hwf hrg hp hok => ?_)
  obtain ⟨rfl, hp⟩ := hp
  show ZVV _ _ _ 0 [ZR 0 0, ZI fr, ZI x, ZX 99] [] _
  obtain ⟨hr3, hv0, hv1, hv2, hc⟩ := hp
  refine zs_iload_n (j := 1) (i := 1) rfl rfl rfl ?_
  by_cases hs_1_1 : fr = 1
  · refine zs_ls 36 rfl rfl (off := 35) (by rw [hs_1_1]; rfl) (by omega) ?_
    refine zs_aload_n (j := 0) (i := 0) rfl rfl rfl ?_
    refine zs_bipush (n := 20) rfl ⟨by omega, by omega⟩ ?_
    refine zs_callV (host := "") rfl kX0_19 vX0_begin (c_X0_begin 20) [ZI 20] [] rfl (zroom_of (by omega)) rfl (Nat.le_of_ble_eq_true rfl) ⟨rfl, by omega⟩ (fun r_39 g_39 hq_39 => ?_)
    obtain ⟨hr_39, hg_39⟩ := hq_39
    rw [hr_39, hg_39]
    have hb3 := mbegin_3 g 20
    have hb0 := mbegin_nk g 20 0 (show 0 ≠ 3 by decide)
    have hb1 := mbegin_nk g 20 0 (show 1 ≠ 3 by decide)
    have hb2 := mbegin_nk g 20 0 (show 2 ≠ 3 by decide)
    show ZVV _ _ _ 42 _ [] (mbegin g 20)
    refine zs_aload_n (j := 0) (i := 0) rfl rfl rfl ?_
    refine zs_iconst (n := 0) rfl ⟨by omega, by omega⟩ ?_
    refine zs_iload_n (j := 2) (i := 2) rfl rfl rfl ?_
    refine zs_callS (host := "") rfl kX0_33 sX0_goes (c_X0_goes0 kd v who 0 x) [ZR 0 0, ZI 0, ZI x] [] rfl (zroom_of (by omega)) rfl (Nat.le_of_ble_eq_true rfl) (⟨rfl, by omega, hb0.trans hv0, hb1.trans hv1, hb2.trans hv2, by decide⟩) (fun r_45 g_45 hq_45 => ?_)
    obtain ⟨hr_45, hg_45⟩ := hq_45
    rw [hr_45, hg_45, mlog_cons]
    show ZVV _ _ _ 48 _ [ZI ((aG0 kd v who x).2)] _
    show ZVV _ _ _ 48 _ _ _
    refine zs_bipush (n := 6) rfl ⟨by omega, by omega⟩ ?_
    refine zs_ixor rfl ?_
    exact zs_ireturn rfl rfl (by unfold aG1; exact ⟨rfl, rfl⟩)
  by_cases hs_1_4 : fr = 4
  · exfalso; omega
  by_cases hs_1_6 : fr = 6
  · exfalso; omega
  exfalso; omega

theorem c_X0_goes (kd v who fr x : Int) : ZC mX0_goes 6 (fun av g => av = [ZR 0 0, ZI fr, ZI x] ∧ (-100 ≤ g 0 0 3 ∧ g 0 0 3 ≤ 190) ∧ g 0 0 0 = kd ∧ g 0 0 1 = v ∧ g 0 0 2 = who) (fun _ g r g' => r = some (ZI (aGoes kd v who fr x).2) ∧ g' = mlog g (aGoes kd v who fr x).1) := by
  refine zc_of gX0_goes (fun av g hp => by obtain ⟨rfl, -⟩ := hp; exact Nat.le_of_ble_eq_true rfl) (fun Y av g hwf hrg hp hok => ?_)
  obtain ⟨rfl, hp⟩ := hp
  show ZVV _ _ _ 0 [ZR 0 0, ZI fr, ZI x, ZX 99] [] _
  obtain ⟨hr3, hv0, hv1, hv2⟩ := hp
  refine zs_iload_n (j := 1) (i := 1) rfl rfl rfl ?_
  by_cases hs_1_1 : fr = 1
  · refine zs_ls 36 rfl rfl (off := 35) (by rw [hs_1_1]; rfl) (by omega) ?_
    refine zs_aload_n (j := 0) (i := 0) rfl rfl rfl ?_
    refine zs_bipush (n := 20) rfl ⟨by omega, by omega⟩ ?_
    refine zs_callV (host := "") rfl kX0_19 vX0_begin (c_X0_begin 20) [ZI 20] [] rfl (zroom_of (by omega)) rfl (Nat.le_of_ble_eq_true rfl) ⟨rfl, by omega⟩ (fun r_39 g_39 hq_39 => ?_)
    obtain ⟨hr_39, hg_39⟩ := hq_39
    rw [hr_39, hg_39]
    have hb3 := mbegin_3 g 20
    have hb0 := mbegin_nk g 20 0 (show 0 ≠ 3 by decide)
    have hb1 := mbegin_nk g 20 0 (show 1 ≠ 3 by decide)
    have hb2 := mbegin_nk g 20 0 (show 2 ≠ 3 by decide)
    show ZVV _ _ _ 42 _ [] (mbegin g 20)
    refine zs_aload_n (j := 0) (i := 0) rfl rfl rfl ?_
    refine zs_iconst (n := 0) rfl ⟨by omega, by omega⟩ ?_
    refine zs_iload_n (j := 2) (i := 2) rfl rfl rfl ?_
    refine zs_callS (host := "") rfl kX0_33 sX0_goes (c_X0_goes0 kd v who 0 x) [ZR 0 0, ZI 0, ZI x] [] rfl (zroom_of (by omega)) rfl (Nat.le_of_ble_eq_true rfl) (⟨rfl, by omega, hb0.trans hv0, hb1.trans hv1, hb2.trans hv2, by decide⟩) (fun r_45 g_45 hq_45 => ?_)
    obtain ⟨hr_45, hg_45⟩ := hq_45
    rw [hr_45, hg_45, mlog_cons]
    show ZVV _ _ _ 48 _ [ZI ((aG0 kd v who x).2)] _
    show ZVV _ _ _ 48 _ _ _
    refine zs_bipush (n := 6) rfl ⟨by omega, by omega⟩ ?_
    refine zs_ixor rfl ?_
    exact zs_ireturn rfl rfl (by unfold aGoes; rw [if_pos (by omega)]; exact ⟨rfl, rfl⟩)
  by_cases hs_1_4 : fr = 4
  · refine zs_ls 52 rfl rfl (off := 51) (by rw [hs_1_4]; rfl) (by omega) ?_
    refine zs_aload_n (j := 0) (i := 0) rfl rfl rfl ?_
    refine zs_bipush (n := 51) rfl ⟨by omega, by omega⟩ ?_
    refine zs_callV (host := "") rfl kX0_19 vX0_begin (c_X0_begin 51) [ZI 51] [] rfl (zroom_of (by omega)) rfl (Nat.le_of_ble_eq_true rfl) ⟨rfl, by omega⟩ (fun r_55 g_55 hq_55 => ?_)
    obtain ⟨hr_55, hg_55⟩ := hq_55
    rw [hr_55, hg_55]
    have hb3 := mbegin_3 g 51
    have hb0 := mbegin_nk g 51 0 (show 0 ≠ 3 by decide)
    have hb1 := mbegin_nk g 51 0 (show 1 ≠ 3 by decide)
    have hb2 := mbegin_nk g 51 0 (show 2 ≠ 3 by decide)
    show ZVV _ _ _ 58 _ [] (mbegin g 51)
    refine zs_aload_n (j := 0) (i := 0) rfl rfl rfl ?_
    refine zs_iconst (n := 1) rfl ⟨by omega, by omega⟩ ?_
    refine zs_iload_n (j := 2) (i := 2) rfl rfl rfl ?_
    refine zs_iconst (n := 1) rfl ⟨by omega, by omega⟩ ?_
    show ZVV _ _ _ 62 _ _ _
    refine zs_iadd rfl ?_
    refine zs_callS (host := "") rfl kX0_33 sX0_goes (c_X0_goes1 kd v who 1 (zw (x + 1))) [ZR 0 0, ZI 1, ZI (zw (x + 1))] [] rfl (zroom_of (by omega)) rfl (Nat.le_of_ble_eq_true rfl) (⟨rfl, by omega, hb0.trans hv0, hb1.trans hv1, hb2.trans hv2, rfl⟩) (fun r_63 g_63 hq_63 => ?_)
    obtain ⟨hr_63, hg_63⟩ := hq_63
    rw [hr_63, hg_63, mlog_cons]
    show ZVV _ _ _ 66 _ [ZI ((aG1 kd v who (zw (x + 1))).2)] _
    exact zs_ireturn rfl rfl (by unfold aGoes; rw [if_neg (by omega), if_pos (by omega)]; exact ⟨rfl, rfl⟩)
  by_cases hs_1_6 : fr = 6
  · refine zs_ls 67 rfl rfl (off := 66) (by rw [hs_1_6]; rfl) (by omega) ?_
    refine zs_aload_n (j := 0) (i := 0) rfl rfl rfl ?_
    refine zs_bipush (n := 70) rfl ⟨by omega, by omega⟩ ?_
    refine zs_callV (host := "") rfl kX0_19 vX0_begin (c_X0_begin 70) [ZI 70] [] rfl (zroom_of (by omega)) rfl (Nat.le_of_ble_eq_true rfl) ⟨rfl, by omega⟩ (fun r_70 g_70 hq_70 => ?_)
    obtain ⟨hr_70, hg_70⟩ := hq_70
    rw [hr_70, hg_70]
    have hb3 := mbegin_3 g 70
    have hb0 := mbegin_nk g 70 0 (show 0 ≠ 3 by decide)
    have hb1 := mbegin_nk g 70 0 (show 1 ≠ 3 by decide)
    have hb2 := mbegin_nk g 70 0 (show 2 ≠ 3 by decide)
    show ZVV _ _ _ 73 _ [] (mbegin g 70)
    refine zs_aload_n (j := 0) (i := 0) rfl rfl rfl ?_
    refine zs_iconst (n := 3) rfl ⟨by omega, by omega⟩ ?_
    refine zs_iload_n (j := 2) (i := 2) rfl rfl rfl ?_
    refine zs_callS (host := "") rfl kX0_33 sX0_goes (c_X0_goes0 kd v who 3 x) [ZR 0 0, ZI 3, ZI x] [] rfl (zroom_of (by omega)) rfl (Nat.le_of_ble_eq_true rfl) (⟨rfl, by omega, hb0.trans hv0, hb1.trans hv1, hb2.trans hv2, by decide⟩) (fun r_76 g_76 hq_76 => ?_)
    obtain ⟨hr_76, hg_76⟩ := hq_76
    rw [hr_76, hg_76, mlog_cons]
    show ZVV _ _ _ 79 _ [ZI ((aG0 kd v who x).2)] _
    show ZVV _ _ _ 79 _ _ _
    refine zs_istore_n (j := 3) (i := 3) rfl rfl (by decide) (by intro r x hr; have hr2 : r = 2 := (by omega); subst hr2; intro z; cases z) ?_
    show ZVV _ _ _ _ [ZR 0 0, ZI fr, ZI x, ZI ((aG0 kd v who x).2)] _ _
    refine zs_iload_n (j := 3) (i := 3) rfl rfl rfl ?_
    refine zs_aload_n (j := 0) (i := 0) rfl rfl rfl ?_
    refine zs_iconst (n := 3) rfl ⟨by omega, by omega⟩ ?_
    refine zs_iconst (n := 2) rfl ⟨by omega, by omega⟩ ?_
    have hln := aG0_len kd v who x
    refine zs_callS (host := "") rfl kX0_23 sX0_looks (c_X0_looks kd v who 3 2) [ZR 0 0, ZI 3, ZI 2] [ZI ((aG0 kd v who x).2)] rfl (zroom_of (by omega)) rfl (Nat.le_of_ble_eq_true rfl) (⟨rfl, by rw [mlog_3]; simp only [List.length_cons]; omega, (mlog_nk _ _ _ (by decide)).trans hv0, (mlog_nk _ _ _ (by decide)).trans hv1, (mlog_nk _ _ _ (by decide)).trans hv2⟩) (fun r_84 g_84 hq_84 => ?_)
    obtain ⟨hr_84, hg_84⟩ := hq_84
    rw [hr_84, hg_84, mlog_app]
    show ZVV _ _ _ 87 _ [ZI ((aLooks v who 3 2).2), ZI ((aG0 kd v who x).2)] _
    refine zs_iadd rfl ?_
    exact zs_ireturn rfl rfl (by unfold aGoes; rw [if_neg (by omega), if_neg (by omega), if_pos (by omega)]; exact ⟨rfl, rfl⟩)
  refine zs_ls 89 rfl rfl (off := 88) (by rw [zs_off (by omega)]; rw [zs_off (by omega)]; rw [zs_off (by omega)]; rfl) (by omega) ?_
  refine zs_aload_n (j := 0) (i := 0) rfl rfl rfl ?_
  refine zs_bipush (n := 11) rfl ⟨by omega, by omega⟩ ?_
  refine zs_callV (host := "") rfl kX0_19 vX0_begin (c_X0_begin 11) [ZI 11] [] rfl (zroom_of (by omega)) rfl (Nat.le_of_ble_eq_true rfl) ⟨rfl, by omega⟩ (fun r_92 g_92 hq_92 => ?_)
  obtain ⟨hr_92, hg_92⟩ := hq_92
  rw [hr_92, hg_92]
  have hb3 := mbegin_3 g 11
  have hb0 := mbegin_nk g 11 0 (show 0 ≠ 3 by decide)
  have hb1 := mbegin_nk g 11 0 (show 1 ≠ 3 by decide)
  have hb2 := mbegin_nk g 11 0 (show 2 ≠ 3 by decide)
  show ZVV _ _ _ 95 _ [] (mbegin g 11)
  refine zs_aload_n (j := 0) (i := 0) rfl rfl rfl ?_
  refine zs_aload_n (j := 0) (i := 0) rfl rfl rfl ?_
  refine zs_getfield (f := 0) (k := 0) rfl rfl (trivial) ?_
  show ZVV _ _ _ _ _ (ZI ((mbegin g 11) 0 0 0) :: _) _
  have hrd_100 : (mbegin g 11) 0 0 0 = kd := by rw [hb0]; exact hv0
  rw [hrd_100]
  show ZVV _ _ _ _ _ (ZI kd :: _) _
  refine zs_iload_n (j := 2) (i := 2) rfl rfl rfl ?_
  show ZVV _ _ _ 101 _ _ _
  refine zs_callS (host := "") rfl kX0_23 sX0_looks (c_X0_looks kd v who kd x) [ZR 0 0, ZI kd, ZI x] [] rfl (zroom_of (by omega)) rfl (Nat.le_of_ble_eq_true rfl) (⟨rfl, by omega, hb0.trans hv0, hb1.trans hv1, hb2.trans hv2⟩) (fun r_101 g_101 hq_101 => ?_)
  obtain ⟨hr_101, hg_101⟩ := hq_101
  rw [hr_101, hg_101, mlog_cons]
  show ZVV _ _ _ 104 _ [ZI ((aLooks v who kd x).2)] _
  refine zs_aload_n (j := 0) (i := 0) rfl rfl rfl ?_
  refine zs_getfield (f := 0) (k := 1) rfl rfl (trivial) ?_
  show ZVV _ _ _ _ _ (ZI ((mlog g (11 :: (aLooks v who kd x).1)) 0 0 1) :: _) _
  have hrd_108 : (mlog g (11 :: (aLooks v who kd x).1)) 0 0 1 = v := by rw [mlog_nk _ _ _ (by decide)]; exact hv1
  rw [hrd_108]
  show ZVV _ _ _ _ _ (ZI v :: _) _
  refine zs_isub rfl ?_
  exact zs_ireturn rfl rfl (by unfold aGoes; rw [if_neg (by omega), if_neg (by omega), if_neg (by omega)]; exact ⟨rfl, rfl⟩)

theorem c_X0_tells0 (kd v who fr x : Int) : ZC mX0_tells 7 (fun av g => av = [ZR 0 0, ZI fr, ZI x] ∧ (-100 ≤ g 0 0 3 ∧ g 0 0 3 ≤ 180) ∧ g 0 0 0 = kd ∧ g 0 0 1 = v ∧ g 0 0 2 = who ∧ (fr ≠ 3 ∧ fr ≠ 5 ∧ fr ≠ 6)) (fun _ g r g' => r = some (ZI (aT0 kd v who x).2) ∧ g' = mlog g (aT0 kd v who x).1) := by
  refine zc_of gX0_tells (fun av g hp => by obtain ⟨rfl, -⟩ := hp; exact Nat.le_of_ble_eq_true rfl) (fun Y av g hwf hrg hp hok => ?_)
  obtain ⟨rfl, hp⟩ := hp
  show ZVV _ _ _ 0 [ZR 0 0, ZI fr, ZI x, ZX 99] [] _
  obtain ⟨hr3, hv0, hv1, hv2, hc⟩ := hp
  refine zs_iload_n (j := 1) (i := 1) rfl rfl rfl ?_
  by_cases hs_1_3 : fr = 3
  · exfalso; omega
  by_cases hs_1_4 : fr = 4
  · refine zs_tsIn 75 rfl (by omega) (by omega) (off := 74) (by rw [hs_1_4]; rfl) (by omega) ?_
    refine zs_aload_n (j := 0) (i := 0) rfl rfl rfl ?_
    refine zs_bipush (n := 12) rfl ⟨by omega, by omega⟩ ?_
    refine zs_callV (host := "") rfl kX0_19 vX0_begin (c_X0_begin 12) [ZI 12] [] rfl (zroom_of (by omega)) rfl (Nat.le_of_ble_eq_true rfl) ⟨rfl, by omega⟩ (fun r_78 g_78 hq_78 => ?_)
    obtain ⟨hr_78, hg_78⟩ := hq_78
    rw [hr_78, hg_78]
    have hb3 := mbegin_3 g 12
    have hb0 := mbegin_nk g 12 0 (show 0 ≠ 3 by decide)
    have hb1 := mbegin_nk g 12 0 (show 1 ≠ 3 by decide)
    have hb2 := mbegin_nk g 12 0 (show 2 ≠ 3 by decide)
    show ZVV _ _ _ 81 _ [] (mbegin g 12)
    refine zs_aload_n (j := 0) (i := 0) rfl rfl rfl ?_
    refine zs_aload_n (j := 0) (i := 0) rfl rfl rfl ?_
    refine zs_getfield (f := 0) (k := 0) rfl rfl (trivial) ?_
    show ZVV _ _ _ _ _ (ZI ((mbegin g 12) 0 0 0) :: _) _
    have hrd_86 : (mbegin g 12) 0 0 0 = kd := by rw [hb0]; exact hv0
    rw [hrd_86]
    show ZVV _ _ _ _ _ (ZI kd :: _) _
    refine zs_iload_n (j := 2) (i := 2) rfl rfl rfl ?_
    show ZVV _ _ _ 87 _ _ _
    refine zs_callS (host := "") rfl kX0_33 sX0_goes (c_X0_goes kd v who kd x) [ZR 0 0, ZI kd, ZI x] [] rfl (zroom_of (by omega)) rfl (Nat.le_of_ble_eq_true rfl) (⟨rfl, by omega, hb0.trans hv0, hb1.trans hv1, hb2.trans hv2⟩) (fun r_87 g_87 hq_87 => ?_)
    obtain ⟨hr_87, hg_87⟩ := hq_87
    rw [hr_87, hg_87, mlog_cons]
    show ZVV _ _ _ 90 _ [ZI ((aGoes kd v who kd x).2)] _
    refine zs_iconst (n := 2) rfl ⟨by omega, by omega⟩ ?_
    refine zs_imul rfl ?_
    exact zs_ireturn rfl rfl (by unfold aT0; exact ⟨rfl, rfl⟩)
  by_cases hs_1_5 : fr = 5
  · exfalso; omega
  by_cases hs_1_6 : fr = 6
  · exfalso; omega
  refine zs_tsOut 75 rfl (by omega) (by omega) ?_
  refine zs_aload_n (j := 0) (i := 0) rfl rfl rfl ?_
  refine zs_bipush (n := 12) rfl ⟨by omega, by omega⟩ ?_
  refine zs_callV (host := "") rfl kX0_19 vX0_begin (c_X0_begin 12) [ZI 12] [] rfl (zroom_of (by omega)) rfl (Nat.le_of_ble_eq_true rfl) ⟨rfl, by omega⟩ (fun r_78 g_78 hq_78 => ?_)
  obtain ⟨hr_78, hg_78⟩ := hq_78
  rw [hr_78, hg_78]
  have hb3 := mbegin_3 g 12
  have hb0 := mbegin_nk g 12 0 (show 0 ≠ 3 by decide)
  have hb1 := mbegin_nk g 12 0 (show 1 ≠ 3 by decide)
  have hb2 := mbegin_nk g 12 0 (show 2 ≠ 3 by decide)
  show ZVV _ _ _ 81 _ [] (mbegin g 12)
  refine zs_aload_n (j := 0) (i := 0) rfl rfl rfl ?_
  refine zs_aload_n (j := 0) (i := 0) rfl rfl rfl ?_
  refine zs_getfield (f := 0) (k := 0) rfl rfl (trivial) ?_
  show ZVV _ _ _ _ _ (ZI ((mbegin g 12) 0 0 0) :: _) _
  have hrd_86 : (mbegin g 12) 0 0 0 = kd := by rw [hb0]; exact hv0
  rw [hrd_86]
  show ZVV _ _ _ _ _ (ZI kd :: _) _
  refine zs_iload_n (j := 2) (i := 2) rfl rfl rfl ?_
  show ZVV _ _ _ 87 _ _ _
  refine zs_callS (host := "") rfl kX0_33 sX0_goes (c_X0_goes kd v who kd x) [ZR 0 0, ZI kd, ZI x] [] rfl (zroom_of (by omega)) rfl (Nat.le_of_ble_eq_true rfl) (⟨rfl, by omega, hb0.trans hv0, hb1.trans hv1, hb2.trans hv2⟩) (fun r_87 g_87 hq_87 => ?_)
  obtain ⟨hr_87, hg_87⟩ := hq_87
  rw [hr_87, hg_87, mlog_cons]
  show ZVV _ _ _ 90 _ [ZI ((aGoes kd v who kd x).2)] _
  refine zs_iconst (n := 2) rfl ⟨by omega, by omega⟩ ?_
  refine zs_imul rfl ?_
  exact zs_ireturn rfl rfl (by unfold aT0; exact ⟨rfl, rfl⟩)

theorem c_X0_tells (kd v who fr x : Int) : ZC mX0_tells 8 (fun av g => av = [ZR 0 0, ZI fr, ZI x] ∧ (-100 ≤ g 0 0 3 ∧ g 0 0 3 ≤ 100) ∧ g 0 0 0 = kd ∧ g 0 0 1 = v ∧ g 0 0 2 = who) (fun _ g r g' => r = some (ZI (aTells kd v who fr x).2) ∧ g' = mlog g (aTells kd v who fr x).1) := by
  refine zc_of gX0_tells (fun av g hp => by obtain ⟨rfl, -⟩ := hp; exact Nat.le_of_ble_eq_true rfl) (fun Y av g hwf hrg hp hok => ?_)
  obtain ⟨rfl, hp⟩ := hp
  show ZVV _ _ _ 0 [ZR 0 0, ZI fr, ZI x, ZX 99] [] _
  obtain ⟨hr3, hv0, hv1, hv2⟩ := hp
  refine zs_iload_n (j := 1) (i := 1) rfl rfl rfl ?_
  by_cases hs_1_3 : fr = 3
  · refine zs_tsIn 32 rfl (by omega) (by omega) (off := 31) (by rw [hs_1_3]; rfl) (by omega) ?_
    refine zs_aload_n (j := 0) (i := 0) rfl rfl rfl ?_
    refine zs_bipush (n := 40) rfl ⟨by omega, by omega⟩ ?_
    refine zs_callV (host := "") rfl kX0_19 vX0_begin (c_X0_begin 40) [ZI 40] [] rfl (zroom_of (by omega)) rfl (Nat.le_of_ble_eq_true rfl) ⟨rfl, by omega⟩ (fun r_35 g_35 hq_35 => ?_)
    obtain ⟨hr_35, hg_35⟩ := hq_35
    rw [hr_35, hg_35]
    have hb3 := mbegin_3 g 40
    have hb0 := mbegin_nk g 40 0 (show 0 ≠ 3 by decide)
    have hb1 := mbegin_nk g 40 0 (show 1 ≠ 3 by decide)
    have hb2 := mbegin_nk g 40 0 (show 2 ≠ 3 by decide)
    show ZVV _ _ _ 38 _ [] (mbegin g 40)
    refine zs_aload_n (j := 0) (i := 0) rfl rfl rfl ?_
    refine zs_iconst (n := 0) rfl ⟨by omega, by omega⟩ ?_
    refine zs_iload_n (j := 2) (i := 2) rfl rfl rfl ?_
    refine zs_callS (host := "") rfl kX0_39 sX0_tells (c_X0_tells0 kd v who 0 x) [ZR 0 0, ZI 0, ZI x] [] rfl (zroom_of (by omega)) rfl (Nat.le_of_ble_eq_true rfl) (⟨rfl, by omega, hb0.trans hv0, hb1.trans hv1, hb2.trans hv2, by decide⟩) (fun r_41 g_41 hq_41 => ?_)
    obtain ⟨hr_41, hg_41⟩ := hq_41
    rw [hr_41, hg_41, mlog_cons]
    show ZVV _ _ _ 44 _ [ZI ((aT0 kd v who x).2)] _
    show ZVV _ _ _ 44 _ _ _
    refine zs_istore_n (j := 3) (i := 3) rfl rfl (by decide) (by intro r x hr; have hr2 : r = 2 := (by omega); subst hr2; intro z; cases z) ?_
    show ZVV _ _ _ _ [ZR 0 0, ZI fr, ZI x, ZI ((aT0 kd v who x).2)] _ _
    refine zs_iload_n (j := 3) (i := 3) rfl rfl rfl ?_
    refine zs_aload_n (j := 0) (i := 0) rfl rfl rfl ?_
    refine zs_aload_n (j := 0) (i := 0) rfl rfl rfl ?_
    refine zs_getfield (f := 0) (k := 0) rfl rfl (trivial) ?_
    show ZVV _ _ _ _ _ (ZI ((mlog g (40 :: (aT0 kd v who x).1)) 0 0 0) :: _) _
    have hrd_51 : (mlog g (40 :: (aT0 kd v who x).1)) 0 0 0 = kd := by rw [mlog_nk _ _ _ (by decide)]; exact hv0
    rw [hrd_51]
    show ZVV _ _ _ _ _ (ZI kd :: _) _
    refine zs_iconst (n := 1) rfl ⟨by omega, by omega⟩ ?_
    have hln := aT0_len kd v who x
    refine zs_callS (host := "") rfl kX0_33 sX0_goes (c_X0_goes kd v who kd 1) [ZR 0 0, ZI kd, ZI 1] [ZI ((aT0 kd v who x).2)] rfl (zroom_of (by omega)) rfl (Nat.le_of_ble_eq_true rfl) (⟨rfl, by rw [mlog_3]; simp only [List.length_cons]; omega, (mlog_nk _ _ _ (by decide)).trans hv0, (mlog_nk _ _ _ (by decide)).trans hv1, (mlog_nk _ _ _ (by decide)).trans hv2⟩) (fun r_52 g_52 hq_52 => ?_)
    obtain ⟨hr_52, hg_52⟩ := hq_52
    rw [hr_52, hg_52, mlog_app]
    show ZVV _ _ _ 55 _ [ZI ((aGoes kd v who kd 1).2), ZI ((aT0 kd v who x).2)] _
    refine zs_iadd rfl ?_
    show ZVV _ _ _ 56 _ _ _
    exact zs_ireturn rfl rfl (by unfold aTells; rw [if_pos (by omega)]; exact ⟨rfl, rfl⟩)
  by_cases hs_1_4 : fr = 4
  · refine zs_tsIn 75 rfl (by omega) (by omega) (off := 74) (by rw [hs_1_4]; rfl) (by omega) ?_
    refine zs_aload_n (j := 0) (i := 0) rfl rfl rfl ?_
    refine zs_bipush (n := 12) rfl ⟨by omega, by omega⟩ ?_
    refine zs_callV (host := "") rfl kX0_19 vX0_begin (c_X0_begin 12) [ZI 12] [] rfl (zroom_of (by omega)) rfl (Nat.le_of_ble_eq_true rfl) ⟨rfl, by omega⟩ (fun r_78 g_78 hq_78 => ?_)
    obtain ⟨hr_78, hg_78⟩ := hq_78
    rw [hr_78, hg_78]
    have hb3 := mbegin_3 g 12
    have hb0 := mbegin_nk g 12 0 (show 0 ≠ 3 by decide)
    have hb1 := mbegin_nk g 12 0 (show 1 ≠ 3 by decide)
    have hb2 := mbegin_nk g 12 0 (show 2 ≠ 3 by decide)
    show ZVV _ _ _ 81 _ [] (mbegin g 12)
    refine zs_aload_n (j := 0) (i := 0) rfl rfl rfl ?_
    refine zs_aload_n (j := 0) (i := 0) rfl rfl rfl ?_
    refine zs_getfield (f := 0) (k := 0) rfl rfl (trivial) ?_
    show ZVV _ _ _ _ _ (ZI ((mbegin g 12) 0 0 0) :: _) _
    have hrd_86 : (mbegin g 12) 0 0 0 = kd := by rw [hb0]; exact hv0
    rw [hrd_86]
    show ZVV _ _ _ _ _ (ZI kd :: _) _
    refine zs_iload_n (j := 2) (i := 2) rfl rfl rfl ?_
    show ZVV _ _ _ 87 _ _ _
    refine zs_callS (host := "") rfl kX0_33 sX0_goes (c_X0_goes kd v who kd x) [ZR 0 0, ZI kd, ZI x] [] rfl (zroom_of (by omega)) rfl (Nat.le_of_ble_eq_true rfl) (⟨rfl, by omega, hb0.trans hv0, hb1.trans hv1, hb2.trans hv2⟩) (fun r_87 g_87 hq_87 => ?_)
    obtain ⟨hr_87, hg_87⟩ := hq_87
    rw [hr_87, hg_87, mlog_cons]
    show ZVV _ _ _ 90 _ [ZI ((aGoes kd v who kd x).2)] _
    refine zs_iconst (n := 2) rfl ⟨by omega, by omega⟩ ?_
    refine zs_imul rfl ?_
    exact zs_ireturn rfl rfl (by unfold aTells; rw [if_neg (by omega), if_neg (by omega)]; exact ⟨rfl, rfl⟩)
  by_cases hs_1_5 : fr = 5
  · refine zs_tsIn 57 rfl (by omega) (by omega) (off := 56) (by rw [hs_1_5]; rfl) (by omega) ?_
    refine zs_aload_n (j := 0) (i := 0) rfl rfl rfl ?_
    refine zs_bipush (n := 60) rfl ⟨by omega, by omega⟩ ?_
    refine zs_callV (host := "") rfl kX0_19 vX0_begin (c_X0_begin 60) [ZI 60] [] rfl (zroom_of (by omega)) rfl (Nat.le_of_ble_eq_true rfl) ⟨rfl, by omega⟩ (fun r_60 g_60 hq_60 => ?_)
    obtain ⟨hr_60, hg_60⟩ := hq_60
    rw [hr_60, hg_60]
    have hb3 := mbegin_3 g 60
    have hb0 := mbegin_nk g 60 0 (show 0 ≠ 3 by decide)
    have hb1 := mbegin_nk g 60 0 (show 1 ≠ 3 by decide)
    have hb2 := mbegin_nk g 60 0 (show 2 ≠ 3 by decide)
    show ZVV _ _ _ 63 _ [] (mbegin g 60)
    refine zs_aload_n (j := 0) (i := 0) rfl rfl rfl ?_
    refine zs_iconst (n := 2) rfl ⟨by omega, by omega⟩ ?_
    refine zs_iload_n (j := 2) (i := 2) rfl rfl rfl ?_
    refine zs_aload_n (j := 0) (i := 0) rfl rfl rfl ?_
    show ZVV _ _ _ 67 _ _ _
    refine zs_getfield (f := 0) (k := 2) rfl rfl (trivial) ?_
    show ZVV _ _ _ _ _ (ZI ((mbegin g 60) 0 0 2) :: _) _
    have hrd_70 : (mbegin g 60) 0 0 2 = who := by rw [hb2]; exact hv2
    rw [hrd_70]
    show ZVV _ _ _ _ _ (ZI who :: _) _
    refine zs_isub rfl ?_
    refine zs_callS (host := "") rfl kX0_39 sX0_tells (c_X0_tells0 kd v who 2 (zw (x - who))) [ZR 0 0, ZI 2, ZI (zw (x - who))] [] rfl (zroom_of (by omega)) rfl (Nat.le_of_ble_eq_true rfl) (⟨rfl, by omega, hb0.trans hv0, hb1.trans hv1, hb2.trans hv2, by decide⟩) (fun r_71 g_71 hq_71 => ?_)
    obtain ⟨hr_71, hg_71⟩ := hq_71
    rw [hr_71, hg_71, mlog_cons]
    show ZVV _ _ _ 74 _ [ZI ((aT0 kd v who (zw (x - who))).2)] _
    exact zs_ireturn rfl rfl (by unfold aTells; rw [if_neg (by omega), if_pos (by omega)]; exact ⟨rfl, rfl⟩)
  by_cases hs_1_6 : fr = 6
  · refine zs_tsIn 32 rfl (by omega) (by omega) (off := 31) (by rw [hs_1_6]; rfl) (by omega) ?_
    refine zs_aload_n (j := 0) (i := 0) rfl rfl rfl ?_
    refine zs_bipush (n := 40) rfl ⟨by omega, by omega⟩ ?_
    refine zs_callV (host := "") rfl kX0_19 vX0_begin (c_X0_begin 40) [ZI 40] [] rfl (zroom_of (by omega)) rfl (Nat.le_of_ble_eq_true rfl) ⟨rfl, by omega⟩ (fun r_35 g_35 hq_35 => ?_)
    obtain ⟨hr_35, hg_35⟩ := hq_35
    rw [hr_35, hg_35]
    have hb3 := mbegin_3 g 40
    have hb0 := mbegin_nk g 40 0 (show 0 ≠ 3 by decide)
    have hb1 := mbegin_nk g 40 0 (show 1 ≠ 3 by decide)
    have hb2 := mbegin_nk g 40 0 (show 2 ≠ 3 by decide)
    show ZVV _ _ _ 38 _ [] (mbegin g 40)
    refine zs_aload_n (j := 0) (i := 0) rfl rfl rfl ?_
    refine zs_iconst (n := 0) rfl ⟨by omega, by omega⟩ ?_
    refine zs_iload_n (j := 2) (i := 2) rfl rfl rfl ?_
    refine zs_callS (host := "") rfl kX0_39 sX0_tells (c_X0_tells0 kd v who 0 x) [ZR 0 0, ZI 0, ZI x] [] rfl (zroom_of (by omega)) rfl (Nat.le_of_ble_eq_true rfl) (⟨rfl, by omega, hb0.trans hv0, hb1.trans hv1, hb2.trans hv2, by decide⟩) (fun r_41 g_41 hq_41 => ?_)
    obtain ⟨hr_41, hg_41⟩ := hq_41
    rw [hr_41, hg_41, mlog_cons]
    show ZVV _ _ _ 44 _ [ZI ((aT0 kd v who x).2)] _
    show ZVV _ _ _ 44 _ _ _
    refine zs_istore_n (j := 3) (i := 3) rfl rfl (by decide) (by intro r x hr; have hr2 : r = 2 := (by omega); subst hr2; intro z; cases z) ?_
    show ZVV _ _ _ _ [ZR 0 0, ZI fr, ZI x, ZI ((aT0 kd v who x).2)] _ _
    refine zs_iload_n (j := 3) (i := 3) rfl rfl rfl ?_
    refine zs_aload_n (j := 0) (i := 0) rfl rfl rfl ?_
    refine zs_aload_n (j := 0) (i := 0) rfl rfl rfl ?_
    refine zs_getfield (f := 0) (k := 0) rfl rfl (trivial) ?_
    show ZVV _ _ _ _ _ (ZI ((mlog g (40 :: (aT0 kd v who x).1)) 0 0 0) :: _) _
    have hrd_51 : (mlog g (40 :: (aT0 kd v who x).1)) 0 0 0 = kd := by rw [mlog_nk _ _ _ (by decide)]; exact hv0
    rw [hrd_51]
    show ZVV _ _ _ _ _ (ZI kd :: _) _
    refine zs_iconst (n := 1) rfl ⟨by omega, by omega⟩ ?_
    have hln := aT0_len kd v who x
    refine zs_callS (host := "") rfl kX0_33 sX0_goes (c_X0_goes kd v who kd 1) [ZR 0 0, ZI kd, ZI 1] [ZI ((aT0 kd v who x).2)] rfl (zroom_of (by omega)) rfl (Nat.le_of_ble_eq_true rfl) (⟨rfl, by rw [mlog_3]; simp only [List.length_cons]; omega, (mlog_nk _ _ _ (by decide)).trans hv0, (mlog_nk _ _ _ (by decide)).trans hv1, (mlog_nk _ _ _ (by decide)).trans hv2⟩) (fun r_52 g_52 hq_52 => ?_)
    obtain ⟨hr_52, hg_52⟩ := hq_52
    rw [hr_52, hg_52, mlog_app]
    show ZVV _ _ _ 55 _ [ZI ((aGoes kd v who kd 1).2), ZI ((aT0 kd v who x).2)] _
    refine zs_iadd rfl ?_
    show ZVV _ _ _ 56 _ _ _
    exact zs_ireturn rfl rfl (by unfold aTells; rw [if_pos (by omega)]; exact ⟨rfl, rfl⟩)
  refine zs_tsOut 75 rfl (by omega) (by omega) ?_
  refine zs_aload_n (j := 0) (i := 0) rfl rfl rfl ?_
  refine zs_bipush (n := 12) rfl ⟨by omega, by omega⟩ ?_
  refine zs_callV (host := "") rfl kX0_19 vX0_begin (c_X0_begin 12) [ZI 12] [] rfl (zroom_of (by omega)) rfl (Nat.le_of_ble_eq_true rfl) ⟨rfl, by omega⟩ (fun r_78 g_78 hq_78 => ?_)
  obtain ⟨hr_78, hg_78⟩ := hq_78
  rw [hr_78, hg_78]
  have hb3 := mbegin_3 g 12
  have hb0 := mbegin_nk g 12 0 (show 0 ≠ 3 by decide)
  have hb1 := mbegin_nk g 12 0 (show 1 ≠ 3 by decide)
  have hb2 := mbegin_nk g 12 0 (show 2 ≠ 3 by decide)
  show ZVV _ _ _ 81 _ [] (mbegin g 12)
  refine zs_aload_n (j := 0) (i := 0) rfl rfl rfl ?_
  refine zs_aload_n (j := 0) (i := 0) rfl rfl rfl ?_
  refine zs_getfield (f := 0) (k := 0) rfl rfl (trivial) ?_
  show ZVV _ _ _ _ _ (ZI ((mbegin g 12) 0 0 0) :: _) _
  have hrd_86 : (mbegin g 12) 0 0 0 = kd := by rw [hb0]; exact hv0
  rw [hrd_86]
  show ZVV _ _ _ _ _ (ZI kd :: _) _
  refine zs_iload_n (j := 2) (i := 2) rfl rfl rfl ?_
  show ZVV _ _ _ 87 _ _ _
  refine zs_callS (host := "") rfl kX0_33 sX0_goes (c_X0_goes kd v who kd x) [ZR 0 0, ZI kd, ZI x] [] rfl (zroom_of (by omega)) rfl (Nat.le_of_ble_eq_true rfl) (⟨rfl, by omega, hb0.trans hv0, hb1.trans hv1, hb2.trans hv2⟩) (fun r_87 g_87 hq_87 => ?_)
  obtain ⟨hr_87, hg_87⟩ := hq_87
  rw [hr_87, hg_87, mlog_cons]
  show ZVV _ _ _ 90 _ [ZI ((aGoes kd v who kd x).2)] _
  refine zs_iconst (n := 2) rfl ⟨by omega, by omega⟩ ?_
  refine zs_imul rfl ?_
  exact zs_ireturn rfl rfl (by unfold aTells; rw [if_neg (by omega), if_neg (by omega)]; exact ⟨rfl, rfl⟩)

