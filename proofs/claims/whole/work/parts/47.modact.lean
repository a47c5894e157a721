def mbody (g : ZG) (b : Int) : ZG := if g 8 0 46 < 20 then zup (zup g 52 0 (g 8 0 46).toNat b) 8 0 46 (g 8 0 46 + 1) else zup g 8 0 46 (g 8 0 46 + 1)
def mlg (g : ZG) (l : List Int) : ZG := l.foldl mbody g
theorem mbody_nf (g : ZG) (b : Int) {f : Nat} (h0 : f ≠ 8) (h1 : f ≠ 52) : mbody g b f = g f := by
  unfold mbody; split
  · rw [zup_nf _ _ _ _ h0, zup_nf _ _ _ _ h1]
  · rw [zup_nf _ _ _ _ h0]
theorem mbody_nk (g : ZG) (b : Int) (i : Nat) {k : Nat} (h : k ≠ 46) : mbody g b 8 i k = g 8 i k := by
  unfold mbody; split
  · rw [zup_nk _ _ _ _ _ _ h, zup_nf _ _ _ _ (by decide)]
  · rw [zup_nk _ _ _ _ _ _ h]
theorem mbody_3 (g : ZG) (b : Int) : mbody g b 8 0 46 = g 8 0 46 + 1 := by
  unfold mbody; split <;> rw [zup_eq]
theorem mlg_nf (l : List Int) : ∀ (g : ZG) {f : Nat} (h0 : f ≠ 8) (h1 : f ≠ 52), mlg g l f = g f := by
  induction l with
  | nil => intro g f h0 h1; rfl
  | cons b r ih => intro g f h0 h1; exact (ih (mbody g b) h0 h1).trans (mbody_nf g b h0 h1)
theorem mlg_nk (l : List Int) : ∀ (g : ZG) (i : Nat) {k : Nat} (h : k ≠ 46), mlg g l 8 i k = g 8 i k := by
  induction l with
  | nil => intro g i k h; rfl
  | cons b r ih => intro g i k h; exact (ih (mbody g b) i h).trans (mbody_nk g b i h)
theorem mlg_3 (l : List Int) : ∀ (g : ZG), mlg g l 8 0 46 = g 8 0 46 + l.length := by
  induction l with
  | nil => intro g; show g 8 0 46 = g 8 0 46 + 0; omega
  | cons b r ih => intro g; rw [show mlg g (b :: r) = mlg (mbody g b) r from rfl, ih, mbody_3, List.length_cons]; omega
theorem mlg_app (g : ZG) (a b : List Int) : mlg (mlg g a) b = mlg g (a ++ b) := by unfold mlg; rw [List.foldl_append]
theorem aLooks_2 {v w kd x : Int} (h : kd = 2 ∨ kd = 5) : aLooks v w kd x = ([30, 10], zw (zw (x * 3) + w)) := if_pos h
theorem aLooks_4 {v w kd x : Int} (h : kd = 4) : aLooks v w kd x = ([50, 10], zw (-(zw (x + w)))) := (if_neg (show ¬ (kd = 2 ∨ kd = 5) by omega)).trans (if_pos h)
theorem aLooks_6 {v w kd x : Int} (h : kd = 6) : aLooks v w kd x = ([71, 10], zxor (zw (x + w)) v) := (if_neg (show ¬ (kd = 2 ∨ kd = 5) by omega)).trans ((if_neg (show ¬ (kd = 4) by omega)).trans (if_pos h))
theorem aLooks_e {v w kd x : Int} (h : kd ≠ 2 ∧ kd ≠ 4 ∧ kd ≠ 5 ∧ kd ≠ 6) : aLooks v w kd x = ([10], zw (x + w)) := (if_neg (show ¬ (kd = 2 ∨ kd = 5) by omega)).trans ((if_neg (show ¬ (kd = 4) by omega)).trans (if_neg h.2.2.2))
theorem aGoes_1 {v w kd x : Int} (h : kd = 1) : aGoes kd v w kd x = aG1 kd v w x := if_pos h
theorem aGoes_4 {v w kd x : Int} (h : kd = 4) : aGoes kd v w kd x = (51 :: (aG1 kd v w (zw (x + 1))).1, (aG1 kd v w (zw (x + 1))).2) := (if_neg (show ¬ (kd = 1) by omega)).trans (if_pos h)
theorem aGoes_6 {v w kd x : Int} (h : kd = 6) : aGoes kd v w kd x = (70 :: ((aG0 kd v w x).1 ++ (aLooks v w 3 2).1), zw ((aG0 kd v w x).2 + (aLooks v w 3 2).2)) := (if_neg (show ¬ (kd = 1) by omega)).trans ((if_neg (show ¬ (kd = 4) by omega)).trans (if_pos h))
theorem aGoes_e {v w kd x : Int} (h : kd ≠ 1 ∧ kd ≠ 4 ∧ kd ≠ 6) : aGoes kd v w kd x = aG0 kd v w x := (if_neg h.1).trans ((if_neg h.2.1).trans (if_neg h.2.2))
theorem aTells_3 {v w kd x : Int} (h : kd = 3 ∨ kd = 6) : aTells kd v w kd x = (40 :: ((aT0 kd v w x).1 ++ (aGoes kd v w kd 1).1), zw ((aT0 kd v w x).2 + (aGoes kd v w kd 1).2)) := if_pos h
theorem aTells_5 {v w kd x : Int} (h : kd = 5) : aTells kd v w kd x = (60 :: (aT0 kd v w (zw (x - w))).1, (aT0 kd v w (zw (x - w))).2) := (if_neg (show ¬ (kd = 3 ∨ kd = 6) by omega)).trans (if_pos h)
theorem aTells_e {v w kd x : Int} (h : kd ≠ 3 ∧ kd ≠ 5 ∧ kd ≠ 6) : aTells kd v w kd x = aT0 kd v w x := (if_neg (show ¬ (kd = 3 ∨ kd = 6) by omega)).trans (if_neg h.2.1)
def PREA (g : ZG) (kd v i : Int) (N : Nat) : Prop := (0 ≤ g 8 0 46 ∧ g 8 0 46 ≤ N) ∧ g 30 0 i.toNat = kd ∧ g 31 0 i.toNat = v ∧ (0 ≤ i ∧ i ≤ 5)
theorem PREA.log {g : ZG} {kd v i : Int} {N : Nat} (h : PREA g kd v i N) (l : List Int) {N1 : Nat} (hl : l.length + N ≤ N1) : PREA (mlg g l) kd v i N1 := by
  refine ⟨?_, ?_, ?_, h.2.2.2⟩
  · rw [mlg_3]; have := h.1; omega
  · rw [mlg_nf _ _ (by decide) (by decide)]; exact h.2.1
  · rw [mlg_nf _ _ (by decide) (by decide)]; exact h.2.2.1
theorem c_X8_body (b : Int) : ZC mX8_body 1 (fun av g => av = [ZR 8 0, ZI b] ∧ (0 ≤ g 8 0 46 ∧ g 8 0 46 ≤ 1000)) (fun _ g r g' => r = none ∧ g' = mbody g b) := by
  refine zc_of gX8_body (fun av g hp => by obtain ⟨rfl, -⟩ := hp; exact Nat.le_of_ble_eq_true rfl) (fun Y av g hwf hrg hp hok => ?_)
  obtain ⟨rfl, hp⟩ := hp
  show ZVV _ _ _ 0 [ZR 8 0, ZI b] [] _
  refine zs_aload_n (j := 0) (i := 0) rfl rfl rfl ?_
  refine zs_getfield (f := 8) (k := 46) rfl rfl (trivial) ?_
  show ZVV _ _ _ _ _ (ZI (g 8 0 46) :: _) _
  refine zs_bipush (n := 20) rfl ⟨by omega, by omega⟩ ?_
  refine zs_icmp_ge 19 rfl (by omega) (fun hc_6 => ?_) (fun hc_6 => ?_)
  · refine zs_aload_n (j := 0) (i := 0) rfl rfl rfl ?_
    refine zs_dup rfl (by intro x z; cases z) ?_
    refine zs_getfield (f := 8) (k := 46) rfl rfl (trivial) ?_
    show ZVV _ _ _ _ _ (ZI (g 8 0 46) :: _) _
    refine zs_iconst (n := 1) rfl ⟨by omega, by omega⟩ ?_
    refine zs_iadd_r rfl ⟨by omega, by omega⟩ ?_
    refine zs_putfield (f := 8) (k := 46) (x := (g 8 0 46) + 1) rfl rfl (rfl) ?_
    exact zs_return rfl rfl (⟨rfl, by unfold mbody; rw [if_neg (by omega)]⟩)
  · refine zs_aload_n (j := 0) (i := 0) rfl rfl rfl ?_
    refine zs_getfield (f := 8) (k := 47) rfl rfl (trivial) ?_
    show ZVV _ _ _ _ _ (ZR 52 0 :: _) _
    refine zs_aload_n (j := 0) (i := 0) rfl rfl rfl ?_
    refine zs_getfield (f := 8) (k := 46) rfl rfl (trivial) ?_
    show ZVV _ _ _ _ _ (ZI (g 8 0 46) :: _) _
    refine zs_iload_n (j := 1) (i := 1) rfl rfl rfl ?_
    refine zs_iast (n := 20) rfl rfl (by omega) (by omega) ?_
    refine zs_aload_n (j := 0) (i := 0) rfl rfl rfl ?_
    show ZVV _ _ _ 20 _ _ _
    refine zs_dup rfl (by intro x z; cases z) ?_
    refine zs_getfield (f := 8) (k := 46) rfl rfl (trivial) ?_
    show ZVV _ _ _ _ _ (ZI (g 8 0 46) :: _) _
    refine zs_iconst (n := 1) rfl ⟨by omega, by omega⟩ ?_
    refine zs_iadd_r rfl ⟨by omega, by omega⟩ ?_
    refine zs_putfield (f := 8) (k := 46) (x := (g 8 0 46) + 1) rfl rfl (rfl) ?_
    exact zs_return rfl rfl (⟨rfl, by unfold mbody; rw [if_pos (by omega)]⟩)

set_option maxHeartbeats 4000000 in
theorem c_X8_moverLooks (kd v i x : Int) : ZC mX8_moverLooks 2 (fun av g => av = [ZR 8 0, ZI i, ZI x] ∧ PREA g kd v i 990) (fun _ g r g' => r = some (ZI (aLooks v i 3 x).2) ∧ g' = mlg g (aLooks v i 3 x).1) := by
  refine zc_of gX8_moverLooks (fun av g hp => by obtain ⟨rfl, -⟩ := hp; exact Nat.le_of_ble_eq_true rfl) (fun Y av g hwf hrg hp hok => ?_)
  obtain ⟨rfl, hp⟩ := hp
  show ZVV _ _ _ 0 [ZR 8 0, ZI i, ZI x] [] _
  have hir := hp.2.2.2
  show ZVV _ _ _ 0 _ _ (mlg g [])
  refine zs_aload_n (j := 0) (i := 0) rfl rfl rfl ?_
  refine zs_bipush (n := 10) rfl ⟨by omega, by omega⟩ ?_
  refine zs_callV (host := "") rfl kX8_367 vX8_body (c_X8_body 10) [ZI 10] [] rfl (zroom_of (by omega)) rfl (Nat.le_of_ble_eq_true rfl) ⟨rfl, by have h9 := (hp.log [] (N1 := 1000) (by simp <;> omega)).1; omega⟩ (fun r_3 g_3 hq_3 => ?_)
  obtain ⟨hr_3, hg_3⟩ := hq_3
  rw [hr_3, hg_3, show mbody (mlg g []) 10 = mlg g ([10]) from by rfl]
  show ZVV _ _ _ 6 _ [] _
  refine zs_iload_n (j := 2) (i := 2) rfl rfl rfl ?_
  refine zs_iload_n (j := 1) (i := 1) rfl rfl rfl ?_
  refine zs_iadd rfl ?_
  exact zs_ireturn rfl rfl (⟨rfl, rfl⟩)

set_option maxHeartbeats 4000000 in
theorem c_X8_looksAct (kd v i x : Int) : ZC mX8_looksAct 3 (fun av g => av = [ZR 8 0, ZI i, ZI x] ∧ PREA g kd v i 980) (fun _ g r g' => r = some (ZI (aLooks v i kd x).2) ∧ g' = mlg g (aLooks v i kd x).1) := by
  refine zc_of gX8_looksAct (fun av g hp => by obtain ⟨rfl, -⟩ := hp; exact Nat.le_of_ble_eq_true rfl) (fun Y av g hwf hrg hp hok => ?_)
  obtain ⟨rfl, hp⟩ := hp
  show ZVV _ _ _ 0 [ZR 8 0, ZI i, ZI x] [] _
  have hir := hp.2.2.2
  show ZVV _ _ _ 0 _ _ (mlg g [])
  refine zs_aload_n (j := 0) (i := 0) rfl rfl rfl ?_
  refine zs_getfield (f := 8) (k := 4) rfl rfl (trivial) ?_
  show ZVV _ _ _ _ _ (ZR 30 0 :: _) _
  refine zs_iload_n (j := 1) (i := 1) rfl rfl rfl ?_
  refine zs_iald (n := 6) rfl rfl (by omega) (by omega) ?_
  rw [show (mlg g []) 30 0 i.toNat = kd from (congrFun (congrFun (mlg_nf _ _ (by decide) (by decide)) 0) _).trans hp.2.1]
  by_cases hs_6_2 : kd = 2
  · refine zs_tsIn 40 rfl (by omega) (by omega) (off := 34) (by rw [hs_6_2]; rfl) (by omega) ?_
    refine zs_aload_n (j := 0) (i := 0) rfl rfl rfl ?_
    refine zs_bipush (n := 30) rfl ⟨by omega, by omega⟩ ?_
    refine zs_callV (host := "") rfl kX8_367 vX8_body (c_X8_body 30) [ZI 30] [] rfl (zroom_of (by omega)) rfl (Nat.le_of_ble_eq_true rfl) ⟨rfl, by have h9 := (hp.log [] (N1 := 1000) (by simp <;> omega)).1; omega⟩ (fun r_43 g_43 hq_43 => ?_)
    obtain ⟨hr_43, hg_43⟩ := hq_43
    rw [hr_43, hg_43, show mbody (mlg g []) 30 = mlg g ([30]) from by rfl]
    show ZVV _ _ _ 46 _ [] _
    refine zs_aload_n (j := 0) (i := 0) rfl rfl rfl ?_
    refine zs_iload_n (j := 1) (i := 1) rfl rfl rfl ?_
    refine zs_iload_n (j := 2) (i := 2) rfl rfl rfl ?_
    refine zs_iconst (n := 3) rfl ⟨by omega, by omega⟩ ?_
    show ZVV _ _ _ 50 _ _ _
    refine zs_imul rfl ?_
    have hP_51 : PREA (mlg g ([30])) kd v i 990 := hp.log ([30]) (by simp <;> omega)
    refine zs_callV (host := "") rfl kX8_370 vX8_moverLooks (c_X8_moverLooks kd v i (zw (x * 3))) [ZI i, ZI (zw (x * 3))] [] rfl (zroom_of (by omega)) rfl (Nat.le_of_ble_eq_true rfl) ⟨rfl, hP_51⟩ (fun r_51 g_51 hq_51 => ?_)
    obtain ⟨hr_51, hg_51⟩ := hq_51
    rw [hr_51, hg_51, mlg_app]
    show ZVV _ _ _ 54 _ [ZI ((aLooks v i 3 (zw (x * 3))).2)] (mlg g (([30]) ++ (aLooks v i 3 (zw (x * 3))).1))
    exact zs_ireturn rfl rfl (⟨by rw [aLooks_2 (v := v) (w := i) (kd := kd) (x := x) (by omega)]; try rfl, by rw [aLooks_2 (v := v) (w := i) (kd := kd) (x := x) (by omega)]; try rfl⟩)
  by_cases hs_6_3 : kd = 3
  · refine zs_tsIn 89 rfl (by omega) (by omega) (off := 83) (by rw [hs_6_3]; rfl) (by omega) ?_
    refine zs_aload_n (j := 0) (i := 0) rfl rfl rfl ?_
    refine zs_iload_n (j := 1) (i := 1) rfl rfl rfl ?_
    refine zs_iload_n (j := 2) (i := 2) rfl rfl rfl ?_
    have hP_92 : PREA (mlg g []) kd v i 990 := hp.log [] (by simp <;> omega)
    refine zs_callV (host := "") rfl kX8_370 vX8_moverLooks (c_X8_moverLooks kd v i x) [ZI i, ZI x] [] rfl (zroom_of (by omega)) rfl (Nat.le_of_ble_eq_true rfl) ⟨rfl, hP_92⟩ (fun r_92 g_92 hq_92 => ?_)
    obtain ⟨hr_92, hg_92⟩ := hq_92
    rw [hr_92, hg_92]
    show ZVV _ _ _ 95 _ [ZI ((aLooks v i 3 x).2)] (mlg g ((aLooks v i 3 x).1))
    exact zs_ireturn rfl rfl (⟨by rw [aLooks_e (v := v) (w := i) (kd := kd) (x := x) (by omega)]; try rfl, by rw [aLooks_e (v := v) (w := i) (kd := kd) (x := x) (by omega)]; try rfl⟩)
  by_cases hs_6_4 : kd = 4
  · refine zs_tsIn 55 rfl (by omega) (by omega) (off := 49) (by rw [hs_6_4]; rfl) (by omega) ?_
    refine zs_aload_n (j := 0) (i := 0) rfl rfl rfl ?_
    refine zs_bipush (n := 50) rfl ⟨by omega, by omega⟩ ?_
    refine zs_callV (host := "") rfl kX8_367 vX8_body (c_X8_body 50) [ZI 50] [] rfl (zroom_of (by omega)) rfl (Nat.le_of_ble_eq_true rfl) ⟨rfl, by have h9 := (hp.log [] (N1 := 1000) (by simp <;> omega)).1; omega⟩ (fun r_58 g_58 hq_58 => ?_)
    obtain ⟨hr_58, hg_58⟩ := hq_58
    rw [hr_58, hg_58, show mbody (mlg g []) 50 = mlg g ([50]) from by rfl]
    show ZVV _ _ _ 61 _ [] _
    refine zs_aload_n (j := 0) (i := 0) rfl rfl rfl ?_
    refine zs_iload_n (j := 1) (i := 1) rfl rfl rfl ?_
    refine zs_iload_n (j := 2) (i := 2) rfl rfl rfl ?_
    have hP_64 : PREA (mlg g ([50])) kd v i 990 := hp.log ([50]) (by simp <;> omega)
    refine zs_callV (host := "") rfl kX8_370 vX8_moverLooks (c_X8_moverLooks kd v i x) [ZI i, ZI x] [] rfl (zroom_of (by omega)) rfl (Nat.le_of_ble_eq_true rfl) ⟨rfl, hP_64⟩ (fun r_64 g_64 hq_64 => ?_)
    obtain ⟨hr_64, hg_64⟩ := hq_64
    rw [hr_64, hg_64, mlg_app]
    show ZVV _ _ _ 67 _ [ZI ((aLooks v i 3 x).2)] (mlg g (([50]) ++ (aLooks v i 3 x).1))
    show ZVV _ _ _ 67 _ _ _
    refine zs_ineg rfl ?_
    exact zs_ireturn rfl rfl (⟨by rw [aLooks_4 (v := v) (w := i) (kd := kd) (x := x) (by omega)]; try rfl, by rw [aLooks_4 (v := v) (w := i) (kd := kd) (x := x) (by omega)]; try rfl⟩)
  by_cases hs_6_5 : kd = 5
  · refine zs_tsIn 40 rfl (by omega) (by omega) (off := 34) (by rw [hs_6_5]; rfl) (by omega) ?_
    refine zs_aload_n (j := 0) (i := 0) rfl rfl rfl ?_
    refine zs_bipush (n := 30) rfl ⟨by omega, by omega⟩ ?_
    refine zs_callV (host := "") rfl kX8_367 vX8_body (c_X8_body 30) [ZI 30] [] rfl (zroom_of (by omega)) rfl (Nat.le_of_ble_eq_true rfl) ⟨rfl, by have h9 := (hp.log [] (N1 := 1000) (by simp <;> omega)).1; omega⟩ (fun r_43 g_43 hq_43 => ?_)
    obtain ⟨hr_43, hg_43⟩ := hq_43
    rw [hr_43, hg_43, show mbody (mlg g []) 30 = mlg g ([30]) from by rfl]
    show ZVV _ _ _ 46 _ [] _
    refine zs_aload_n (j := 0) (i := 0) rfl rfl rfl ?_
    refine zs_iload_n (j := 1) (i := 1) rfl rfl rfl ?_
    refine zs_iload_n (j := 2) (i := 2) rfl rfl rfl ?_
    refine zs_iconst (n := 3) rfl ⟨by omega, by omega⟩ ?_
    show ZVV _ _ _ 50 _ _ _
    refine zs_imul rfl ?_
    have hP_51 : PREA (mlg g ([30])) kd v i 990 := hp.log ([30]) (by simp <;> omega)
    refine zs_callV (host := "") rfl kX8_370 vX8_moverLooks (c_X8_moverLooks kd v i (zw (x * 3))) [ZI i, ZI (zw (x * 3))] [] rfl (zroom_of (by omega)) rfl (Nat.le_of_ble_eq_true rfl) ⟨rfl, hP_51⟩ (fun r_51 g_51 hq_51 => ?_)
    obtain ⟨hr_51, hg_51⟩ := hq_51
    rw [hr_51, hg_51, mlg_app]
    show ZVV _ _ _ 54 _ [ZI ((aLooks v i 3 (zw (x * 3))).2)] (mlg g (([30]) ++ (aLooks v i 3 (zw (x * 3))).1))
    exact zs_ireturn rfl rfl (⟨by rw [aLooks_2 (v := v) (w := i) (kd := kd) (x := x) (by omega)]; try rfl, by rw [aLooks_2 (v := v) (w := i) (kd := kd) (x := x) (by omega)]; try rfl⟩)
  by_cases hs_6_6 : kd = 6
  · refine zs_tsIn 69 rfl (by omega) (by omega) (off := 63) (by rw [hs_6_6]; rfl) (by omega) ?_
    refine zs_aload_n (j := 0) (i := 0) rfl rfl rfl ?_
    refine zs_bipush (n := 71) rfl ⟨by omega, by omega⟩ ?_
    refine zs_callV (host := "") rfl kX8_367 vX8_body (c_X8_body 71) [ZI 71] [] rfl (zroom_of (by omega)) rfl (Nat.le_of_ble_eq_true rfl) ⟨rfl, by have h9 := (hp.log [] (N1 := 1000) (by simp <;> omega)).1; omega⟩ (fun r_72 g_72 hq_72 => ?_)
    obtain ⟨hr_72, hg_72⟩ := hq_72
    rw [hr_72, hg_72, show mbody (mlg g []) 71 = mlg g ([71]) from by rfl]
    show ZVV _ _ _ 75 _ [] _
    refine zs_aload_n (j := 0) (i := 0) rfl rfl rfl ?_
    refine zs_iload_n (j := 1) (i := 1) rfl rfl rfl ?_
    refine zs_iload_n (j := 2) (i := 2) rfl rfl rfl ?_
    have hP_78 : PREA (mlg g ([71])) kd v i 990 := hp.log ([71]) (by simp <;> omega)
    refine zs_callV (host := "") rfl kX8_370 vX8_moverLooks (c_X8_moverLooks kd v i x) [ZI i, ZI x] [] rfl (zroom_of (by omega)) rfl (Nat.le_of_ble_eq_true rfl) ⟨rfl, hP_78⟩ (fun r_78 g_78 hq_78 => ?_)
    obtain ⟨hr_78, hg_78⟩ := hq_78
    rw [hr_78, hg_78, mlg_app]
    show ZVV _ _ _ 81 _ [ZI ((aLooks v i 3 x).2)] (mlg g (([71]) ++ (aLooks v i 3 x).1))
    show ZVV _ _ _ 81 _ _ _
    refine zs_aload_n (j := 0) (i := 0) rfl rfl rfl ?_
    refine zs_getfield (f := 8) (k := 5) rfl rfl (trivial) ?_
    show ZVV _ _ _ _ _ (ZR 31 0 :: _) _
    refine zs_iload_n (j := 1) (i := 1) rfl rfl rfl ?_
    refine zs_iald (n := 6) rfl rfl (by omega) (by omega) ?_
    rw [show (mlg g (([71]) ++ (aLooks v i 3 x).1)) 31 0 i.toNat = v from (congrFun (congrFun (mlg_nf _ _ (by decide) (by decide)) 0) _).trans hp.2.2.1]
    refine zs_ixor rfl ?_
    exact zs_ireturn rfl rfl (⟨by rw [aLooks_6 (v := v) (w := i) (kd := kd) (x := x) (by omega)]; try rfl, by rw [aLooks_6 (v := v) (w := i) (kd := kd) (x := x) (by omega)]; try rfl⟩)
  refine zs_tsOut 89 rfl (by omega) (by omega) ?_
  refine zs_aload_n (j := 0) (i := 0) rfl rfl rfl ?_
  refine zs_iload_n (j := 1) (i := 1) rfl rfl rfl ?_
  refine zs_iload_n (j := 2) (i := 2) rfl rfl rfl ?_
  have hP_92 : PREA (mlg g []) kd v i 990 := hp.log [] (by simp <;> omega)
  refine zs_callV (host := "") rfl kX8_370 vX8_moverLooks (c_X8_moverLooks kd v i x) [ZI i, ZI x] [] rfl (zroom_of (by omega)) rfl (Nat.le_of_ble_eq_true rfl) ⟨rfl, hP_92⟩ (fun r_92 g_92 hq_92 => ?_)
  obtain ⟨hr_92, hg_92⟩ := hq_92
  rw [hr_92, hg_92]
  show ZVV _ _ _ 95 _ [ZI ((aLooks v i 3 x).2)] (mlg g ((aLooks v i 3 x).1))
  exact zs_ireturn rfl rfl (⟨by rw [aLooks_e (v := v) (w := i) (kd := kd) (x := x) (by omega)]; try rfl, by rw [aLooks_e (v := v) (w := i) (kd := kd) (x := x) (by omega)]; try rfl⟩)

set_option maxHeartbeats 4000000 in
theorem c_X8_moverGoes (kd v i x : Int) : ZC mX8_moverGoes 4 (fun av g => av = [ZR 8 0, ZI i, ZI x] ∧ PREA g kd v i 970) (fun _ g r g' => r = some (ZI (aG0 kd v i x).2) ∧ g' = mlg g (aG0 kd v i x).1) := by
  refine zc_of gX8_moverGoes (fun av g hp => by obtain ⟨rfl, -⟩ := hp; exact Nat.le_of_ble_eq_true rfl) (fun Y av g hwf hrg hp hok => ?_)
  obtain ⟨rfl, hp⟩ := hp
  show ZVV _ _ _ 0 [ZR 8 0, ZI i, ZI x] [] _
  have hir := hp.2.2.2
  show ZVV _ _ _ 0 _ _ (mlg g [])
  refine zs_aload_n (j := 0) (i := 0) rfl rfl rfl ?_
  refine zs_bipush (n := 11) rfl ⟨by omega, by omega⟩ ?_
  refine zs_callV (host := "") rfl kX8_367 vX8_body (c_X8_body 11) [ZI 11] [] rfl (zroom_of (by omega)) rfl (Nat.le_of_ble_eq_true rfl) ⟨rfl, by have h9 := (hp.log [] (N1 := 1000) (by simp <;> omega)).1; omega⟩ (fun r_3 g_3 hq_3 => ?_)
  obtain ⟨hr_3, hg_3⟩ := hq_3
  rw [hr_3, hg_3, show mbody (mlg g []) 11 = mlg g ([11]) from by rfl]
  show ZVV _ _ _ 6 _ [] _
  refine zs_aload_n (j := 0) (i := 0) rfl rfl rfl ?_
  refine zs_iload_n (j := 1) (i := 1) rfl rfl rfl ?_
  refine zs_iload_n (j := 2) (i := 2) rfl rfl rfl ?_
  have hP_9 : PREA (mlg g ([11])) kd v i 980 := hp.log ([11]) (by simp <;> omega)
  refine zs_callV (host := "") rfl kX8_373 vX8_looksAct (c_X8_looksAct kd v i x) [ZI i, ZI x] [] rfl (zroom_of (by omega)) rfl (Nat.le_of_ble_eq_true rfl) ⟨rfl, hP_9⟩ (fun r_9 g_9 hq_9 => ?_)
  obtain ⟨hr_9, hg_9⟩ := hq_9
  rw [hr_9, hg_9, mlg_app]
  show ZVV _ _ _ 12 _ [ZI ((aLooks v i kd x).2)] (mlg g (([11]) ++ (aLooks v i kd x).1))
  show ZVV _ _ _ 12 _ _ _
  refine zs_aload_n (j := 0) (i := 0) rfl rfl rfl ?_
  refine zs_getfield (f := 8) (k := 5) rfl rfl (trivial) ?_
  show ZVV _ _ _ _ _ (ZR 31 0 :: _) _
  refine zs_iload_n (j := 1) (i := 1) rfl rfl rfl ?_
  refine zs_iald (n := 6) rfl rfl (by omega) (by omega) ?_
  rw [show (mlg g (([11]) ++ (aLooks v i kd x).1)) 31 0 i.toNat = v from (congrFun (congrFun (mlg_nf _ _ (by decide) (by decide)) 0) _).trans hp.2.2.1]
  refine zs_isub rfl ?_
  exact zs_ireturn rfl rfl (⟨rfl, rfl⟩)

set_option maxHeartbeats 4000000 in
theorem c_X8_nearGoes (kd v i x : Int) : ZC mX8_nearGoes 5 (fun av g => av = [ZR 8 0, ZI i, ZI x] ∧ PREA g kd v i 960) (fun _ g r g' => r = some (ZI (aG1 kd v i x).2) ∧ g' = mlg g (aG1 kd v i x).1) := by
  refine zc_of gX8_nearGoes (fun av g hp => by obtain ⟨rfl, -⟩ := hp; exact Nat.le_of_ble_eq_true rfl) (fun Y av g hwf hrg hp hok => ?_)
  obtain ⟨rfl, hp⟩ := hp
  show ZVV _ _ _ 0 [ZR 8 0, ZI i, ZI x] [] _
  have hir := hp.2.2.2
  show ZVV _ _ _ 0 _ _ (mlg g [])
  refine zs_aload_n (j := 0) (i := 0) rfl rfl rfl ?_
  refine zs_bipush (n := 20) rfl ⟨by omega, by omega⟩ ?_
  refine zs_callV (host := "") rfl kX8_367 vX8_body (c_X8_body 20) [ZI 20] [] rfl (zroom_of (by omega)) rfl (Nat.le_of_ble_eq_true rfl) ⟨rfl, by have h9 := (hp.log [] (N1 := 1000) (by simp <;> omega)).1; omega⟩ (fun r_3 g_3 hq_3 => ?_)
  obtain ⟨hr_3, hg_3⟩ := hq_3
  rw [hr_3, hg_3, show mbody (mlg g []) 20 = mlg g ([20]) from by rfl]
  show ZVV _ _ _ 6 _ [] _
  refine zs_aload_n (j := 0) (i := 0) rfl rfl rfl ?_
  refine zs_iload_n (j := 1) (i := 1) rfl rfl rfl ?_
  refine zs_iload_n (j := 2) (i := 2) rfl rfl rfl ?_
  have hP_9 : PREA (mlg g ([20])) kd v i 970 := hp.log ([20]) (by simp <;> omega)
  refine zs_callV (host := "") rfl kX8_376 vX8_moverGoes (c_X8_moverGoes kd v i x) [ZI i, ZI x] [] rfl (zroom_of (by omega)) rfl (Nat.le_of_ble_eq_true rfl) ⟨rfl, hP_9⟩ (fun r_9 g_9 hq_9 => ?_)
  obtain ⟨hr_9, hg_9⟩ := hq_9
  rw [hr_9, hg_9, mlg_app]
  show ZVV _ _ _ 12 _ [ZI ((aG0 kd v i x).2)] (mlg g (([20]) ++ (aG0 kd v i x).1))
  show ZVV _ _ _ 12 _ _ _
  refine zs_bipush (n := 6) rfl ⟨by omega, by omega⟩ ?_
  refine zs_ixor rfl ?_
  exact zs_ireturn rfl rfl (⟨rfl, rfl⟩)

set_option maxHeartbeats 4000000 in
theorem c_X8_goesAct (kd v i x : Int) : ZC mX8_goesAct 6 (fun av g => av = [ZR 8 0, ZI i, ZI x] ∧ PREA g kd v i 950) (fun _ g r g' => r = some (ZI (aGoes kd v i kd x).2) ∧ g' = mlg g (aGoes kd v i kd x).1) := by
  refine zc_of gX8_goesAct (fun av g hp => by obtain ⟨rfl, -⟩ := hp; exact Nat.le_of_ble_eq_true rfl) (fun Y av g hwf hrg hp hok => ?_)
  obtain ⟨rfl, hp⟩ := hp
  show ZVV _ _ _ 0 [ZR 8 0, ZI i, ZI x, ZX 99] [] _
  have hir := hp.2.2.2
  show ZVV _ _ _ 0 _ _ (mlg g [])
  refine zs_aload_n (j := 0) (i := 0) rfl rfl rfl ?_
  refine zs_getfield (f := 8) (k := 4) rfl rfl (trivial) ?_
  show ZVV _ _ _ _ _ (ZR 30 0 :: _) _
  refine zs_iload_n (j := 1) (i := 1) rfl rfl rfl ?_
  refine zs_iald (n := 6) rfl rfl (by omega) (by omega) ?_
  rw [show (mlg g []) 30 0 i.toNat = kd from (congrFun (congrFun (mlg_nf _ _ (by decide) (by decide)) 0) _).trans hp.2.1]
  by_cases hs_6_1 : kd = 1
  · refine zs_ls 40 rfl rfl (off := 34) (by rw [hs_6_1]; rfl) (by omega) ?_
    refine zs_aload_n (j := 0) (i := 0) rfl rfl rfl ?_
    refine zs_iload_n (j := 1) (i := 1) rfl rfl rfl ?_
    refine zs_iload_n (j := 2) (i := 2) rfl rfl rfl ?_
    have hP_43 : PREA (mlg g []) kd v i 960 := hp.log [] (by simp <;> omega)
    refine zs_callV (host := "") rfl kX8_379 vX8_nearGoes (c_X8_nearGoes kd v i x) [ZI i, ZI x] [] rfl (zroom_of (by omega)) rfl (Nat.le_of_ble_eq_true rfl) ⟨rfl, hP_43⟩ (fun r_43 g_43 hq_43 => ?_)
    obtain ⟨hr_43, hg_43⟩ := hq_43
    rw [hr_43, hg_43]
    show ZVV _ _ _ 46 _ [ZI ((aG1 kd v i x).2)] (mlg g ((aG1 kd v i x).1))
    exact zs_ireturn rfl rfl (⟨by rw [aGoes_1 (v := v) (w := i) (kd := kd) (x := x) (by omega)]; try rfl, by rw [aGoes_1 (v := v) (w := i) (kd := kd) (x := x) (by omega)]; try rfl⟩)
  by_cases hs_6_4 : kd = 4
  · refine zs_ls 47 rfl rfl (off := 41) (by rw [hs_6_4]; rfl) (by omega) ?_
    refine zs_aload_n (j := 0) (i := 0) rfl rfl rfl ?_
    refine zs_bipush (n := 51) rfl ⟨by omega, by omega⟩ ?_
    refine zs_callV (host := "") rfl kX8_367 vX8_body (c_X8_body 51) [ZI 51] [] rfl (zroom_of (by omega)) rfl (Nat.le_of_ble_eq_true rfl) ⟨rfl, by have h9 := (hp.log [] (N1 := 1000) (by simp <;> omega)).1; omega⟩ (fun r_50 g_50 hq_50 => ?_)
    obtain ⟨hr_50, hg_50⟩ := hq_50
    rw [hr_50, hg_50, show mbody (mlg g []) 51 = mlg g ([51]) from by rfl]
    show ZVV _ _ _ 53 _ [] _
    refine zs_aload_n (j := 0) (i := 0) rfl rfl rfl ?_
    refine zs_iload_n (j := 1) (i := 1) rfl rfl rfl ?_
    refine zs_iload_n (j := 2) (i := 2) rfl rfl rfl ?_
    refine zs_iconst (n := 1) rfl ⟨by omega, by omega⟩ ?_
    show ZVV _ _ _ 57 _ _ _
    refine zs_iadd rfl ?_
    have hP_58 : PREA (mlg g ([51])) kd v i 960 := hp.log ([51]) (by simp <;> omega)
    refine zs_callV (host := "") rfl kX8_379 vX8_nearGoes (c_X8_nearGoes kd v i (zw (x + 1))) [ZI i, ZI (zw (x + 1))] [] rfl (zroom_of (by omega)) rfl (Nat.le_of_ble_eq_true rfl) ⟨rfl, hP_58⟩ (fun r_58 g_58 hq_58 => ?_)
    obtain ⟨hr_58, hg_58⟩ := hq_58
    rw [hr_58, hg_58, mlg_app]
    show ZVV _ _ _ 61 _ [ZI ((aG1 kd v i (zw (x + 1))).2)] (mlg g (([51]) ++ (aG1 kd v i (zw (x + 1))).1))
    exact zs_ireturn rfl rfl (⟨by rw [aGoes_4 (v := v) (w := i) (kd := kd) (x := x) (by omega)]; try rfl, by rw [aGoes_4 (v := v) (w := i) (kd := kd) (x := x) (by omega)]; try rfl⟩)
  by_cases hs_6_6 : kd = 6
  · refine zs_ls 62 rfl rfl (off := 56) (by rw [hs_6_6]; rfl) (by omega) ?_
    refine zs_aload_n (j := 0) (i := 0) rfl rfl rfl ?_
    refine zs_bipush (n := 70) rfl ⟨by omega, by omega⟩ ?_
    refine zs_callV (host := "") rfl kX8_367 vX8_body (c_X8_body 70) [ZI 70] [] rfl (zroom_of (by omega)) rfl (Nat.le_of_ble_eq_true rfl) ⟨rfl, by have h9 := (hp.log [] (N1 := 1000) (by simp <;> omega)).1; omega⟩ (fun r_65 g_65 hq_65 => ?_)
    obtain ⟨hr_65, hg_65⟩ := hq_65
    rw [hr_65, hg_65, show mbody (mlg g []) 70 = mlg g ([70]) from by rfl]
    show ZVV _ _ _ 68 _ [] _
    refine zs_aload_n (j := 0) (i := 0) rfl rfl rfl ?_
    refine zs_iload_n (j := 1) (i := 1) rfl rfl rfl ?_
    refine zs_iload_n (j := 2) (i := 2) rfl rfl rfl ?_
    have hP_71 : PREA (mlg g ([70])) kd v i 970 := hp.log ([70]) (by simp <;> omega)
    refine zs_callV (host := "") rfl kX8_376 vX8_moverGoes (c_X8_moverGoes kd v i x) [ZI i, ZI x] [] rfl (zroom_of (by omega)) rfl (Nat.le_of_ble_eq_true rfl) ⟨rfl, hP_71⟩ (fun r_71 g_71 hq_71 => ?_)
    obtain ⟨hr_71, hg_71⟩ := hq_71
    rw [hr_71, hg_71, mlg_app]
    show ZVV _ _ _ 74 _ [ZI ((aG0 kd v i x).2)] (mlg g (([70]) ++ (aG0 kd v i x).1))
    show ZVV _ _ _ 74 _ _ _
    refine zs_istore_n (j := 3) (i := 3) rfl rfl (by decide) (by intro r x hr; have hr2 : r = 2 := (by omega); subst hr2; intro z; cases z) ?_
    show ZVV _ _ _ _ [ZR 8 0, ZI i, ZI x, ZI ((aG0 kd v i x).2)] _ _
    refine zs_iload_n (j := 3) (i := 3) rfl rfl rfl ?_
    refine zs_aload_n (j := 0) (i := 0) rfl rfl rfl ?_
    refine zs_iload_n (j := 1) (i := 1) rfl rfl rfl ?_
    refine zs_iconst (n := 2) rfl ⟨by omega, by omega⟩ ?_
    have hP_79 : PREA (mlg g (([70]) ++ (aG0 kd v i x).1)) kd v i 990 := hp.log (([70]) ++ (aG0 kd v i x).1) (by have h8 := aG0_len kd v i x; simp <;> omega)
    refine zs_callV (host := "") rfl kX8_370 vX8_moverLooks (c_X8_moverLooks kd v i 2) [ZI i, ZI 2] [ZI ((aG0 kd v i x).2)] rfl (zroom_of (by omega)) rfl (Nat.le_of_ble_eq_true rfl) ⟨rfl, hP_79⟩ (fun r_79 g_79 hq_79 => ?_)
    obtain ⟨hr_79, hg_79⟩ := hq_79
    rw [hr_79, hg_79, mlg_app]
    show ZVV _ _ _ 82 _ [ZI ((aLooks v i 3 2).2), ZI ((aG0 kd v i x).2)] (mlg g ((([70]) ++ (aG0 kd v i x).1) ++ (aLooks v i 3 2).1))
    refine zs_iadd rfl ?_
    exact zs_ireturn rfl rfl (⟨by rw [aGoes_6 (v := v) (w := i) (kd := kd) (x := x) (by omega)]; try rfl, by rw [aGoes_6 (v := v) (w := i) (kd := kd) (x := x) (by omega)]; try rfl⟩)
  refine zs_ls 84 rfl rfl (off := 78) (by rw [zs_off (by omega)]; rw [zs_off (by omega)]; rw [zs_off (by omega)]; rfl) (by omega) ?_
  refine zs_aload_n (j := 0) (i := 0) rfl rfl rfl ?_
  refine zs_iload_n (j := 1) (i := 1) rfl rfl rfl ?_
  refine zs_iload_n (j := 2) (i := 2) rfl rfl rfl ?_
  have hP_87 : PREA (mlg g []) kd v i 970 := hp.log [] (by simp <;> omega)
  refine zs_callV (host := "") rfl kX8_376 vX8_moverGoes (c_X8_moverGoes kd v i x) [ZI i, ZI x] [] rfl (zroom_of (by omega)) rfl (Nat.le_of_ble_eq_true rfl) ⟨rfl, hP_87⟩ (fun r_87 g_87 hq_87 => ?_)
  obtain ⟨hr_87, hg_87⟩ := hq_87
  rw [hr_87, hg_87]
  show ZVV _ _ _ 90 _ [ZI ((aG0 kd v i x).2)] (mlg g ((aG0 kd v i x).1))
  exact zs_ireturn rfl rfl (⟨by rw [aGoes_e (v := v) (w := i) (kd := kd) (x := x) (by omega)]; try rfl, by rw [aGoes_e (v := v) (w := i) (kd := kd) (x := x) (by omega)]; try rfl⟩)

set_option maxHeartbeats 4000000 in
theorem c_X8_moverTells (kd v i x : Int) : ZC mX8_moverTells 7 (fun av g => av = [ZR 8 0, ZI i, ZI x] ∧ PREA g kd v i 940) (fun _ g r g' => r = some (ZI (aT0 kd v i x).2) ∧ g' = mlg g (aT0 kd v i x).1) := by
  refine zc_of gX8_moverTells (fun av g hp => by obtain ⟨rfl, -⟩ := hp; exact Nat.le_of_ble_eq_true rfl) (fun Y av g hwf hrg hp hok => ?_)
  obtain ⟨rfl, hp⟩ := hp
  show ZVV _ _ _ 0 [ZR 8 0, ZI i, ZI x] [] _
  have hir := hp.2.2.2
  show ZVV _ _ _ 0 _ _ (mlg g [])
  refine zs_aload_n (j := 0) (i := 0) rfl rfl rfl ?_
  refine zs_bipush (n := 12) rfl ⟨by omega, by omega⟩ ?_
  refine zs_callV (host := "") rfl kX8_367 vX8_body (c_X8_body 12) [ZI 12] [] rfl (zroom_of (by omega)) rfl (Nat.le_of_ble_eq_true rfl) ⟨rfl, by have h9 := (hp.log [] (N1 := 1000) (by simp <;> omega)).1; omega⟩ (fun r_3 g_3 hq_3 => ?_)
  obtain ⟨hr_3, hg_3⟩ := hq_3
  rw [hr_3, hg_3, show mbody (mlg g []) 12 = mlg g ([12]) from by rfl]
  show ZVV _ _ _ 6 _ [] _
  refine zs_aload_n (j := 0) (i := 0) rfl rfl rfl ?_
  refine zs_iload_n (j := 1) (i := 1) rfl rfl rfl ?_
  refine zs_iload_n (j := 2) (i := 2) rfl rfl rfl ?_
  have hP_9 : PREA (mlg g ([12])) kd v i 950 := hp.log ([12]) (by simp <;> omega)
  refine zs_callV (host := "") rfl kX8_382 vX8_goesAct (c_X8_goesAct kd v i x) [ZI i, ZI x] [] rfl (zroom_of (by omega)) rfl (Nat.le_of_ble_eq_true rfl) ⟨rfl, hP_9⟩ (fun r_9 g_9 hq_9 => ?_)
  obtain ⟨hr_9, hg_9⟩ := hq_9
  rw [hr_9, hg_9, mlg_app]
  show ZVV _ _ _ 12 _ [ZI ((aGoes kd v i kd x).2)] (mlg g (([12]) ++ (aGoes kd v i kd x).1))
  show ZVV _ _ _ 12 _ _ _
  refine zs_iconst (n := 2) rfl ⟨by omega, by omega⟩ ?_
  refine zs_imul rfl ?_
  exact zs_ireturn rfl rfl (⟨rfl, rfl⟩)

set_option maxHeartbeats 4000000 in
theorem c_X8_tellsAct (kd v i x : Int) : ZC mX8_tellsAct 8 (fun av g => av = [ZR 8 0, ZI i, ZI x] ∧ PREA g kd v i 900) (fun _ g r g' => r = some (ZI (aTells kd v i kd x).2) ∧ g' = mlg g (aTells kd v i kd x).1) := by
  refine zc_of gX8_tellsAct (fun av g hp => by obtain ⟨rfl, -⟩ := hp; exact Nat.le_of_ble_eq_true rfl) (fun Y av g hwf hrg hp hok => ?_)
  obtain ⟨rfl, hp⟩ := hp
  show ZVV _ _ _ 0 [ZR 8 0, ZI i, ZI x, ZX 99] [] _
  have hir := hp.2.2.2
  show ZVV _ _ _ 0 _ _ (mlg g [])
  refine zs_aload_n (j := 0) (i := 0) rfl rfl rfl ?_
  refine zs_getfield (f := 8) (k := 4) rfl rfl (trivial) ?_
  show ZVV _ _ _ _ _ (ZR 30 0 :: _) _
  refine zs_iload_n (j := 1) (i := 1) rfl rfl rfl ?_
  refine zs_iald (n := 6) rfl rfl (by omega) (by omega) ?_
  rw [show (mlg g []) 30 0 i.toNat = kd from (congrFun (congrFun (mlg_nf _ _ (by decide) (by decide)) 0) _).trans hp.2.1]
  by_cases hs_6_3 : kd = 3
  · refine zs_tsIn 36 rfl (by omega) (by omega) (off := 30) (by rw [hs_6_3]; rfl) (by omega) ?_
    refine zs_aload_n (j := 0) (i := 0) rfl rfl rfl ?_
    refine zs_bipush (n := 40) rfl ⟨by omega, by omega⟩ ?_
    refine zs_callV (host := "") rfl kX8_367 vX8_body (c_X8_body 40) [ZI 40] [] rfl (zroom_of (by omega)) rfl (Nat.le_of_ble_eq_true rfl) ⟨rfl, by have h9 := (hp.log [] (N1 := 1000) (by simp <;> omega)).1; omega⟩ (fun r_39 g_39 hq_39 => ?_)
    obtain ⟨hr_39, hg_39⟩ := hq_39
    rw [hr_39, hg_39, show mbody (mlg g []) 40 = mlg g ([40]) from by rfl]
    show ZVV _ _ _ 42 _ [] _
    refine zs_aload_n (j := 0) (i := 0) rfl rfl rfl ?_
    refine zs_iload_n (j := 1) (i := 1) rfl rfl rfl ?_
    refine zs_iload_n (j := 2) (i := 2) rfl rfl rfl ?_
    have hP_45 : PREA (mlg g ([40])) kd v i 940 := hp.log ([40]) (by simp <;> omega)
    refine zs_callV (host := "") rfl kX8_385 vX8_moverTells (c_X8_moverTells kd v i x) [ZI i, ZI x] [] rfl (zroom_of (by omega)) rfl (Nat.le_of_ble_eq_true rfl) ⟨rfl, hP_45⟩ (fun r_45 g_45 hq_45 => ?_)
    obtain ⟨hr_45, hg_45⟩ := hq_45
    rw [hr_45, hg_45, mlg_app]
    show ZVV _ _ _ 48 _ [ZI ((aT0 kd v i x).2)] (mlg g (([40]) ++ (aT0 kd v i x).1))
    show ZVV _ _ _ 48 _ _ _
    refine zs_istore_n (j := 3) (i := 3) rfl rfl (by decide) (by intro r x hr; have hr2 : r = 2 := (by omega); subst hr2; intro z; cases z) ?_
    show ZVV _ _ _ _ [ZR 8 0, ZI i, ZI x, ZI ((aT0 kd v i x).2)] _ _
    refine zs_iload_n (j := 3) (i := 3) rfl rfl rfl ?_
    refine zs_aload_n (j := 0) (i := 0) rfl rfl rfl ?_
    refine zs_iload_n (j := 1) (i := 1) rfl rfl rfl ?_
    refine zs_iconst (n := 1) rfl ⟨by omega, by omega⟩ ?_
    have hP_53 : PREA (mlg g (([40]) ++ (aT0 kd v i x).1)) kd v i 950 := hp.log (([40]) ++ (aT0 kd v i x).1) (by have h8 := aT0_len kd v i x; simp <;> omega)
    refine zs_callV (host := "") rfl kX8_382 vX8_goesAct (c_X8_goesAct kd v i 1) [ZI i, ZI 1] [ZI ((aT0 kd v i x).2)] rfl (zroom_of (by omega)) rfl (Nat.le_of_ble_eq_true rfl) ⟨rfl, hP_53⟩ (fun r_53 g_53 hq_53 => ?_)
    obtain ⟨hr_53, hg_53⟩ := hq_53
    rw [hr_53, hg_53, mlg_app]
    show ZVV _ _ _ 56 _ [ZI ((aGoes kd v i kd 1).2), ZI ((aT0 kd v i x).2)] (mlg g ((([40]) ++ (aT0 kd v i x).1) ++ (aGoes kd v i kd 1).1))
    refine zs_iadd rfl ?_
    exact zs_ireturn rfl rfl (⟨by rw [aTells_3 (v := v) (w := i) (kd := kd) (x := x) (by omega)]; try rfl, by rw [aTells_3 (v := v) (w := i) (kd := kd) (x := x) (by omega)]; try rfl⟩)
  by_cases hs_6_4 : kd = 4
  · refine zs_tsIn 73 rfl (by omega) (by omega) (off := 67) (by rw [hs_6_4]; rfl) (by omega) ?_
    refine zs_aload_n (j := 0) (i := 0) rfl rfl rfl ?_
    refine zs_iload_n (j := 1) (i := 1) rfl rfl rfl ?_
    refine zs_iload_n (j := 2) (i := 2) rfl rfl rfl ?_
    have hP_76 : PREA (mlg g []) kd v i 940 := hp.log [] (by simp <;> omega)
    refine zs_callV (host := "") rfl kX8_385 vX8_moverTells (c_X8_moverTells kd v i x) [ZI i, ZI x] [] rfl (zroom_of (by omega)) rfl (Nat.le_of_ble_eq_true rfl) ⟨rfl, hP_76⟩ (fun r_76 g_76 hq_76 => ?_)
    obtain ⟨hr_76, hg_76⟩ := hq_76
    rw [hr_76, hg_76]
    show ZVV _ _ _ 79 _ [ZI ((aT0 kd v i x).2)] (mlg g ((aT0 kd v i x).1))
    exact zs_ireturn rfl rfl (⟨by rw [aTells_e (v := v) (w := i) (kd := kd) (x := x) (by omega)]; try rfl, by rw [aTells_e (v := v) (w := i) (kd := kd) (x := x) (by omega)]; try rfl⟩)
  by_cases hs_6_5 : kd = 5
  · refine zs_tsIn 58 rfl (by omega) (by omega) (off := 52) (by rw [hs_6_5]; rfl) (by omega) ?_
    refine zs_aload_n (j := 0) (i := 0) rfl rfl rfl ?_
    refine zs_bipush (n := 60) rfl ⟨by omega, by omega⟩ ?_
    refine zs_callV (host := "") rfl kX8_367 vX8_body (c_X8_body 60) [ZI 60] [] rfl (zroom_of (by omega)) rfl (Nat.le_of_ble_eq_true rfl) ⟨rfl, by have h9 := (hp.log [] (N1 := 1000) (by simp <;> omega)).1; omega⟩ (fun r_61 g_61 hq_61 => ?_)
    obtain ⟨hr_61, hg_61⟩ := hq_61
    rw [hr_61, hg_61, show mbody (mlg g []) 60 = mlg g ([60]) from by rfl]
    show ZVV _ _ _ 64 _ [] _
    refine zs_aload_n (j := 0) (i := 0) rfl rfl rfl ?_
    refine zs_iload_n (j := 1) (i := 1) rfl rfl rfl ?_
    refine zs_iload_n (j := 2) (i := 2) rfl rfl rfl ?_
    refine zs_iload_n (j := 1) (i := 1) rfl rfl rfl ?_
    show ZVV _ _ _ 68 _ _ _
    refine zs_isub rfl ?_
    have hP_69 : PREA (mlg g ([60])) kd v i 940 := hp.log ([60]) (by simp <;> omega)
    refine zs_callV (host := "") rfl kX8_385 vX8_moverTells (c_X8_moverTells kd v i (zw (x - i))) [ZI i, ZI (zw (x - i))] [] rfl (zroom_of (by omega)) rfl (Nat.le_of_ble_eq_true rfl) ⟨rfl, hP_69⟩ (fun r_69 g_69 hq_69 => ?_)
    obtain ⟨hr_69, hg_69⟩ := hq_69
    rw [hr_69, hg_69, mlg_app]
    show ZVV _ _ _ 72 _ [ZI ((aT0 kd v i (zw (x - i))).2)] (mlg g (([60]) ++ (aT0 kd v i (zw (x - i))).1))
    exact zs_ireturn rfl rfl (⟨by rw [aTells_5 (v := v) (w := i) (kd := kd) (x := x) (by omega)]; try rfl, by rw [aTells_5 (v := v) (w := i) (kd := kd) (x := x) (by omega)]; try rfl⟩)
  by_cases hs_6_6 : kd = 6
  · refine zs_tsIn 36 rfl (by omega) (by omega) (off := 30) (by rw [hs_6_6]; rfl) (by omega) ?_
    refine zs_aload_n (j := 0) (i := 0) rfl rfl rfl ?_
    refine zs_bipush (n := 40) rfl ⟨by omega, by omega⟩ ?_
    refine zs_callV (host := "") rfl kX8_367 vX8_body (c_X8_body 40) [ZI 40] [] rfl (zroom_of (by omega)) rfl (Nat.le_of_ble_eq_true rfl) ⟨rfl, by have h9 := (hp.log [] (N1 := 1000) (by simp <;> omega)).1; omega⟩ (fun r_39 g_39 hq_39 => ?_)
    obtain ⟨hr_39, hg_39⟩ := hq_39
    rw [hr_39, hg_39, show mbody (mlg g []) 40 = mlg g ([40]) from by rfl]
    show ZVV _ _ _ 42 _ [] _
    refine zs_aload_n (j := 0) (i := 0) rfl rfl rfl ?_
    refine zs_iload_n (j := 1) (i := 1) rfl rfl rfl ?_
    refine zs_iload_n (j := 2) (i := 2) rfl rfl rfl ?_
    have hP_45 : PREA (mlg g ([40])) kd v i 940 := hp.log ([40]) (by simp <;> omega)
    refine zs_callV (host := "") rfl kX8_385 vX8_moverTells (c_X8_moverTells kd v i x) [ZI i, ZI x] [] rfl (zroom_of (by omega)) rfl (Nat.le_of_ble_eq_true rfl) ⟨rfl, hP_45⟩ (fun r_45 g_45 hq_45 => ?_)
    obtain ⟨hr_45, hg_45⟩ := hq_45
    rw [hr_45, hg_45, mlg_app]
    show ZVV _ _ _ 48 _ [ZI ((aT0 kd v i x).2)] (mlg g (([40]) ++ (aT0 kd v i x).1))
    show ZVV _ _ _ 48 _ _ _
    refine zs_istore_n (j := 3) (i := 3) rfl rfl (by decide) (by intro r x hr; have hr2 : r = 2 := (by omega); subst hr2; intro z; cases z) ?_
    show ZVV _ _ _ _ [ZR 8 0, ZI i, ZI x, ZI ((aT0 kd v i x).2)] _ _
    refine zs_iload_n (j := 3) (i := 3) rfl rfl rfl ?_
    refine zs_aload_n (j := 0) (i := 0) rfl rfl rfl ?_
    refine zs_iload_n (j := 1) (i := 1) rfl rfl rfl ?_
    refine zs_iconst (n := 1) rfl ⟨by omega, by omega⟩ ?_
    have hP_53 : PREA (mlg g (([40]) ++ (aT0 kd v i x).1)) kd v i 950 := hp.log (([40]) ++ (aT0 kd v i x).1) (by have h8 := aT0_len kd v i x; simp <;> omega)
    refine zs_callV (host := "") rfl kX8_382 vX8_goesAct (c_X8_goesAct kd v i 1) [ZI i, ZI 1] [ZI ((aT0 kd v i x).2)] rfl (zroom_of (by omega)) rfl (Nat.le_of_ble_eq_true rfl) ⟨rfl, hP_53⟩ (fun r_53 g_53 hq_53 => ?_)
    obtain ⟨hr_53, hg_53⟩ := hq_53
    rw [hr_53, hg_53, mlg_app]
    show ZVV _ _ _ 56 _ [ZI ((aGoes kd v i kd 1).2), ZI ((aT0 kd v i x).2)] (mlg g ((([40]) ++ (aT0 kd v i x).1) ++ (aGoes kd v i kd 1).1))
    refine zs_iadd rfl ?_
    exact zs_ireturn rfl rfl (⟨by rw [aTells_3 (v := v) (w := i) (kd := kd) (x := x) (by omega)]; try rfl, by rw [aTells_3 (v := v) (w := i) (kd := kd) (x := x) (by omega)]; try rfl⟩)
  refine zs_tsOut 73 rfl (by omega) (by omega) ?_
  refine zs_aload_n (j := 0) (i := 0) rfl rfl rfl ?_
  refine zs_iload_n (j := 1) (i := 1) rfl rfl rfl ?_
  refine zs_iload_n (j := 2) (i := 2) rfl rfl rfl ?_
  have hP_76 : PREA (mlg g []) kd v i 940 := hp.log [] (by simp <;> omega)
  refine zs_callV (host := "") rfl kX8_385 vX8_moverTells (c_X8_moverTells kd v i x) [ZI i, ZI x] [] rfl (zroom_of (by omega)) rfl (Nat.le_of_ble_eq_true rfl) ⟨rfl, hP_76⟩ (fun r_76 g_76 hq_76 => ?_)
  obtain ⟨hr_76, hg_76⟩ := hq_76
  rw [hr_76, hg_76]
  show ZVV _ _ _ 79 _ [ZI ((aT0 kd v i x).2)] (mlg g ((aT0 kd v i x).1))
  exact zs_ireturn rfl rfl (⟨by rw [aTells_e (v := v) (w := i) (kd := kd) (x := x) (by omega)]; try rfl, by rw [aTells_e (v := v) (w := i) (kd := kd) (x := x) (by omega)]; try rfl⟩)

def mAct (g : ZG) (p a x : Int) : List Int × Int := if a = 0 then aLooks (g 31 0 p.toNat) p (g 30 0 p.toNat) x else if a = 1 then aGoes (g 30 0 p.toNat) (g 31 0 p.toNat) p (g 30 0 p.toNat) x else aTells (g 30 0 p.toNat) (g 31 0 p.toNat) p (g 30 0 p.toNat) x
def mActs (g : ZG) (p a x : Int) : Int × ZG := if ¬ (0 ≤ p ∧ p < g 8 0 2) ∨ a < 0 ∨ 2 < a then (0, zup g 8 0 46 0) else ((mAct g p a x).2, mlg (zup g 8 0 46 0) (mAct g p a x).1)
theorem c_X8_act (p a x : Int) : ZC mX8_act 9 (fun av g => av = [ZR 8 0, ZI p, ZI a, ZI x] ∧ (0 ≤ g 8 0 2 ∧ g 8 0 2 ≤ 6) ∧ True) (fun _ g r g' => r = some (ZI (mActs g p a x).1) ∧ g' = (mActs g p a x).2) := by
  refine zc_of gX8_act (fun av g hp => by obtain ⟨rfl, -⟩ := hp; exact Nat.le_of_ble_eq_true rfl) (fun Y av g hwf hrg hp hok => ?_)
  obtain ⟨rfl, hp⟩ := hp
  show ZVV _ _ _ 0 [ZR 8 0, ZI p, ZI a, ZI x] [] _
  have hn6 := hp.1
  refine zs_aload_n (j := 0) (i := 0) rfl rfl rfl ?_
  refine zs_iconst (n := 0) rfl ⟨by omega, by omega⟩ ?_
  refine zs_putfield (f := 8) (k := 46) (x := 0) rfl rfl (rfl) ?_
  refine zs_aload_n (j := 0) (i := 0) rfl rfl rfl ?_
  refine zs_iload_n (j := 1) (i := 1) rfl rfl rfl ?_
  refine zs_callV (host := "") rfl kX8_186 vX8_isPerson (c_X8_isPerson p) [ZI p] [] rfl (zroom_of (by omega)) rfl (Nat.le_of_ble_eq_true rfl) (⟨rfl, by show 0 ≤ g 8 0 2 ∧ g 8 0 2 ≤ 8; omega⟩) (fun r_7 g_7 hq_7 => ?_)
  obtain ⟨hr_7, hg_7⟩ := hq_7
  rw [hr_7, hg_7]
  show ZVV _ _ _ 10 _ [ZI (if 0 ≤ p ∧ p < g 8 0 2 then 1 else 0)] _
  refine zs_if_eq 23 rfl (by omega) (fun hc_10 => ?_) (fun hc_10 => ?_)
  · refine zs_iconst (n := 0) rfl ⟨by omega, by omega⟩ ?_
    exact zs_ireturn rfl rfl (⟨by unfold mActs; rw [if_pos (by omega)], by unfold mActs; rw [if_pos (by omega)]⟩)
  · refine zs_aload_n (j := 0) (i := 0) rfl rfl rfl ?_
    refine zs_iload_n (j := 2) (i := 2) rfl rfl rfl ?_
    refine zs_iconst (n := 0) rfl ⟨by omega, by omega⟩ ?_
    refine zs_iconst (n := 2) rfl ⟨by omega, by omega⟩ ?_
    refine zs_callV (host := "") rfl kX8_170 vX8_in (c_X8_in a 0 2) [ZI a, ZI 0, ZI 2] [] rfl (zroom_of (by omega)) rfl (Nat.le_of_ble_eq_true rfl) (⟨rfl, trivial⟩) (fun r_17 g_17 hq_17 => ?_)
    obtain ⟨hr_17, hg_17⟩ := hq_17
    rw [hr_17, hg_17]
    show ZVV _ _ _ 20 _ [ZI (if 0 ≤ a ∧ a ≤ 2 then 1 else 0)] _
    refine zs_if_ne 25 rfl (by omega) (fun hc_20 => ?_) (fun hc_20 => ?_)
    · refine zs_iload_n (j := 2) (i := 2) rfl rfl rfl ?_
      refine zs_if_ne 38 rfl (by omega) (fun hc_26 => ?_) (fun hc_26 => ?_)
      · refine zs_iload_n (j := 2) (i := 2) rfl rfl rfl ?_
        refine zs_iconst (n := 1) rfl ⟨by omega, by omega⟩ ?_
        refine zs_icmp_ne 52 rfl (by omega) (fun hc_40 => ?_) (fun hc_40 => ?_)
        · refine zs_aload_n (j := 0) (i := 0) rfl rfl rfl ?_
          refine zs_iload_n (j := 1) (i := 1) rfl rfl rfl ?_
          refine zs_iload_n (j := 3) (i := 3) rfl rfl rfl ?_
          refine zs_callV (host := "") rfl kX8_388 vX8_tellsAct (c_X8_tellsAct (g 30 0 p.toNat) (g 31 0 p.toNat) p x) [ZI p, ZI x] [] rfl (zroom_of (by omega)) rfl (Nat.le_of_ble_eq_true rfl) ⟨rfl, ⟨by rw [zup_eq]; exact ⟨by decide, by decide⟩, rfl, rfl, ⟨by omega, by omega⟩⟩⟩ (fun r_55 g_55 hq_55 => ?_)
          obtain ⟨hr_55, hg_55⟩ := hq_55
          rw [hr_55]
          show ZVV _ _ _ 58 _ [ZI (aTells (g 30 0 p.toNat) (g 31 0 p.toNat) p (g 30 0 p.toNat) x).2] _
          exact zs_ireturn rfl rfl (⟨by unfold mActs; rw [if_neg (by omega)]; unfold mAct; rw [if_neg (by omega), if_neg (by omega)], by unfold mActs; rw [if_neg (by omega)]; unfold mAct; rw [if_neg (by omega), if_neg (by omega)]; exact hg_55⟩)
        · refine zs_aload_n (j := 0) (i := 0) rfl rfl rfl ?_
          refine zs_iload_n (j := 1) (i := 1) rfl rfl rfl ?_
          refine zs_iload_n (j := 3) (i := 3) rfl rfl rfl ?_
          refine zs_callV (host := "") rfl kX8_382 vX8_goesAct (c_X8_goesAct (g 30 0 p.toNat) (g 31 0 p.toNat) p x) [ZI p, ZI x] [] rfl (zroom_of (by omega)) rfl (Nat.le_of_ble_eq_true rfl) ⟨rfl, ⟨by rw [zup_eq]; exact ⟨by decide, by decide⟩, rfl, rfl, ⟨by omega, by omega⟩⟩⟩ (fun r_46 g_46 hq_46 => ?_)
          obtain ⟨hr_46, hg_46⟩ := hq_46
          rw [hr_46]
          show ZVV _ _ _ 49 _ [ZI (aGoes (g 30 0 p.toNat) (g 31 0 p.toNat) p (g 30 0 p.toNat) x).2] _
          refine zs_goto 58 rfl (by omega) ?_
          exact zs_ireturn rfl rfl (⟨by unfold mActs; rw [if_neg (by omega)]; unfold mAct; rw [if_neg (by omega), if_pos (by omega)], by unfold mActs; rw [if_neg (by omega)]; unfold mAct; rw [if_neg (by omega), if_pos (by omega)]; exact hg_46⟩)
      · refine zs_aload_n (j := 0) (i := 0) rfl rfl rfl ?_
        refine zs_iload_n (j := 1) (i := 1) rfl rfl rfl ?_
        refine zs_iload_n (j := 3) (i := 3) rfl rfl rfl ?_
        refine zs_callV (host := "") rfl kX8_373 vX8_looksAct (c_X8_looksAct (g 30 0 p.toNat) (g 31 0 p.toNat) p x) [ZI p, ZI x] [] rfl (zroom_of (by omega)) rfl (Nat.le_of_ble_eq_true rfl) ⟨rfl, ⟨by rw [zup_eq]; exact ⟨by decide, by decide⟩, rfl, rfl, ⟨by omega, by omega⟩⟩⟩ (fun r_32 g_32 hq_32 => ?_)
        obtain ⟨hr_32, hg_32⟩ := hq_32
        rw [hr_32]
        show ZVV _ _ _ 35 _ [ZI (aLooks (g 31 0 p.toNat) p (g 30 0 p.toNat) x).2] _
        refine zs_goto 58 rfl (by omega) ?_
        exact zs_ireturn rfl rfl (⟨by unfold mActs; rw [if_neg (by omega)]; unfold mAct; rw [if_pos (by omega)], by unfold mActs; rw [if_neg (by omega)]; unfold mAct; rw [if_pos (by omega)]; exact hg_32⟩)
    · refine zs_iconst (n := 0) rfl ⟨by omega, by omega⟩ ?_
      exact zs_ireturn rfl rfl (⟨by unfold mActs; rw [if_pos (by omega)], by unfold mActs; rw [if_pos (by omega)]⟩)

