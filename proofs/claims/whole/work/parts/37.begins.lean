theorem cT_vs {g G : ZG} (h : zVS g G) : cT G = cT g := by
  unfold cT zTC zwC
  rw [h 2 0 rfl, h 15 0 rfl, h 16 0 rfl, h 17 0 rfl, h 18 0 rfl, h 3 _ rfl, h 20 _ rfl]
theorem CP.next {g G : ZG} {c : Int} (h : CP g) (hq : zQR c g G) (hc : g 1 0 8 + c ≤ 900000000) : CP G := ⟨h.1.vs hq.1, hq.2.1, by have := hq.2.2; omega⟩
theorem zLV.next {g G M : ZG} {c d e : Int} (hq : zQR c g G) (h : zLV G d M) (he : c + d ≤ e) : zQR e g M := ⟨hq.1.tr h.2.2.1, h.q.2.1, by have := hq.2.2; have := h.q.2.2; omega⟩
def tBeg (pairs : Int) (t : ZT) (m k : Nat) : Int := match m with
  | 0 => -5
  | m + 1 => if pairs < tlp (tRun 20 0 (tWF t ((zxr 1).getD k 0))).2 then (zxr 1).getD k 0 else tBeg pairs t m (k + 1)
theorem tBeg_s (pairs : Int) (t : ZT) (m k : Nat) : tBeg pairs t (m + 1) k = if pairs < tlp (tRun 20 0 (tWF t ((zxr 1).getD k 0))).2 then (zxr 1).getD k 0 else tBeg pairs t m (k + 1) := rfl
theorem zxr1_rng : ∀ c : Nat, c < 11 → 0 ≤ (zxr 1).getD c 0 ∧ (zxr 1).getD c 0 ≤ 100 := by decide
theorem l_X7_begrun {Y : ZW} {Q : Option ZV → ZG → Prop} {g : ZG} {b w : Int} {j : Nat} (hp : CP g) : ∀ (m k : Nat) (G : ZG), k + m = 20 → zLV g ((k : Int) + 1) G → (∀ M, zTL M = (tRun m k (zTL G)).2 → zLV g 21 M → ZVV Y mX7_begins (zcx Y 7 Q) 76 [ZR 7 0, ZI b, ZX 1, ZI 11, ZI (j : Int), ZI w, ZI ((tRun m k (zTL G)).1 : Int)] [] M) → ZVV Y mX7_begins (zcx Y 7 Q) 53 [ZR 7 0, ZI b, ZX 1, ZI 11, ZI (j : Int), ZI w, ZI (k : Int)] [] G := by
  intro m
  induction m with
  | zero =>
    intro k G hk hLS hq
    refine zs_iload (i := 6) rfl rfl ?_
    refine zs_bipush (n := 20) rfl ⟨by omega, by omega⟩ ?_
    refine zs_icmp_ge 76 rfl (by omega) (fun hc_57 => ?_) (fun hc_57 => ?_)
    · exact hq G rfl (hLS.le (by omega))
    · exfalso; omega
  | succ m ih =>
    intro k G hk hLS hq
    refine zs_iload (i := 6) rfl rfl ?_
    refine zs_bipush (n := 20) rfl ⟨by omega, by omega⟩ ?_
    refine zs_icmp_ge 76 rfl (by omega) (fun hc_57 => ?_) (fun hc_57 => ?_)
    · exfalso; omega
    · refine zs_aload_n (j := 0) (i := 0) rfl rfl rfl ?_
      refine zs_getfield (f := 7) (k := 7) rfl rfl (trivial) ?_
      show ZVV _ _ _ _ _ (ZR 1 0 :: _) _
      refine zs_callV (host := "") rfl kX7_158 vX1_step c_X1_step [] [] rfl (zroom_of (by omega)) rfl (Nat.le_of_ble_eq_true rfl) ⟨rfl, hLS.1, hLS.2.1, (by have := hLS.2.2.2.2.2; omega), (by have := hLS.2.2.2.2.1; have := hp.2.2; omega)⟩ (fun r_64 g_64 hq_64 => ?_)
      obtain ⟨hr_64, hT_64, hL_64, hH_64, hS_64, hs_64⟩ := hq_64
      rw [hr_64]
      have hLS_64 := fun d hd => hLS.step (d := d) hd hT_64 hL_64 hH_64 hS_64 hs_64
      show ZVV _ _ _ 67 _ [ZI ((tStep (zTL G)).1)] _
      refine zs_if_lt 76 rfl (by omega) (fun hc_67 => ?_) (fun hc_67 => ?_)
      · have := hq _ (by rw [tRun_s, if_pos (by omega)]; exact hT_64) ((hLS_64 _ (Int.le_refl _)).le (by omega))
        rw [tRun_s, if_pos (by omega)] at this
        exact this
      · refine zs_iinc_r (i := 6) rfl rfl (by intro r x hr; have hr2 : r = 5 := (by omega); subst hr2; intro z; cases z) ⟨by omega, by omega⟩ ?_
        show ZVV _ _ _ _ [ZR 7 0, ZI b, ZX 1, ZI 11, ZI (j : Int), ZI w, ZI ((k : Int) + 1)] _ _
        refine zs_goto 53 rfl (by omega) ?_
        refine ih (k + 1) _ (by omega) (hLS_64 _ (by omega)) (fun M z1 z2 => ?_)
        have := hq M (by rw [tRun_s, if_neg (by omega), ← hT_64]; exact z1) z2
        rw [tRun_s, if_neg (by omega), ← hT_64] at this
        exact this

theorem l_X7_begins {Y : ZW} {Q : Option ZV → ZG → Prop} {g : ZG} {b : Int} (hp : CP g) (hb : g 1 0 8 ≤ 899999000) : ∀ (m j : Nat) (G : ZG) (z5 z6 : ZV), (∀ y, z5 ≠ ZJ y) → (∀ y, z6 ≠ ZJ y) → j + m = 11 → zQR (21 * (j : Int)) g G → (∀ M, zQR 231 g M → Q (some (ZI (tBeg b (cT g) m j))) M) → ZVV Y mX7_begins (zcx Y 7 Q) 18 [ZR 7 0, ZI b, ZX 1, ZI 11, ZI (j : Int), z5, z6] [] G := by
  intro m
  induction m with
  | zero =>
    intro j G z5 z6 hz5 hz6 hk hGq hq
    refine zs_iload (i := 4) rfl rfl ?_
    refine zs_iload_n (j := 3) (i := 3) rfl rfl rfl ?_
    refine zs_icmp_ge 99 rfl (by omega) (fun hc_21 => ?_) (fun hc_21 => ?_)
    · refine zs_bipush (n := (-5)) rfl ⟨by omega, by omega⟩ ?_
      exact zs_ireturn rfl rfl (hq _ (hGq.le (by omega)))
    · exfalso; omega
  | succ m ih =>
    intro j G z5 z6 hz5 hz6 hk hGq hq
    have hpG : CP G := hp.next hGq (by omega)
    have hxr := zxr1_rng j (by omega)
    refine zs_iload (i := 4) rfl rfl ?_
    refine zs_iload_n (j := 3) (i := 3) rfl rfl rfl ?_
    refine zs_icmp_ge 99 rfl (by omega) (fun hc_21 => ?_) (fun hc_21 => ?_)
    · exfalso; omega
    · refine zs_xload_n (j := 2) (i := 2) (q := 1) rfl rfl rfl (by decide) ?_
      refine zs_iload (i := 4) rfl rfl ?_
      refine zs_xald rfl (by decide) (by omega) (by show _ < ((11 : Nat) : Int); omega) ?_
      refine zs_istore (i := 5) rfl (by decide) (by intro r x hr; have hr2 : r = 4 := (by omega); subst hr2; intro z; cases z) ?_
      show ZVV _ _ _ _ [ZR 7 0, ZI b, ZX 1, ZI 11, ZI (j : Int), ZI ((zxr 1).getD (j : Int).toNat 0), z6] _ _
      refine zs_aload_n (j := 0) (i := 0) rfl rfl rfl ?_
      refine zs_getfield (f := 7) (k := 7) rfl rfl (trivial) ?_
      show ZVV _ _ _ _ _ (ZR 1 0 :: _) _
      refine zs_aload_n (j := 0) (i := 0) rfl rfl rfl ?_
      show ZVV _ _ _ 35 _ _ _
      refine zs_getfield (f := 7) (k := 5) rfl rfl (trivial) ?_
      show ZVV _ _ _ _ _ (ZR 2 0 :: _) _
      refine zs_callV (host := "") rfl kX7_98 vX1_startFrom (c_X1_startFrom 0) [ZR 2 0] [] rfl (zroom_of (by omega)) rfl (Nat.le_of_ble_eq_true rfl) ⟨rfl, ⟨by decide, hpG.2.1.2.1, Int.le_trans hpG.2.2 (by decide)⟩, hpG.1.2.1.1.1⟩ (fun r_38 g_38 hq_38 => ?_)
      obtain ⟨hr_38, hg_38⟩ := hq_38
      rw [hr_38]
      obtain ⟨hL38, hH38, hT38, hV38, hB38, hs38, eL18_38, eL3_38, eL0_38, eL8_38⟩ := start_okx hpG hg_38
      have e2_38 : g_38 2 0 = G 2 0 := hV38 2 0 rfl
      have e15_38 : g_38 15 0 = G 15 0 := hV38 15 0 rfl
      have e16_38 : g_38 16 0 = G 16 0 := hV38 16 0 rfl
      have e17_38 : g_38 17 0 = G 17 0 := hV38 17 0 rfl
      have e18_38 : g_38 18 0 = G 18 0 := hV38 18 0 rfl
      have e19_38 : g_38 19 0 = G 19 0 := hV38 19 0 rfl
      obtain ⟨hLS, hTT⟩ := zLV.start hpG hg_38
      have hLW := hLS.wf (w := (zxr 1).getD j 0) ⟨by omega, by omega⟩
      show ZVV _ _ _ 41 _ [] g_38
      refine zs_aload_n (j := 0) (i := 0) rfl rfl rfl ?_
      refine zs_getfield (f := 7) (k := 7) rfl rfl (trivial) ?_
      show ZVV _ _ _ _ _ (ZR 1 0 :: _) _
      refine zs_iload (i := 5) rfl rfl ?_
      refine zs_putfield (f := 1) (k := 1) (x := (zxr 1).getD (j : Int).toNat 0) rfl rfl (rfl) ?_
      refine zs_iconst (n := 0) rfl ⟨by omega, by omega⟩ ?_
      refine zs_istore (i := 6) rfl (by decide) (by intro r x hr; have hr2 : r = 5 := (by omega); subst hr2; intro z; cases z) ?_
      show ZVV _ _ _ _ [ZR 7 0, ZI b, ZX 1, ZI 11, ZI (j : Int), ZI ((zxr 1).getD (j : Int).toNat 0), ZI 0] _ _
      refine l_X7_begrun hpG 20 0 _ rfl (hLW.le (by omega)) (fun M z1 z2 => ?_)
      rw [ztl_wf, hTT, cT_vs hGq.1, Int.toNat_natCast] at z1 ⊢
      have hLM := z2
      refine zs_aload_n (j := 0) (i := 0) rfl rfl rfl ?_
      refine zs_getfield (f := 7) (k := 7) rfl rfl (trivial) ?_
      show ZVV _ _ _ _ _ (ZR 1 0 :: _) _
      refine zs_getfield (f := 1) (k := 0) rfl rfl (trivial) ?_
      show ZVV _ _ _ _ _ (ZR 2 2 :: _) _
      refine zs_callV (host := "") rfl kX7_145 vX2_likePairs (c_X2_likePairs 2) [] [] rfl (zroom_of (by omega)) rfl (Nat.le_of_ble_eq_true rfl) (⟨rfl, hLM.1.1, hLM.2.1⟩) (fun r_83 g_83 hq_83 => ?_)
      obtain ⟨hr_83, hg_83⟩ := hq_83
      rw [hr_83, hg_83]
      show ZVV _ _ _ 86 _ [ZI (tlp (zTL M))] _
      refine zs_iload_n (j := 1) (i := 1) rfl rfl rfl ?_
      refine zs_icmp_le 93 rfl (by omega) (fun hc_87 => ?_) (fun hc_87 => ?_)
      · refine zs_iinc_r (i := 4) rfl rfl (by intro r x hr; have hr2 : r = 3 := (by omega); subst hr2; intro z; cases z) ⟨by omega, by omega⟩ ?_
        show ZVV _ _ _ _ [ZR 7 0, ZI b, ZX 1, ZI 11, ZI ((j : Int) + 1), ZI ((zxr 1).getD j 0), ZI ((tRun 20 0 (tWF (cT g) ((zxr 1).getD j 0))).1 : Int)] _ _
        refine zs_goto 18 rfl (by omega) ?_
        exact ih (j + 1) M _ _ (by intro y h; cases h) (by intro y h; cases h) (by omega) (zLV.next hGq z2 (by omega)) (fun N q => by have := hq N q; rw [tBeg_s, ← z1, if_neg (by omega)] at this; exact this)
      · refine zs_iload (i := 5) rfl rfl ?_
        exact zs_ireturn rfl rfl (by have := hq M ((zLV.next hGq z2 (Int.le_refl _)).le (by omega)); rw [tBeg_s, ← z1, if_pos (by omega)] at this; exact this)
theorem c_X7_begins  : ZC mX7_begins 7 (fun av g => av = [ZR 7 0] ∧ CP g ∧ g 1 0 8 ≤ 899999000) (fun _ g r g' => r = some (ZI (tBeg (tlp (cT g)) (cT g) 11 0)) ∧ zQR 231 g g') := by
  refine zc_of gX7_begins (fun av g hp => by obtain ⟨rfl, -⟩ := hp; exact Nat.le_of_ble_eq_true rfl) (fun Y av g hwf hrg hp hok => ?_)
  obtain ⟨rfl, hp⟩ := hp
  show ZVV _ _ _ 0 [ZR 7 0, ZX 99, ZX 99, ZX 99, ZX 99, ZX 99, ZX 99] [] _
  have hb := hp.2
  replace hp := hp.1
  refine zs_aload_n (j := 0) (i := 0) rfl rfl rfl ?_
  refine zs_getfield (f := 7) (k := 5) rfl rfl (trivial) ?_
  show ZVV _ _ _ _ _ (ZR 2 0 :: _) _
  refine zs_callV (host := "") rfl kX7_145 vX2_likePairs (c_X2_likePairs 0) [] [] rfl (zroom_of (by omega)) rfl (Nat.le_of_ble_eq_true rfl) (⟨rfl, hp.1.1, hp.1.2.2.1⟩) (fun r_4 g_4 hq_4 => ?_)
  obtain ⟨hr_4, hg_4⟩ := hq_4
  rw [hr_4, hg_4]
  show ZVV _ _ _ 7 _ [ZI (zlp (g 2 0 0) (g 2 0 1) (g 2 0 3) (g 17 0) (g 18 0))] _
  refine zs_istore_n (j := 1) (i := 1) rfl rfl (by decide) (by intro r x hr; have hr2 : r = 0 := (by omega); subst hr2; intro z; cases z) ?_
  show ZVV _ _ _ _ [ZR 7 0, ZI (zlp (g 2 0 0) (g 2 0 1) (g 2 0 3) (g 17 0) (g 18 0)), ZX 99, ZX 99, ZX 99, ZX 99, ZX 99] _ _
  refine zs_gets (k := 1) rfl rfl (by decide) ?_
  refine zs_xstore_n (j := 2) (i := 2) rfl rfl (by decide) (by intro r x hr; have hr2 : r = 1 := (by omega); subst hr2; intro z; cases z) ?_
  show ZVV _ _ _ _ [ZR 7 0, ZI (zlp (g 2 0 0) (g 2 0 1) (g 2 0 3) (g 17 0) (g 18 0)), ZX 1, ZX 99, ZX 99, ZX 99, ZX 99] _ _
  refine zs_xload_n (j := 2) (i := 2) (q := 1) rfl rfl rfl (by decide) ?_
  show ZVV _ _ _ 13 _ _ _
  refine zs_xlen rfl (by decide) ?_
  show ZVV _ _ _ _ _ (ZI 11 :: _) _
  refine zs_istore_n (j := 3) (i := 3) rfl rfl (by decide) (by intro r x hr; have hr2 : r = 2 := (by omega); subst hr2; intro z; cases z) ?_
  show ZVV _ _ _ _ [ZR 7 0, ZI (zlp (g 2 0 0) (g 2 0 1) (g 2 0 3) (g 17 0) (g 18 0)), ZX 1, ZI 11, ZX 99, ZX 99, ZX 99] _ _
  refine zs_iconst (n := 0) rfl ⟨by omega, by omega⟩ ?_
  refine zs_istore (i := 4) rfl (by decide) (by intro r x hr; have hr2 : r = 3 := (by omega); subst hr2; intro z; cases z) ?_
  show ZVV _ _ _ _ [ZR 7 0, ZI (zlp (g 2 0 0) (g 2 0 1) (g 2 0 3) (g 17 0) (g 18 0)), ZX 1, ZI 11, ZI 0, ZX 99, ZX 99] _ _
  exact l_X7_begins hp hb 11 0 _ _ _ (by intro y h; cases h) (by intro y h; cases h) rfl ⟨zVS.rf g, hp.2.1, by omega⟩ (fun M z => ⟨rfl, z⟩)

