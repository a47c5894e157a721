theorem tTry_st {t : ZT} {byp : Int} {s1 s2 : Nat → Int} : ∀ (rem p : Nat) (ho : Nat → Int) (lv : Nat) (sf : Int) (st : Int × (Nat → Int)), (∀ c, c < p + rem → s1 c = s2 c) → tTry t byp s1 rem p ho lv sf st = tTry t byp s2 rem p ho lv sf st := by
  intro rem
  induction rem with
  | zero => intro p ho lv sf st h; rfl
  | succ rem ih =>
    intro p ho lv sf st h
    rw [tTry_s, tTry_s]
    have : ∀ s0, zfold (fun (h : Nat) s => if lv.testBit h = true then s else tTry t byp s1 rem (p + 1) (fun c => if c = p then (h : Int) else ho c) (lv ||| 1 <<< h) (sf + tMore t byp s1 (fun c => if c = p then (h : Int) else ho c) p h) s) (tn t).toNat 0 s0 = zfold (fun (h : Nat) s => if lv.testBit h = true then s else tTry t byp s2 rem (p + 1) (fun c => if c = p then (h : Int) else ho c) (lv ||| 1 <<< h) (sf + tMore t byp s2 (fun c => if c = p then (h : Int) else ho c) p h) s) (tn t).toNat 0 s0 := by
      intro s0
      refine zfold_cong (fun j s _ _ => ?_)
      have hm : tMore t byp s1 (fun c => if c = p then (j : Int) else ho c) p j = tMore t byp s2 (fun c => if c = p then (j : Int) else ho c) p j := by unfold tMore; rw [h p (by omega)]
      rw [hm, ih (p + 1) _ _ _ s (fun c hc => h c (by omega))]
    rw [this]
def cFind (g : ZG) (b : Int) : Int × (Nat → Int) := tTry (cT g) b (g 18 0) (g 2 0 3).toNat 0 (g 18 0) 0 0 (1000, tCut (g 2 0 3) (g 23 0))
theorem mway_nf (G : ZG) (b : Int) {f : Nat} (h6 : f ≠ 6) (h24 : f ≠ 24) : mway G b f = G f := by
  funext i; unfold mway; rw [zcpy_off _ _ _ _ _ _ _ _ _ _ (fun z => h24 z.1), zup_nf _ _ _ _ h6, zup_nf _ _ _ _ h6]
theorem mway_62 (G : ZG) (b : Int) : mway G b 6 0 2 = b := by
  unfold mway; rw [zcpy_off _ _ _ _ _ _ _ _ _ _ (fun z => absurd z.1 (by decide)), zup_nk _ _ _ _ _ _ (by decide), zup_eq]
theorem mway_63 (G : ZG) (b : Int) : mway G b 6 0 3 = 1000 := by
  unfold mway; rw [zcpy_off _ _ _ _ _ _ _ _ _ _ (fun z => absurd z.1 (by decide)), zup_eq]
theorem mway_24 (G : ZG) (b : Int) {c : Nat} (hc : c < 6) : mway G b 24 0 c = G 18 2 c := by
  unfold mway zcpy
  rw [if_pos ⟨rfl, rfl, by omega, by omega⟩, zup_nf _ _ _ _ (by decide), zup_nf _ _ _ _ (by decide)]
  congr 1; omega
theorem mway_town (G : ZG) (b : Int) : zTL (mway G b) = zTL G := by
  unfold zTL zTC zwC
  rw [mway_nf G b (f := 1) (by decide) (by decide), mway_nf G b (f := 2) (by decide) (by decide), mway_nf G b (f := 3) (by decide) (by decide), mway_nf G b (f := 15) (by decide) (by decide), mway_nf G b (f := 16) (by decide) (by decide), mway_nf G b (f := 17) (by decide) (by decide), mway_nf G b (f := 18) (by decide) (by decide), mway_nf G b (f := 20) (by decide) (by decide)]
theorem zWG.vs {g g' : ZG} (h : zWG g g') : zVS g g' := fun f i hv => by
  have hn := zvis_no hv
  by_cases h18 : f = 18
  · subst h18
    funext k
    exact h.2.2 i k (by omega)
  · rw [h.1 f (by omega) (by omega) (by omega) (by omega) (by omega) h18 (by omega) (by omega)]
theorem zWG.zb {g g' : ZG} (h : zWG g g') (hB : ZB g) : ZB g' := fun f i k h1 h2 => by
  by_cases h18 : f = 18
  · subst h18
    rw [h.2.2 i k (by omega)]; exact hB 18 i k h1 h2
  · rw [h.1 f (by omega) (by omega) (by omega) (by omega) (by omega) h18 (by omega) (by omega)]; exact hB f i k h1 h2
theorem find_ok {g G M : ZG} {b : Int} (hp : CP g) (hG : G = zup (zup (zcopyF g 2 0) 1 0 1 (-1)) 1 0 8 (g 1 0 8 + 1)) (hW : zWG G M) (hL : LOK M)
    (hA : AW M = tTry (zTL (mway G b)) ((mway G b) 6 0 2) ((mway G b) 24 0) (G 2 2 3).toNat 0 ((mway G b) 18 2) 0 0 (AW (mway G b))) : AW M = cFind g b ∧ M 2 2 3 = g 2 0 3 ∧ zQR 1 g M := by
  obtain ⟨h1, h2, h3, h4, h5, h6, e18, e3, -, -⟩ := start_okx hp hG
  have hn6 := hp.1.1.2.2.1
  have e23 : G 23 = g 23 := by rw [hG]; show mstart g 23 = _; rw [mstart_nf g (by decide)]; funext i; exact zcopyF_o g (by omega)
  refine ⟨?_, ?_, ⟨h4.tr hW.vs, lc_of hL (hW.zb h5), ?_⟩⟩
  · rw [hA, mway_town, h3, mway_62, mway_nf G b (f := 18) (by decide) (by decide), e18, e3]
    have hAW : AW (mway G b) = (1000, tCut (g 2 0 3) (g 23 0)) := by
      unfold AW; rw [mway_63, mway_nf G b (f := 2) (by decide) (by decide), mway_nf G b (f := 23) (by decide) (by decide), e3, e23]
    rw [hAW]
    exact tTry_st _ _ _ _ _ _ (fun c hc => by rw [mway_24 G b (by omega), e18])
  · rw [hW.1 2 (by decide) (by decide) (by decide) (by decide) (by decide) (by decide) (by decide) (by decide), e3]
  · rw [hW.2.1 0 8 (by decide) (by decide) (by decide), h6]; omega
def cMixed (g : ZG) (p : Int) : Int := if p ≠ -1 ∧ ¬ (0 ≤ p ∧ p < g 2 0 3) then -10001 else if (cFind g 1).1 = 1000 then -5 else if p = -1 then (cFind g 1).1 else (cFind g 1).2 p.toNat
def cFew (g : ZG) : Int := if (cFind g 0).1 = 1000 then -5 else (cFind g 0).1
theorem cFind_rng (g : ZG) (b : Int) : 0 ≤ (cFind g b).1 ∧ (cFind g b).1 ≤ 1000 := tTry_rng _ _ _ _ _ _ (Int.le_refl _) (show (0 : Int) ≤ 1000 by decide)
theorem c_X7_few  : ZC mX7_few 13 (fun av g => av = [ZR 7 0] ∧ CP g) (fun _ g r g' => r = some (ZI (cFew g)) ∧ zQR 1 g g') := by
  refine zc_of gX7_few (fun av g hp => by obtain ⟨rfl, -⟩ := hp; exact Nat.le_of_ble_eq_true rfl) (fun Y av g hwf hrg hp hok => ?_)
  obtain ⟨rfl, hp⟩ := hp
  show ZVV _ _ _ 0 [ZR 7 0] [] _
  refine zs_aload_n (j := 0) (i := 0) rfl rfl rfl ?_
  refine zs_getfield (f := 7) (k := 7) rfl rfl (trivial) ?_
  show ZVV _ _ _ _ _ (ZR 1 0 :: _) _
  refine zs_aload_n (j := 0) (i := 0) rfl rfl rfl ?_
  refine zs_getfield (f := 7) (k := 5) rfl rfl (trivial) ?_
  show ZVV _ _ _ _ _ (ZR 2 0 :: _) _
  refine zs_callV (host := "") rfl kX7_98 vX1_startFrom (c_X1_startFrom 0) [ZR 2 0] [] rfl (zroom_of (by omega)) rfl (Nat.le_of_ble_eq_true rfl) ⟨rfl, ⟨by decide, hp.2.1.2.1, Int.le_trans hp.2.2 (by decide)⟩, hp.1.2.1.1.1⟩ (fun r_8 g_8 hq_8 => ?_)
  obtain ⟨hr_8, hg_8⟩ := hq_8
  rw [hr_8]
  obtain ⟨hL8, hH8, hT8, hV8, hB8, hs8, eL18_8, eL3_8, eL0_8, eL8_8⟩ := start_okx hp hg_8
  have e2_8 : g_8 2 0 = g 2 0 := hV8 2 0 rfl
  have e15_8 : g_8 15 0 = g 15 0 := hV8 15 0 rfl
  have e16_8 : g_8 16 0 = g 16 0 := hV8 16 0 rfl
  have e17_8 : g_8 17 0 = g 17 0 := hV8 17 0 rfl
  have e18_8 : g_8 18 0 = g 18 0 := hV8 18 0 rfl
  have e19_8 : g_8 19 0 = g 19 0 := hV8 19 0 rfl
  show ZVV _ _ _ 11 _ [] g_8
  refine zs_aload_n (j := 0) (i := 0) rfl rfl rfl ?_
  refine zs_getfield (f := 7) (k := 4) rfl rfl (trivial) ?_
  show ZVV _ _ _ _ _ (ZR 6 0 :: _) _
  show ZVV _ _ _ 15 _ _ _
  refine zs_aload_n (j := 0) (i := 0) rfl rfl rfl ?_
  refine zs_getfield (f := 7) (k := 7) rfl rfl (trivial) ?_
  show ZVV _ _ _ _ _ (ZR 1 0 :: _) _
  refine zs_iconst (n := 0) rfl ⟨by omega, by omega⟩ ?_
  refine zs_callV (host := "") rfl kX7_171 vX6_find (c_X6_find 0) [ZR 1 0, ZI 0] [] rfl (zroom_of (by omega)) rfl (Nat.le_of_ble_eq_true rfl) ⟨rfl, ⟨hL8, hH8⟩, by decide⟩ (fun r_20 g_20 hq_20 => ?_)
  obtain ⟨hr_20, hW_20, hL_20, hA_20⟩ := hq_20
  obtain ⟨hA2, hM3, hQ⟩ := find_ok hp hg_8 hW_20 hL_20.1 hA_20
  have hf1 : g_20 6 0 3 = (cFind g 0).1 := congrArg Prod.fst hA2
  have hf2 : ∀ c : Nat, (c : Int) < g 2 0 3 → g_20 23 0 c = (cFind g 0).2 c := fun c hc => by
    have h9 := congrFun (congrArg Prod.snd hA2) c
    have h8 : tCut (g_20 2 2 3) (g_20 23 0) c = (cFind g 0).2 c := h9
    unfold tCut at h8
    rw [hM3, if_pos hc] at h8
    exact h8
  have hfr := cFind_rng g 0
  rw [hr_20, hf1]
  show ZVV _ _ _ 23 _ [ZI (if (cFind g 0).1 = 1000 then -5 else (cFind g 0).1)] _
  exact zs_ireturn rfl rfl (⟨rfl, hQ⟩)

theorem c_X7_mixed (p : Int) : ZC mX7_mixed 13 (fun av g => av = [ZR 7 0, ZI p] ∧ CP g) (fun _ g r g' => r = some (ZI (cMixed g p)) ∧ zQR 1 g g') := by
  refine zc_of gX7_mixed (fun av g hp => by obtain ⟨rfl, -⟩ := hp; exact Nat.le_of_ble_eq_true rfl) (fun Y av g hwf hrg hp hok => ?_)
  obtain ⟨rfl, hp⟩ := hp
  show ZVV _ _ _ 0 [ZR 7 0, ZI p, ZX 99] [] _
  have hn6 := hp.1.1.2.2.1
  refine zs_iload_n (j := 1) (i := 1) rfl rfl rfl ?_
  refine zs_iconst (n := (-1)) rfl ⟨by omega, by omega⟩ ?_
  refine zs_icmp_eq 17 rfl (by omega) (fun hc_2 => ?_) (fun hc_2 => ?_)
  · refine zs_aload_n (j := 0) (i := 0) rfl rfl rfl ?_
    refine zs_getfield (f := 7) (k := 7) rfl rfl (trivial) ?_
    show ZVV _ _ _ _ _ (ZR 1 0 :: _) _
    refine zs_aload_n (j := 0) (i := 0) rfl rfl rfl ?_
    refine zs_getfield (f := 7) (k := 5) rfl rfl (trivial) ?_
    show ZVV _ _ _ _ _ (ZR 2 0 :: _) _
    refine zs_callV (host := "") rfl kX7_98 vX1_startFrom (c_X1_startFrom 0) [ZR 2 0] [] rfl (zroom_of (by omega)) rfl (Nat.le_of_ble_eq_true rfl) ⟨rfl, ⟨by decide, hp.2.1.2.1, Int.le_trans hp.2.2 (by decide)⟩, hp.1.2.1.1.1⟩ (fun r_25 g_25 hq_25 => ?_)
    obtain ⟨hr_25, hg_25⟩ := hq_25
    rw [hr_25]
    obtain ⟨hL25, hH25, hT25, hV25, hB25, hs25, eL18_25, eL3_25, eL0_25, eL8_25⟩ := start_okx hp hg_25
    have e2_25 : g_25 2 0 = g 2 0 := hV25 2 0 rfl
    have e15_25 : g_25 15 0 = g 15 0 := hV25 15 0 rfl
    have e16_25 : g_25 16 0 = g 16 0 := hV25 16 0 rfl
    have e17_25 : g_25 17 0 = g 17 0 := hV25 17 0 rfl
    have e18_25 : g_25 18 0 = g 18 0 := hV25 18 0 rfl
    have e19_25 : g_25 19 0 = g 19 0 := hV25 19 0 rfl
    show ZVV _ _ _ 28 _ [] g_25
    refine zs_aload_n (j := 0) (i := 0) rfl rfl rfl ?_
    refine zs_getfield (f := 7) (k := 4) rfl rfl (trivial) ?_
    show ZVV _ _ _ _ _ (ZR 6 0 :: _) _
    show ZVV _ _ _ 32 _ _ _
    refine zs_aload_n (j := 0) (i := 0) rfl rfl rfl ?_
    refine zs_getfield (f := 7) (k := 7) rfl rfl (trivial) ?_
    show ZVV _ _ _ _ _ (ZR 1 0 :: _) _
    refine zs_iconst (n := 1) rfl ⟨by omega, by omega⟩ ?_
    refine zs_callV (host := "") rfl kX7_171 vX6_find (c_X6_find 1) [ZR 1 0, ZI 1] [] rfl (zroom_of (by omega)) rfl (Nat.le_of_ble_eq_true rfl) ⟨rfl, ⟨hL25, hH25⟩, by decide⟩ (fun r_37 g_37 hq_37 => ?_)
    obtain ⟨hr_37, hW_37, hL_37, hA_37⟩ := hq_37
    obtain ⟨hA2, hM3, hQ⟩ := find_ok hp hg_25 hW_37 hL_37.1 hA_37
    have hf1 : g_37 6 0 3 = (cFind g 1).1 := congrArg Prod.fst hA2
    have hf2 : ∀ c : Nat, (c : Int) < g 2 0 3 → g_37 23 0 c = (cFind g 1).2 c := fun c hc => by
      have h9 := congrFun (congrArg Prod.snd hA2) c
      have h8 : tCut (g_37 2 2 3) (g_37 23 0) c = (cFind g 1).2 c := h9
      unfold tCut at h8
      rw [hM3, if_pos hc] at h8
      exact h8
    have hfr := cFind_rng g 1
    rw [hr_37, hf1]
    show ZVV _ _ _ 40 _ [ZI (if (cFind g 1).1 = 1000 then -5 else (cFind g 1).1)] _
    refine zs_istore_n (j := 2) (i := 2) rfl rfl (by decide) (by intro r x hr; have hr2 : r = 1 := (by omega); subst hr2; intro z; cases z) ?_
    show ZVV _ _ _ _ [ZR 7 0, ZI p, ZI (if (cFind g 1).1 = 1000 then -5 else (cFind g 1).1)] _ _
    refine zs_iload_n (j := 1) (i := 1) rfl rfl rfl ?_
    refine zs_iconst (n := (-1)) rfl ⟨by omega, by omega⟩ ?_
    refine zs_icmp_eq 50 rfl (by omega) (fun hc_43 => ?_) (fun hc_43 => ?_)
    · refine zs_iload_n (j := 2) (i := 2) rfl rfl rfl ?_
      refine zs_goto 63 rfl (by omega) ?_
      exact zs_ireturn rfl rfl (⟨by
      unfold cMixed
      have h0 : ¬ (p ≠ -1 ∧ ¬ (0 ≤ p ∧ p < g 2 0 3)) := by omega
      rw [if_neg h0]
      by_cases h9 : (cFind g 1).1 = 1000
      · rw [if_pos h9, if_pos h9]
      · rw [if_neg h9, if_neg h9]
        have : p = -1 := by
          first
          | omega
          | (rw [if_neg h9] at hc_47; omega)
        rw [if_pos this], hQ⟩)
    · refine zs_iload_n (j := 2) (i := 2) rfl rfl rfl ?_
      refine zs_if_ge 54 rfl (by omega) (fun hc_47 => ?_) (fun hc_47 => ?_)
      · refine zs_aload_n (j := 0) (i := 0) rfl rfl rfl ?_
        refine zs_getfield (f := 7) (k := 4) rfl rfl (trivial) ?_
        show ZVV _ _ _ _ _ (ZR 6 0 :: _) _
        refine zs_getfield (f := 6) (k := 0) rfl rfl (trivial) ?_
        show ZVV _ _ _ _ _ (ZR 23 0 :: _) _
        refine zs_iload_n (j := 1) (i := 1) rfl rfl rfl ?_
        refine zs_iald (n := 6) rfl rfl (by omega) (by omega) ?_
        exact zs_ireturn rfl rfl (⟨by
      unfold cMixed
      have h9 : ¬ (cFind g 1).1 = 1000 := fun z => by rw [if_pos z] at hc_47; omega
      have h0 : ¬ (p ≠ -1 ∧ ¬ (0 ≤ p ∧ p < g 2 0 3)) := by omega
      rw [if_neg h0, if_neg h9, if_neg (by omega), ← hf2 p.toNat (by omega)], hQ⟩)
      · refine zs_iload_n (j := 2) (i := 2) rfl rfl rfl ?_
        refine zs_goto 63 rfl (by omega) ?_
        exact zs_ireturn rfl rfl (⟨by
      unfold cMixed
      have h0 : ¬ (p ≠ -1 ∧ ¬ (0 ≤ p ∧ p < g 2 0 3)) := by omega
      rw [if_neg h0]
      by_cases h9 : (cFind g 1).1 = 1000
      · rw [if_pos h9, if_pos h9]
      · rw [if_neg h9, if_neg h9]
        have : p = -1 := by
          first
          | omega
          | (rw [if_neg h9] at hc_47; omega)
        rw [if_pos this], hQ⟩)
  · refine zs_aload_n (j := 0) (i := 0) rfl rfl rfl ?_
    refine zs_iload_n (j := 1) (i := 1) rfl rfl rfl ?_
    refine zs_callV (host := "") rfl kX7_95 vX7_isPerson (c_X7_isPerson p) [ZI p] [] rfl (zroom_of (by omega)) rfl (Nat.le_of_ble_eq_true rfl) (⟨rfl, trivial⟩) (fun r_7 g_7 hq_7 => ?_)
    obtain ⟨hr_7, hg_7⟩ := hq_7
    rw [hr_7, hg_7]
    show ZVV _ _ _ 10 _ [ZI (if 0 ≤ p ∧ p < g 2 0 3 then 1 else 0)] _
    refine zs_if_ne 17 rfl (by omega) (fun hc_10 => ?_) (fun hc_10 => ?_)
    · refine zs_aload_n (j := 0) (i := 0) rfl rfl rfl ?_
      refine zs_getfield (f := 7) (k := 7) rfl rfl (trivial) ?_
      show ZVV _ _ _ _ _ (ZR 1 0 :: _) _
      refine zs_aload_n (j := 0) (i := 0) rfl rfl rfl ?_
      refine zs_getfield (f := 7) (k := 5) rfl rfl (trivial) ?_
      show ZVV _ _ _ _ _ (ZR 2 0 :: _) _
      refine zs_callV (host := "") rfl kX7_98 vX1_startFrom (c_X1_startFrom 0) [ZR 2 0] [] rfl (zroom_of (by omega)) rfl (Nat.le_of_ble_eq_true rfl) ⟨rfl, ⟨by decide, hp.2.1.2.1, Int.le_trans hp.2.2 (by decide)⟩, hp.1.2.1.1.1⟩ (fun r_25 g_25 hq_25 => ?_)
      obtain ⟨hr_25, hg_25⟩ := hq_25
      rw [hr_25]
      obtain ⟨hL25, hH25, hT25, hV25, hB25, hs25, eL18_25, eL3_25, eL0_25, eL8_25⟩ := start_okx hp hg_25
      have e2_25 : g_25 2 0 = g 2 0 := hV25 2 0 rfl
      have e15_25 : g_25 15 0 = g 15 0 := hV25 15 0 rfl
      have e16_25 : g_25 16 0 = g 16 0 := hV25 16 0 rfl
      have e17_25 : g_25 17 0 = g 17 0 := hV25 17 0 rfl
      have e18_25 : g_25 18 0 = g 18 0 := hV25 18 0 rfl
      have e19_25 : g_25 19 0 = g 19 0 := hV25 19 0 rfl
      show ZVV _ _ _ 28 _ [] g_25
      refine zs_aload_n (j := 0) (i := 0) rfl rfl rfl ?_
      refine zs_getfield (f := 7) (k := 4) rfl rfl (trivial) ?_
      show ZVV _ _ _ _ _ (ZR 6 0 :: _) _
      show ZVV _ _ _ 32 _ _ _
      refine zs_aload_n (j := 0) (i := 0) rfl rfl rfl ?_
      refine zs_getfield (f := 7) (k := 7) rfl rfl (trivial) ?_
      show ZVV _ _ _ _ _ (ZR 1 0 :: _) _
      refine zs_iconst (n := 1) rfl ⟨by omega, by omega⟩ ?_
      refine zs_callV (host := "") rfl kX7_171 vX6_find (c_X6_find 1) [ZR 1 0, ZI 1] [] rfl (zroom_of (by omega)) rfl (Nat.le_of_ble_eq_true rfl) ⟨rfl, ⟨hL25, hH25⟩, by decide⟩ (fun r_37 g_37 hq_37 => ?_)
      obtain ⟨hr_37, hW_37, hL_37, hA_37⟩ := hq_37
      obtain ⟨hA2, hM3, hQ⟩ := find_ok hp hg_25 hW_37 hL_37.1 hA_37
      have hf1 : g_37 6 0 3 = (cFind g 1).1 := congrArg Prod.fst hA2
      have hf2 : ∀ c : Nat, (c : Int) < g 2 0 3 → g_37 23 0 c = (cFind g 1).2 c := fun c hc => by
        have h9 := congrFun (congrArg Prod.snd hA2) c
        have h8 : tCut (g_37 2 2 3) (g_37 23 0) c = (cFind g 1).2 c := h9
        unfold tCut at h8
        rw [hM3, if_pos hc] at h8
        exact h8
      have hfr := cFind_rng g 1
      rw [hr_37, hf1]
      show ZVV _ _ _ 40 _ [ZI (if (cFind g 1).1 = 1000 then -5 else (cFind g 1).1)] _
      refine zs_istore_n (j := 2) (i := 2) rfl rfl (by decide) (by intro r x hr; have hr2 : r = 1 := (by omega); subst hr2; intro z; cases z) ?_
      show ZVV _ _ _ _ [ZR 7 0, ZI p, ZI (if (cFind g 1).1 = 1000 then -5 else (cFind g 1).1)] _ _
      refine zs_iload_n (j := 1) (i := 1) rfl rfl rfl ?_
      refine zs_iconst (n := (-1)) rfl ⟨by omega, by omega⟩ ?_
      refine zs_icmp_eq 50 rfl (by omega) (fun hc_43 => ?_) (fun hc_43 => ?_)
      · refine zs_iload_n (j := 2) (i := 2) rfl rfl rfl ?_
        refine zs_goto 63 rfl (by omega) ?_
        exact zs_ireturn rfl rfl (⟨by
      unfold cMixed
      have h0 : ¬ (p ≠ -1 ∧ ¬ (0 ≤ p ∧ p < g 2 0 3)) := by omega
      rw [if_neg h0]
      by_cases h9 : (cFind g 1).1 = 1000
      · rw [if_pos h9, if_pos h9]
      · rw [if_neg h9, if_neg h9]
        have : p = -1 := by
          first
          | omega
          | (rw [if_neg h9] at hc_47; omega)
        rw [if_pos this], hQ⟩)
      · refine zs_iload_n (j := 2) (i := 2) rfl rfl rfl ?_
        refine zs_if_ge 54 rfl (by omega) (fun hc_47 => ?_) (fun hc_47 => ?_)
        · refine zs_aload_n (j := 0) (i := 0) rfl rfl rfl ?_
          refine zs_getfield (f := 7) (k := 4) rfl rfl (trivial) ?_
          show ZVV _ _ _ _ _ (ZR 6 0 :: _) _
          refine zs_getfield (f := 6) (k := 0) rfl rfl (trivial) ?_
          show ZVV _ _ _ _ _ (ZR 23 0 :: _) _
          refine zs_iload_n (j := 1) (i := 1) rfl rfl rfl ?_
          refine zs_iald (n := 6) rfl rfl (by omega) (by omega) ?_
          exact zs_ireturn rfl rfl (⟨by
      unfold cMixed
      have h9 : ¬ (cFind g 1).1 = 1000 := fun z => by rw [if_pos z] at hc_47; omega
      have h0 : ¬ (p ≠ -1 ∧ ¬ (0 ≤ p ∧ p < g 2 0 3)) := by omega
      rw [if_neg h0, if_neg h9, if_neg (by omega), ← hf2 p.toNat (by omega)], hQ⟩)
        · refine zs_iload_n (j := 2) (i := 2) rfl rfl rfl ?_
          refine zs_goto 63 rfl (by omega) ?_
          exact zs_ireturn rfl rfl (⟨by
      unfold cMixed
      have h0 : ¬ (p ≠ -1 ∧ ¬ (0 ≤ p ∧ p < g 2 0 3)) := by omega
      rw [if_neg h0]
      by_cases h9 : (cFind g 1).1 = 1000
      · rw [if_pos h9, if_pos h9]
      · rw [if_neg h9, if_neg h9]
        have : p = -1 := by
          first
          | omega
          | (rw [if_neg h9] at hc_47; omega)
        rw [if_pos this], hQ⟩)
    · refine zs_sipush (n := (-10001)) rfl ⟨by omega, by omega⟩ ?_
      exact zs_ireturn rfl rfl (⟨by unfold cMixed; rw [if_pos (by omega)], ⟨zVS.rf g, hp.2.1, by omega⟩⟩)

def tTaken (a k : Int) (m : Nat) (c : Int) : Int := match m with
  | 0 => -12
  | m + 1 => if c < 0 then -12 else if c = k then a else tTaken a k m ((zxr 0).getD c.toNat 0)
theorem tTaken_s (a k : Int) (m : Nat) (c : Int) : tTaken a k (m + 1) c = if c < 0 then -12 else if c = k then a else tTaken a k m ((zxr 0).getD c.toNat 0) := rfl
def cTaken (g : ZG) (p k : Int) : Int := if k < 0 ∨ 6 < k then -2 else if ¬ (0 ≤ p ∧ p < g 2 0 3) then -11 else tTaken (g 15 0 p.toNat) k 3 (g 15 0 p.toNat)
theorem zxr0_rng : ∀ c : Nat, c < 7 → -1 ≤ (zxr 0).getD c 0 ∧ (zxr 0).getD c 0 ≤ 6 := by decide
theorem l_X7_taken {Y : ZW} {Q : Option ZV → ZG → Prop} {g : ZG} {p k : Int} (hpp : 0 ≤ p ∧ p < 6) : ∀ (m i : Nat) (c : Int), i + m = 3 → (-1 ≤ c ∧ c ≤ 6) → Q (some (ZI (tTaken (g 15 0 p.toNat) k m c))) g → ZVV Y mX7_taken (zcx Y 2 Q) 37 [ZR 7 0, ZI p, ZI k, ZI c, ZI (i : Int)] [] g := by
  intro m
  induction m with
  | zero =>
    intro i c hi hc hq
    refine zs_iload (i := 4) rfl rfl ?_
    refine zs_iconst (n := 3) rfl ⟨by omega, by omega⟩ ?_
    refine zs_icmp_ge 74 rfl (by omega) (fun hc_40 => ?_) (fun hc_40 => ?_)
    · refine zs_bipush (n := (-12)) rfl ⟨by omega, by omega⟩ ?_
      exact zs_ireturn rfl rfl (hq)
    · exfalso; omega
  | succ m ih =>
    intro i c hi hc hq
    refine zs_iload (i := 4) rfl rfl ?_
    refine zs_iconst (n := 3) rfl ⟨by omega, by omega⟩ ?_
    refine zs_icmp_ge 74 rfl (by omega) (fun hc_40 => ?_) (fun hc_40 => ?_)
    · exfalso; omega
    · refine zs_iload_n (j := 3) (i := 3) rfl rfl rfl ?_
      refine zs_if_lt 74 rfl (by omega) (fun hc_44 => ?_) (fun hc_44 => ?_)
      · refine zs_bipush (n := (-12)) rfl ⟨by omega, by omega⟩ ?_
        exact zs_ireturn rfl rfl (by rw [tTaken_s, if_pos (by omega)] at hq; exact hq)
      · refine zs_iload_n (j := 3) (i := 3) rfl rfl rfl ?_
        refine zs_iload_n (j := 2) (i := 2) rfl rfl rfl ?_
        refine zs_icmp_ne 62 rfl (by omega) (fun hc_49 => ?_) (fun hc_49 => ?_)
        · rw [tTaken_s, if_neg (by omega), if_neg (by omega)] at hq
          have hxr := zxr0_rng c.toNat (by omega)
          refine zs_gets (k := 0) rfl rfl (by decide) ?_
          refine zs_iload_n (j := 3) (i := 3) rfl rfl rfl ?_
          refine zs_xald rfl (by decide) (by omega) (by show _ < ((7 : Nat) : Int); omega) ?_
          refine zs_istore_n (j := 3) (i := 3) rfl rfl (by decide) (by intro r x hr; have hr2 : r = 2 := (by omega); subst hr2; intro z; cases z) ?_
          show ZVV _ _ _ _ [ZR 7 0, ZI p, ZI k, ZI ((zxr 0).getD c.toNat 0), ZI (i : Int)] _ _
          refine zs_iinc_r (i := 4) rfl rfl (by intro r x hr; have hr2 : r = 3 := (by omega); subst hr2; intro z; cases z) ⟨by omega, by omega⟩ ?_
          show ZVV _ _ _ _ [ZR 7 0, ZI p, ZI k, ZI ((zxr 0).getD c.toNat 0), ZI ((i : Int) + 1)] _ _
          refine zs_goto 37 rfl (by omega) ?_
          exact ih (i + 1) _ (by omega) hxr hq
        · refine zs_aload_n (j := 0) (i := 0) rfl rfl rfl ?_
          refine zs_getfield (f := 7) (k := 5) rfl rfl (trivial) ?_
          show ZVV _ _ _ _ _ (ZR 2 0 :: _) _
          refine zs_getfield (f := 2) (k := 4) rfl rfl (trivial) ?_
          show ZVV _ _ _ _ _ (ZR 15 0 :: _) _
          refine zs_iload_n (j := 1) (i := 1) rfl rfl rfl ?_
          refine zs_iald (n := 6) rfl rfl (by omega) (by omega) ?_
          exact zs_ireturn rfl rfl (by rw [tTaken_s, if_neg (by omega), if_pos (by omega)] at hq; exact hq)
theorem c_X7_taken (p k : Int) : ZC mX7_taken 2 (fun av g => av = [ZR 7 0, ZI p, ZI k] ∧ COK g ∧ True) (fun _ g r g' => r = some (ZI (cTaken g p k)) ∧ g' = g) := by
  refine zc_of gX7_taken (fun av g hp => by obtain ⟨rfl, -⟩ := hp; exact Nat.le_of_ble_eq_true rfl) (fun Y av g hwf hrg hp hok => ?_)
  obtain ⟨rfl, hp⟩ := hp
  show ZVV _ _ _ 0 [ZR 7 0, ZI p, ZI k, ZX 99, ZX 99] [] _
  have hn6 := hp.1.1.2.2.1
  refine zs_iload_n (j := 2) (i := 2) rfl rfl rfl ?_
  refine zs_if_lt 10 rfl (by omega) (fun hc_1 => ?_) (fun hc_1 => ?_)
  · refine zs_bipush (n := (-2)) rfl ⟨by omega, by omega⟩ ?_
    exact zs_ireturn rfl rfl (⟨by unfold cTaken; rw [if_pos (by omega)], rfl⟩)
  · refine zs_iload_n (j := 2) (i := 2) rfl rfl rfl ?_
    refine zs_bipush (n := 6) rfl ⟨by omega, by omega⟩ ?_
    refine zs_icmp_le 13 rfl (by omega) (fun hc_7 => ?_) (fun hc_7 => ?_)
    · refine zs_aload_n (j := 0) (i := 0) rfl rfl rfl ?_
      refine zs_iload_n (j := 1) (i := 1) rfl rfl rfl ?_
      refine zs_callV (host := "") rfl kX7_95 vX7_isPerson (c_X7_isPerson p) [ZI p] [] rfl (zroom_of (by omega)) rfl (Nat.le_of_ble_eq_true rfl) (⟨rfl, trivial⟩) (fun r_15 g_15 hq_15 => ?_)
      obtain ⟨hr_15, hg_15⟩ := hq_15
      rw [hr_15, hg_15]
      show ZVV _ _ _ 18 _ [ZI (if 0 ≤ p ∧ p < g 2 0 3 then 1 else 0)] _
      refine zs_if_ne 24 rfl (by omega) (fun hc_18 => ?_) (fun hc_18 => ?_)
      · refine zs_aload_n (j := 0) (i := 0) rfl rfl rfl ?_
        refine zs_getfield (f := 7) (k := 5) rfl rfl (trivial) ?_
        show ZVV _ _ _ _ _ (ZR 2 0 :: _) _
        refine zs_getfield (f := 2) (k := 4) rfl rfl (trivial) ?_
        show ZVV _ _ _ _ _ (ZR 15 0 :: _) _
        refine zs_iload_n (j := 1) (i := 1) rfl rfl rfl ?_
        refine zs_iald (n := 6) rfl rfl (by omega) (by omega) ?_
        refine zs_istore_n (j := 3) (i := 3) rfl rfl (by decide) (by intro r x hr; have hr2 : r = 2 := (by omega); subst hr2; intro z; cases z) ?_
        show ZVV _ _ _ _ [ZR 7 0, ZI p, ZI k, ZI (g 15 0 p.toNat), ZX 99] _ _
        refine zs_iconst (n := 0) rfl ⟨by omega, by omega⟩ ?_
        show ZVV _ _ _ 35 _ _ _
        refine zs_istore (i := 4) rfl (by decide) (by intro r x hr; have hr2 : r = 3 := (by omega); subst hr2; intro z; cases z) ?_
        show ZVV _ _ _ _ [ZR 7 0, ZI p, ZI k, ZI (g 15 0 p.toNat), ZI 0] _ _
        have hkd := (hp.1.1.2.2.2.2.2 p.toNat (by omega)).2.2.1
        exact l_X7_taken ⟨by omega, by omega⟩ 3 0 _ rfl ⟨by omega, by omega⟩ ⟨by unfold cTaken; rw [if_neg (by omega), if_neg (by omega)], rfl⟩
      · refine zs_bipush (n := (-11)) rfl ⟨by omega, by omega⟩ ?_
        exact zs_ireturn rfl rfl (⟨by unfold cTaken; rw [if_neg (by omega), if_pos (by omega)], rfl⟩)
    · refine zs_bipush (n := (-2)) rfl ⟨by omega, by omega⟩ ?_
      exact zs_ireturn rfl rfl (⟨by unfold cTaken; rw [if_pos (by omega)], rfl⟩)

