theorem zifp1 {p : Prop} {d : Decidable p} (h : (if p then (1 : Int) else 0) ≠ 0) : p := by by_cases k : p; exact k; rw [if_neg k] at h; exact absurd rfl h
theorem zifp0 {p : Prop} {d : Decidable p} (h : (if p then (1 : Int) else 0) = 0) : ¬ p := by intro k; rw [if_pos k] at h; exact absurd h (by decide)
theorem tStepF_mv : ∀ (n k : Nat) (t : ZT), tmv (tStepF t n k).2 ≤ tmv t + 1 := by
  intro n
  induction n with
  | zero => intro k t; show tmv t ≤ _; omega
  | succ n ih =>
    intro k t
    rw [tStepF_s]
    split
    · exact ih (k + 1) t
    · exact Int.le_refl _
/-- a life on its way from the town that is now -/
def zLV (g : ZG) (c : Int) (G : ZG) : Prop := LOK G ∧ LHH G ∧ zVS g G ∧ ZB G ∧ G 1 0 8 ≤ g 1 0 8 + c ∧ G 2 2 8 ≤ 9999 + c
theorem zLV.le {g G : ZG} {c d : Int} (h : zLV g c G) (hd : c ≤ d) : zLV g d G := ⟨h.1, h.2.1, h.2.2.1, h.2.2.2.1, by have := h.2.2.2.2.1; omega, by have := h.2.2.2.2.2; omega⟩
theorem zLV.q {g G : ZG} {c : Int} (h : zLV g c G) : zQR c g G := ⟨h.2.2.1, lc_of h.1 h.2.2.2.1, h.2.2.2.2.1⟩
theorem zLV.step {g G M : ZG} {c d : Int} (h : zLV g c G) (hd : c + 1 ≤ d) (hT : zTL M = (tStep (zTL G)).2) (hL : LOK M) (hH : LHH M) (hS : zST G M) (hs : M 1 0 8 ≤ G 1 0 8 + 1) : zLV g d M := by
  refine ⟨hL, hH, h.2.2.1.tr hS.vs, hS.zb h.2.2.2.1, by have := h.2.2.2.2.1; omega, ?_⟩
  have h1 := tStepF_mv (tnp (zTL G)).toNat 0 (zTL G)
  have h2 : tmv (zTL M) = tmv (tStep (zTL G)).2 := by rw [hT]
  have h3 : tmv (zTL M) = M 2 2 8 := rfl
  have h4 : tmv (zTL G) = G 2 2 8 := rfl
  have h5 : tmv (tStep (zTL G)).2 = tmv (tStepF (zTL G) (tnp (zTL G)).toNat 0).2 := rfl
  have := h.2.2.2.2.2
  omega
theorem zLV.sl {g G M : ZG} {c : Int} (h : zLV g c G) (hS : zSL G M) (hL : LOK M) : zLV g c M := by
  refine ⟨hL, fun p hp => ?_, h.2.2.1.tr hS.vs, hS.zb h.2.2.2.1, ?_, ?_⟩
  · rw [hS.1 2 (by decide) (by decide) (by decide) (by decide)] at hp
    rw [hS.1 18 (by decide) (by decide) (by decide) (by decide)]
    exact h.2.1 p hp
  · rw [hS.2 0 8 (by decide) (by decide) (by decide)]; exact h.2.2.2.2.1
  · rw [hS.1 2 (by decide) (by decide) (by decide) (by decide)]; exact h.2.2.2.2.2
theorem zLV.start {g G : ZG} (h : CP g) (hG : G = zup (zup (zcopyF g 2 0) 1 0 1 (-1)) 1 0 8 (g 1 0 8 + 1)) : zLV g 1 G ∧ zTL G = cT g := by
  obtain ⟨h1, h2, h3, h4, h5, h6, -, -, -, h7⟩ := start_okx h hG
  exact ⟨⟨h1, h2, h4, h5, by omega, by have := h.1.2.2.2; omega⟩, h3⟩
def tWF (t : ZT) (w : Int) : ZT := (t.1, t.2.1, t.2.2.1, w)
theorem lok_wf {G : ZG} (h : LOK G) {w : Int} (hw : -1 ≤ w ∧ w ≤ 100) : LOK (zup G 1 0 1 w) := by
  have e8 : zup G 1 0 1 w 1 0 8 = G 1 0 8 := zup_nk _ _ _ _ _ _ (by decide)
  have e1 : zup G 1 0 1 w 1 0 1 = w := zup_eq _ _ _ _ _
  have e2 : zup G 1 0 1 w 2 = G 2 := zup_nf _ _ _ _ (by decide)
  have e3 : zup G 1 0 1 w 3 = G 3 := zup_nf _ _ _ _ (by decide)
  have e12 : zup G 1 0 1 w 12 = G 12 := zup_nf _ _ _ _ (by decide)
  have e13 : zup G 1 0 1 w 13 = G 13 := zup_nf _ _ _ _ (by decide)
  have e14 : zup G 1 0 1 w 14 = G 14 := zup_nf _ _ _ _ (by decide)
  have e15 : zup G 1 0 1 w 15 = G 15 := zup_nf _ _ _ _ (by decide)
  have e16 : zup G 1 0 1 w 16 = G 16 := zup_nf _ _ _ _ (by decide)
  have e17 : zup G 1 0 1 w 17 = G 17 := zup_nf _ _ _ _ (by decide)
  have e18 : zup G 1 0 1 w 18 = G 18 := zup_nf _ _ _ _ (by decide)
  have e20 : zup G 1 0 1 w 20 = G 20 := zup_nf _ _ _ _ (by decide)
  unfold LOK SOK HOLD CK zwC at *
  rw [e1, e8, e2, e3, e12, e13, e14, e15, e16, e17, e18, e20]
  exact ⟨h.1, h.2.1, h.2.2.1, hw, h.2.2.2.2⟩
theorem ztl_wf (G : ZG) (w : Int) : zTL (zup G 1 0 1 w) = tWF (zTL G) w := by
  unfold zTL zTC zwC tWF
  rw [zup_eq, zup_nf _ _ _ _ (show (2 : Nat) ≠ 1 by decide), zup_nf _ _ _ _ (show (3 : Nat) ≠ 1 by decide), zup_nf _ _ _ _ (show (15 : Nat) ≠ 1 by decide), zup_nf _ _ _ _ (show (16 : Nat) ≠ 1 by decide), zup_nf _ _ _ _ (show (17 : Nat) ≠ 1 by decide), zup_nf _ _ _ _ (show (18 : Nat) ≠ 1 by decide), zup_nf _ _ _ _ (show (20 : Nat) ≠ 1 by decide)]
theorem zLV.wf {g G : ZG} {c : Int} (h : zLV g c G) {w : Int} (hw : -1 ≤ w ∧ w ≤ 100) : zLV g c (zup G 1 0 1 w) := by
  refine ⟨lok_wf h.1 hw, ?_, ?_, ?_, ?_, ?_⟩
  · unfold LHH; rw [zup_nf _ _ _ _ (show (2 : Nat) ≠ 1 by decide), zup_nf _ _ _ _ (show (18 : Nat) ≠ 1 by decide)]; exact h.2.1
  · intro f i hv
    rw [zup_nf _ _ _ _ (zvis_no hv).1]; exact h.2.2.1 f i hv
  · intro f i k h1 h2
    rw [zup_nf _ _ _ _ (by omega)]; exact h.2.2.2.1 f i k h1 h2
  · rw [zup_nk _ _ _ _ _ _ (by decide)]; exact h.2.2.2.2.1
  · rw [zup_nf _ _ _ _ (show (2 : Nat) ≠ 1 by decide)]; exact h.2.2.2.2.2
def tlp (t : ZT) : Int := zlp (tn t) (tsh t) (tnp t) (tsr t) (tho t)
def tRest (n k : Nat) (t : ZT) : Int := match n with
  | 0 => -5
  | n + 1 => if (tStep t).1 < 0 then (k : Int) else tRest n (k + 1) (tStep t).2
theorem tRest_s (n k : Nat) (t : ZT) : tRest (n + 1) k t = if (tStep t).1 < 0 then (k : Int) else tRest n (k + 1) (tStep t).2 := rfl
def tSame (t : ZT) (ho : Nat → Int) : Bool := decide (zfst (fun j => decide (tho t j ≠ ho j)) (tnp t).toNat 0 = -1)
def tAgain (ho : Nat → Int) (n k : Nat) (t : ZT) : Int := match n with
  | 0 => -5
  | n + 1 => if (tStep t).1 < 0 then -5 else if tSame (tStep t).2 ho = true then (k : Int) else tAgain ho n (k + 1) (tStep t).2
theorem tAgain_s (ho : Nat → Int) (n k : Nat) (t : ZT) : tAgain ho (n + 1) k t = if (tStep t).1 < 0 then -5 else if tSame (tStep t).2 ho = true then (k : Int) else tAgain ho n (k + 1) (tStep t).2 := rfl
def tRun (n k : Nat) (t : ZT) : Nat × ZT := match n with
  | 0 => (k, t)
  | n + 1 => if (tStep t).1 < 0 then (k, (tStep t).2) else tRun n (k + 1) (tStep t).2
theorem tRun_s (n k : Nat) (t : ZT) : tRun (n + 1) k t = if (tStep t).1 < 0 then (k, (tStep t).2) else tRun n (k + 1) (tStep t).2 := rfl
def tLook (b : Nat → Int) (n k : Nat) (t : ZT) : Int := match n with
  | 0 => -5
  | n + 1 => if (tStep t).1 ≠ b k then (k : Int) else tLook b n (k + 1) (tStep t).2
theorem tLook_s (b : Nat → Int) (n k : Nat) (t : ZT) : tLook b (n + 1) k t = if (tStep t).1 ≠ b k then (k : Int) else tLook b n (k + 1) (tStep t).2 := rfl
def tEdge (n : Nat) (t : ZT) : Int := match n with
  | 0 => -5
  | n + 1 => if tAll (tWF t n) = true then (n : Int) else tEdge n t
theorem tEdge_s (n : Nat) (t : ZT) : tEdge (n + 1) t = if tAll (tWF t n) = true then (n : Int) else tEdge n t := rfl
theorem l_X7_rest {Y : ZW} {Q : Option ZV → ZG → Prop} {g : ZG}  (hp : CP g) : ∀ (m k : Nat) (G : ZG), k + m = 101 → zLV g ((k : Int) + 1) G → (∀ M, zQR 102 g M → Q (some (ZI (tRest m k (zTL G)))) M) → ZVV Y mX7_rest (zcx Y 7 Q) 13 [ZR 7 0, ZI (k : Int)] [] G := by
  intro m
  induction m with
  | zero =>
    intro k G hk hLS hq
    refine zs_iload_n (j := 1) (i := 1) rfl rfl rfl ?_
    refine zs_bipush (n := 100) rfl ⟨by omega, by omega⟩ ?_
    refine zs_icmp_gt 37 rfl (by omega) (fun hc_16 => ?_) (fun hc_16 => ?_)
    · refine zs_bipush (n := (-5)) rfl ⟨by omega, by omega⟩ ?_
      exact zs_ireturn rfl rfl (hq _ (hLS.le (by omega)).q)
    · exfalso; omega
  | succ m ih =>
    intro k G hk hLS hq
    refine zs_iload_n (j := 1) (i := 1) rfl rfl rfl ?_
    refine zs_bipush (n := 100) rfl ⟨by omega, by omega⟩ ?_
    refine zs_icmp_gt 37 rfl (by omega) (fun hc_16 => ?_) (fun hc_16 => ?_)
    · exfalso; omega
    · refine zs_aload_n (j := 0) (i := 0) rfl rfl rfl ?_
      refine zs_getfield (f := 7) (k := 7) rfl rfl (trivial) ?_
      show ZVV _ _ _ _ _ (ZR 1 0 :: _) _
      refine zs_callV (host := "") rfl kX7_158 vX1_step c_X1_step [] [] rfl (zroom_of (by omega)) rfl (Nat.le_of_ble_eq_true rfl) ⟨rfl, hLS.1, hLS.2.1, (by have := hLS.2.2.2.2.2; omega), (by have := hLS.2.2.2.2.1; have := hp.2.2; omega)⟩ (fun r_23 g_23 hq_23 => ?_)
      obtain ⟨hr_23, hT_23, hL_23, hH_23, hS_23, hs_23⟩ := hq_23
      rw [hr_23]
      have hLS_23 := fun d hd => hLS.step (d := d) hd hT_23 hL_23 hH_23 hS_23 hs_23
      show ZVV _ _ _ 26 _ [ZI ((tStep (zTL G)).1)] _
      refine zs_if_ge 31 rfl (by omega) (fun hc_26 => ?_) (fun hc_26 => ?_)
      · refine zs_iinc_r (i := 1) rfl rfl (by intro r x hr; have hr2 : r = 0 := (by omega); subst hr2; intro z; cases z) ⟨by omega, by omega⟩ ?_
        show ZVV _ _ _ _ [ZR 7 0, ZI ((k : Int) + 1)] _ _
        refine zs_goto 13 rfl (by omega) ?_
        exact ih (k + 1) _ (by omega) (hLS_23 _ (by omega)) (fun M z => by have := hq M z; rw [tRest_s, if_neg (by omega), ← hT_23] at this; exact this)
      · refine zs_iload_n (j := 1) (i := 1) rfl rfl rfl ?_
        exact zs_ireturn rfl rfl (by have := hq _ ((hLS_23 _ (Int.le_refl _)).le (by omega)).q; rw [tRest_s, if_pos (by omega)] at this; exact this)
theorem c_X7_rest  : ZC mX7_rest 7 (fun av g => av = [ZR 7 0] ∧ CP g) (fun _ g r g' => r = some (ZI (tRest 101 0 (cT g))) ∧ zQR 102 g g') := by
  refine zc_of gX7_rest (fun av g hp => by obtain ⟨rfl, -⟩ := hp; exact Nat.le_of_ble_eq_true rfl) (fun Y av g hwf hrg hp hok => ?_)
  obtain ⟨rfl, hp⟩ := hp
  show ZVV _ _ _ 0 [ZR 7 0, ZX 99] [] _
  refine zs_aload_n (j := 0) (i := 0) rfl rfl rfl ?_
  refine zs_getfield (f := 7) (k := 7) rfl rfl (trivial) ?_
  show ZVV _ _ _ _ _ (ZR 1 0 :: _) _
  refine zs_aload_n (j := 0) (i := 0) rfl rfl rfl ?_
  refine zs_getfield (f := 7) (k := 5) rfl rfl (trivial) ?_
  show ZVV _ _ _ _ _ (ZR 2 0 :: _) _
  refine zs_callV (host := "") rfl kX7_98 vX1_startFrom (c_X1_startFrom 0) [ZR 2 0] [] rfl (zroom_of (by omega)) rfl (Nat.le_of_ble_eq_true rfl) ⟨rfl, ⟨by decide, hp.2.1.2.1, Int.le_trans hp.2.2 (by decide)⟩, hp.1.2.1.1.1⟩ (fun r_8 g_8 hq_8 => ?_)
  obtain ⟨hr_8, hg_8⟩ := hq_8
  rw [hr_8]
  obtain ⟨hL8, hH8, hT8, hV8, hB8, hs8, eL18_8, eL3_8, eL0_8, eL8_8⟩ := start_okx hp hg_8
  have e2_8 : g_8 2 0 = g 2 0 := hV8 2 0 rfl
  have e15_8 : g_8 15 0 = g 15 0 := hV8 15 0 rfl
  have e16_8 : g_8 16 0 = g 16 0 := hV8 16 0 rfl
  have e17_8 : g_8 17 0 = g 17 0 := hV8 17 0 rfl
  have e18_8 : g_8 18 0 = g 18 0 := hV8 18 0 rfl
  have e19_8 : g_8 19 0 = g 19 0 := hV8 19 0 rfl
  obtain ⟨hLS, hTT⟩ := zLV.start hp hg_8
  show ZVV _ _ _ 11 _ [] g_8
  refine zs_iconst (n := 0) rfl ⟨by omega, by omega⟩ ?_
  refine zs_istore_n (j := 1) (i := 1) rfl rfl (by decide) (by intro r x hr; have hr2 : r = 0 := (by omega); subst hr2; intro z; cases z) ?_
  show ZVV _ _ _ _ [ZR 7 0, ZI 0] _ _
  exact l_X7_rest hp 101 0 _ rfl (hLS.le (by omega)) (fun M z => ⟨by rw [hTT], z⟩)

theorem l_X7_again {Y : ZW} {Q : Option ZV → ZG → Prop} {g : ZG}  (hp : CP g) : ∀ (m k : Nat) (G : ZG), k + m = 101 → zLV g (k : Int) G → (∀ M, zQR 102 g M → Q (some (ZI (tAgain (g 18 0) m k (zTL G)))) M) → ZVV Y mX7_again (zcx Y 7 Q) 13 [ZR 7 0, ZI (k : Int)] [] G := by
  intro m
  induction m with
  | zero =>
    intro k G hk hLS hq
    refine zs_iload_n (j := 1) (i := 1) rfl rfl rfl ?_
    refine zs_bipush (n := 100) rfl ⟨by omega, by omega⟩ ?_
    refine zs_icmp_gt 57 rfl (by omega) (fun hc_16 => ?_) (fun hc_16 => ?_)
    · refine zs_bipush (n := (-5)) rfl ⟨by omega, by omega⟩ ?_
      exact zs_ireturn rfl rfl (hq _ (hLS.le (by omega)).q)
    · exfalso; omega
  | succ m ih =>
    intro k G hk hLS hq
    refine zs_iload_n (j := 1) (i := 1) rfl rfl rfl ?_
    refine zs_bipush (n := 100) rfl ⟨by omega, by omega⟩ ?_
    refine zs_icmp_gt 57 rfl (by omega) (fun hc_16 => ?_) (fun hc_16 => ?_)
    · exfalso; omega
    · refine zs_aload_n (j := 0) (i := 0) rfl rfl rfl ?_
      refine zs_getfield (f := 7) (k := 7) rfl rfl (trivial) ?_
      show ZVV _ _ _ _ _ (ZR 1 0 :: _) _
      refine zs_callV (host := "") rfl kX7_158 vX1_step c_X1_step [] [] rfl (zroom_of (by omega)) rfl (Nat.le_of_ble_eq_true rfl) ⟨rfl, hLS.1, hLS.2.1, (by have := hLS.2.2.2.2.2; omega), (by have := hLS.2.2.2.2.1; have := hp.2.2; omega)⟩ (fun r_23 g_23 hq_23 => ?_)
      obtain ⟨hr_23, hT_23, hL_23, hH_23, hS_23, hs_23⟩ := hq_23
      rw [hr_23]
      have hLS_23 := fun d hd => hLS.step (d := d) hd hT_23 hL_23 hH_23 hS_23 hs_23
      show ZVV _ _ _ 26 _ [ZI ((tStep (zTL G)).1)] _
      refine zs_if_ge 32 rfl (by omega) (fun hc_26 => ?_) (fun hc_26 => ?_)
      · refine zs_aload_n (j := 0) (i := 0) rfl rfl rfl ?_
        refine zs_getfield (f := 7) (k := 7) rfl rfl (trivial) ?_
        show ZVV _ _ _ _ _ (ZR 1 0 :: _) _
        refine zs_getfield (f := 1) (k := 0) rfl rfl (trivial) ?_
        show ZVV _ _ _ _ _ (ZR 2 2 :: _) _
        refine zs_aload_n (j := 0) (i := 0) rfl rfl rfl ?_
        refine zs_getfield (f := 7) (k := 5) rfl rfl (trivial) ?_
        show ZVV _ _ _ _ _ (ZR 2 0 :: _) _
        have hn6 := hL_23.1.2.2.1
        refine zs_callV (host := "") rfl kX7_167 vX2_isLivedInAs (c_X2_isLivedInAs 2 0) [ZR 2 0] [] rfl (zroom_of (by omega)) rfl (Nat.le_of_ble_eq_true rfl) ⟨rfl, hn6⟩ (fun r_43 g_43 hq_43 => ?_)
        obtain ⟨hr_43, hg_43⟩ := hq_43
        have hho : g_23 18 0 = g 18 0 := (hLS_23 _ (Int.le_refl _)).2.2.1 18 0 rfl
        rw [hr_43, hg_43, hho]
        show ZVV _ _ _ 46 _ [ZI (if zfst (fun j => decide (g_23 18 2 j ≠ g 18 0 j)) (g_23 2 2 3).toNat 0 = -1 then 1 else 0)] _
        refine zs_if_eq 51 rfl (by omega) (fun hc_46 => ?_) (fun hc_46 => ?_)
        · have hsm : ¬ tSame (tStep (zTL G)).2 (g 18 0) = true := by rw [← hT_23]; exact fun z => zifp0 hc_46 (of_decide_eq_true z)
          refine zs_iinc_r (i := 1) rfl rfl (by intro r x hr; have hr2 : r = 0 := (by omega); subst hr2; intro z; cases z) ⟨by omega, by omega⟩ ?_
          show ZVV _ _ _ _ [ZR 7 0, ZI ((k : Int) + 1)] _ _
          refine zs_goto 13 rfl (by omega) ?_
          exact ih (k + 1) _ (by omega) (hLS_23 _ (by omega)) (fun M z => by have := hq M z; rw [tAgain_s, if_neg (by omega), if_neg hsm, ← hT_23] at this; exact this)
        · have hsm : tSame (tStep (zTL G)).2 (g 18 0) = true := by rw [← hT_23]; exact decide_eq_true (zifp1 hc_46)
          refine zs_iload_n (j := 1) (i := 1) rfl rfl rfl ?_
          exact zs_ireturn rfl rfl (by have := hq _ ((hLS_23 _ (Int.le_refl _)).le (by omega)).q; rw [tAgain_s, if_neg (by omega), if_pos hsm] at this; exact this)
      · refine zs_bipush (n := (-5)) rfl ⟨by omega, by omega⟩ ?_
        exact zs_ireturn rfl rfl (by have := hq _ ((hLS_23 _ (Int.le_refl _)).le (by omega)).q; rw [tAgain_s, if_pos (by omega)] at this; exact this)
theorem c_X7_again  : ZC mX7_again 7 (fun av g => av = [ZR 7 0] ∧ CP g) (fun _ g r g' => r = some (ZI (tAgain (g 18 0) 100 1 (cT g))) ∧ zQR 102 g g') := by
  refine zc_of gX7_again (fun av g hp => by obtain ⟨rfl, -⟩ := hp; exact Nat.le_of_ble_eq_true rfl) (fun Y av g hwf hrg hp hok => ?_)
  obtain ⟨rfl, hp⟩ := hp
  show ZVV _ _ _ 0 [ZR 7 0, ZX 99] [] _
  refine zs_aload_n (j := 0) (i := 0) rfl rfl rfl ?_
  refine zs_getfield (f := 7) (k := 7) rfl rfl (trivial) ?_
  show ZVV _ _ _ _ _ (ZR 1 0 :: _) _
  refine zs_aload_n (j := 0) (i := 0) rfl rfl rfl ?_
  refine zs_getfield (f := 7) (k := 5) rfl rfl (trivial) ?_
  show ZVV _ _ _ _ _ (ZR 2 0 :: _) _
  refine zs_callV (host := "") rfl kX7_98 vX1_startFrom (c_X1_startFrom 0) [ZR 2 0] [] rfl (zroom_of (by omega)) rfl (Nat.le_of_ble_eq_true rfl) ⟨rfl, ⟨by decide, hp.2.1.2.1, Int.le_trans hp.2.2 (by decide)⟩, hp.1.2.1.1.1⟩ (fun r_8 g_8 hq_8 => ?_)
  obtain ⟨hr_8, hg_8⟩ := hq_8
  rw [hr_8]
  obtain ⟨hL8, hH8, hT8, hV8, hB8, hs8, eL18_8, eL3_8, eL0_8, eL8_8⟩ := start_okx hp hg_8
  have e2_8 : g_8 2 0 = g 2 0 := hV8 2 0 rfl
  have e15_8 : g_8 15 0 = g 15 0 := hV8 15 0 rfl
  have e16_8 : g_8 16 0 = g 16 0 := hV8 16 0 rfl
  have e17_8 : g_8 17 0 = g 17 0 := hV8 17 0 rfl
  have e18_8 : g_8 18 0 = g 18 0 := hV8 18 0 rfl
  have e19_8 : g_8 19 0 = g 19 0 := hV8 19 0 rfl
  obtain ⟨hLS, hTT⟩ := zLV.start hp hg_8
  show ZVV _ _ _ 11 _ [] g_8
  refine zs_iconst (n := 1) rfl ⟨by omega, by omega⟩ ?_
  refine zs_istore_n (j := 1) (i := 1) rfl rfl (by decide) (by intro r x hr; have hr2 : r = 0 := (by omega); subst hr2; intro z; cases z) ?_
  show ZVV _ _ _ _ [ZR 7 0, ZI 1] _ _
  exact l_X7_again hp 100 1 _ rfl (hLS.le (by omega)) (fun M z => ⟨by rw [hTT], z⟩)

def cRun (g : ZG) (n w : Int) : Int := if (w < 0 ∨ 2 < w) ∧ ¬ (10 ≤ w ∧ w - 10 < g 2 0 3) then -10001 else if n < 0 ∨ 100 < n then -10002 else if w = 0 then ((tRun n.toNat 0 (cT g)).1 : Int) else if w = 1 then tlp (tRun n.toNat 0 (cT g)).2 else if w = 2 then (tHap (tRun n.toNat 0 (cT g)).2 : Nat) else tho (tRun n.toNat 0 (cT g)).2 (w - 10).toNat
theorem l_X7_run {Y : ZW} {Q : Option ZV → ZG → Prop} {g : ZG} {n w f : Int} (hp : CP g) (hn : n ≤ 100) : ∀ (m k : Nat) (G : ZG), (k : Int) + m = n → zLV g ((k : Int) + 1) G → (∀ M, zTL M = (tRun m k (zTL G)).2 → zLV g 102 M → ZVV Y mX7_run (zcx Y 7 Q) 90 [ZR 7 0, ZI n, ZI w, ZI f, ZI ((tRun m k (zTL G)).1 : Int)] [] M) → ZVV Y mX7_run (zcx Y 7 Q) 68 [ZR 7 0, ZI n, ZI w, ZI f, ZI (k : Int)] [] G := by
  intro m
  induction m with
  | zero =>
    intro k G hk hLS hq
    refine zs_iload (i := 4) rfl rfl ?_
    refine zs_iload_n (j := 1) (i := 1) rfl rfl rfl ?_
    refine zs_icmp_ge 90 rfl (by omega) (fun hc_71 => ?_) (fun hc_71 => ?_)
    · exact hq G rfl (hLS.le (by omega))
    · exfalso; omega
  | succ m ih =>
    intro k G hk hLS hq
    refine zs_iload (i := 4) rfl rfl ?_
    refine zs_iload_n (j := 1) (i := 1) rfl rfl rfl ?_
    refine zs_icmp_ge 90 rfl (by omega) (fun hc_71 => ?_) (fun hc_71 => ?_)
    · exfalso; omega
    · refine zs_aload_n (j := 0) (i := 0) rfl rfl rfl ?_
      refine zs_getfield (f := 7) (k := 7) rfl rfl (trivial) ?_
      show ZVV _ _ _ _ _ (ZR 1 0 :: _) _
      refine zs_callV (host := "") rfl kX7_158 vX1_step c_X1_step [] [] rfl (zroom_of (by omega)) rfl (Nat.le_of_ble_eq_true rfl) ⟨rfl, hLS.1, hLS.2.1, (by have := hLS.2.2.2.2.2; omega), (by have := hLS.2.2.2.2.1; have := hp.2.2; omega)⟩ (fun r_78 g_78 hq_78 => ?_)
      obtain ⟨hr_78, hT_78, hL_78, hH_78, hS_78, hs_78⟩ := hq_78
      rw [hr_78]
      have hLS_78 := fun d hd => hLS.step (d := d) hd hT_78 hL_78 hH_78 hS_78 hs_78
      show ZVV _ _ _ 81 _ [ZI ((tStep (zTL G)).1)] _
      refine zs_if_lt 90 rfl (by omega) (fun hc_81 => ?_) (fun hc_81 => ?_)
      · have := hq _ (by rw [tRun_s, if_pos (by omega)]; exact hT_78) ((hLS_78 _ (Int.le_refl _)).le (by omega))
        rw [tRun_s, if_pos (by omega)] at this
        exact this
      · refine zs_iinc_r (i := 4) rfl rfl (by intro r x hr; have hr2 : r = 3 := (by omega); subst hr2; intro z; cases z) ⟨by omega, by omega⟩ ?_
        show ZVV _ _ _ _ [ZR 7 0, ZI n, ZI w, ZI f, ZI ((k : Int) + 1)] _ _
        refine zs_goto 68 rfl (by omega) ?_
        refine ih (k + 1) _ (by omega) (hLS_78 _ (by omega)) (fun M z1 z2 => ?_)
        have := hq M (by rw [tRun_s, if_neg (by omega), ← hT_78]; exact z1) z2
        rw [tRun_s, if_neg (by omega), ← hT_78] at this
        exact this
theorem e_X7_run {Y : ZW} {g : ZG} {n w f : Int} (hp : CP g) (hg1 : ¬ ((w < 0 ∨ 2 < w) ∧ ¬ (10 ≤ w ∧ w - 10 < g 2 0 3))) (hg2 : ¬ (n < 0 ∨ 100 < n)) (hf : w < 0 ∨ 2 < w → f ≠ 0) : ∀ M : ZG, zTL M = (tRun n.toNat 0 (cT g)).2 → zLV g 102 M → ZVV Y mX7_run (zcx Y 7 (fun r g' => r = some (ZI (cRun g n w)) ∧ zQR 102 g g')) 90 [ZR 7 0, ZI n, ZI w, ZI f, ZI ((tRun n.toNat 0 (cT g)).1 : Int)] [] M := by
  intro M hTM hLM
  have hn6 := hp.1.1.2.2.1
  refine zs_iload_n (j := 2) (i := 2) rfl rfl rfl ?_
  by_cases hs_91_0 : w = 0
  · refine zs_tsIn 116 rfl (by omega) (by omega) (off := 25) (by rw [hs_91_0]; rfl) (by omega) ?_
    refine zs_iload (i := 4) rfl rfl ?_
    exact zs_ireturn rfl rfl (⟨by unfold cRun; rw [if_neg hg1, if_neg hg2, if_pos (by omega)], (hLM.le (by omega)).q⟩)
  by_cases hs_91_1 : w = 1
  · refine zs_tsIn 119 rfl (by omega) (by omega) (off := 28) (by rw [hs_91_1]; rfl) (by omega) ?_
    refine zs_aload_n (j := 0) (i := 0) rfl rfl rfl ?_
    refine zs_getfield (f := 7) (k := 7) rfl rfl (trivial) ?_
    show ZVV _ _ _ _ _ (ZR 1 0 :: _) _
    refine zs_getfield (f := 1) (k := 0) rfl rfl (trivial) ?_
    show ZVV _ _ _ _ _ (ZR 2 2 :: _) _
    refine zs_callV (host := "") rfl kX7_145 vX2_likePairs (c_X2_likePairs 2) [] [] rfl (zroom_of (by omega)) rfl (Nat.le_of_ble_eq_true rfl) (⟨rfl, hLM.1.1, hLM.2.1⟩) (fun r_126 g_126 hq_126 => ?_)
    obtain ⟨hr_126, hg_126⟩ := hq_126
    rw [hr_126, hg_126]
    show ZVV _ _ _ 129 _ [ZI (zlp (M 2 2 0) (M 2 2 1) (M 2 2 3) (M 17 2) (M 18 2))] _
    exact zs_ireturn rfl rfl (⟨by unfold cRun; rw [if_neg hg1, if_neg hg2, if_neg (by omega), if_pos (by omega)]; rw [← hTM]; rfl, (hLM.le (by omega)).q⟩)
  by_cases hs_91_2 : w = 2
  · refine zs_tsIn 130 rfl (by omega) (by omega) (off := 39) (by rw [hs_91_2]; rfl) (by omega) ?_
    refine zs_aload_n (j := 0) (i := 0) rfl rfl rfl ?_
    refine zs_getfield (f := 7) (k := 7) rfl rfl (trivial) ?_
    show ZVV _ _ _ _ _ (ZR 1 0 :: _) _
    refine zs_callV (host := "") rfl kX7_152 vX1_happy (c_X1_happy) [] [] rfl (zroom_of (by omega)) rfl (Nat.le_of_ble_eq_true rfl) (⟨rfl, hLM.1⟩) (fun r_134 g_134 hq_134 => ?_)
    obtain ⟨hr_134, hS_134, hL_134⟩ := hq_134
    rw [hr_134]
    show ZVV _ _ _ 137 _ [ZI (tHap (zTL M) : Nat)] _
    exact zs_ireturn rfl rfl (⟨by unfold cRun; rw [if_neg hg1, if_neg hg2, if_neg (by omega), if_neg (by omega), if_pos (by omega)]; rw [← hTM], ((hLM.sl hS_134 hL_134).le (by omega)).q⟩)
  refine zs_tsOut 138 rfl (by omega) (by omega) ?_
  refine zs_iload_n (j := 3) (i := 3) rfl rfl rfl ?_
  refine zs_if_eq 160 rfl (by omega) (fun hc_139 => ?_) (fun hc_139 => ?_)
  · exact absurd hc_139 (hf (by omega))
  · refine zs_aload_n (j := 0) (i := 0) rfl rfl rfl ?_
    refine zs_getfield (f := 7) (k := 7) rfl rfl (trivial) ?_
    show ZVV _ _ _ _ _ (ZR 1 0 :: _) _
    refine zs_getfield (f := 1) (k := 0) rfl rfl (trivial) ?_
    show ZVV _ _ _ _ _ (ZR 2 2 :: _) _
    refine zs_getfield (f := 2) (k := 7) rfl rfl (trivial) ?_
    show ZVV _ _ _ _ _ (ZR 18 2 :: _) _
    refine zs_iload_n (j := 2) (i := 2) rfl rfl rfl ?_
    refine zs_bipush (n := 10) rfl ⟨by omega, by omega⟩ ?_
    refine zs_isub_r rfl ⟨by omega, by omega⟩ ?_
    show ZVV _ _ _ 156 _ _ _
    refine zs_iald (n := 6) rfl rfl (by omega) (by omega) ?_
    refine zs_goto 163 rfl (by omega) ?_
    exact zs_ireturn rfl rfl (⟨by unfold cRun; rw [if_neg hg1, if_neg hg2, if_neg (by omega), if_neg (by omega), if_neg (by omega)]; rw [← hTM]; rfl, (hLM.le (by omega)).q⟩)
theorem c_X7_run (n w : Int) : ZC mX7_run 7 (fun av g => av = [ZR 7 0, ZI n, ZI w] ∧ CP g) (fun _ g r g' => r = some (ZI (cRun g n w)) ∧ zQR 102 g g') := by
  refine zc_of gX7_run (fun av g hp => by obtain ⟨rfl, -⟩ := hp; exact Nat.le_of_ble_eq_true rfl) (fun Y av g hwf hrg hp hok => ?_)
  obtain ⟨rfl, hp⟩ := hp
  show ZVV _ _ _ 0 [ZR 7 0, ZI n, ZI w, ZX 99, ZX 99] [] _
  have hw2 := hok (ZI w) (by simp)
  have hw : -2147483648 ≤ w ∧ w < 2147483648 := hw2
  refine zs_iload_n (j := 2) (i := 2) rfl rfl rfl ?_
  refine zs_bipush (n := 10) rfl ⟨by omega, by omega⟩ ?_
  refine zs_icmp_lt 21 rfl (by omega) (fun hc_3 => ?_) (fun hc_3 => ?_)
  · refine zs_iconst (n := 0) rfl ⟨by omega, by omega⟩ ?_
    refine zs_istore_n (j := 3) (i := 3) rfl rfl (by decide) (by intro r x hr; have hr2 : r = 2 := (by omega); subst hr2; intro z; cases z) ?_
    show ZVV _ _ _ _ [ZR 7 0, ZI n, ZI w, ZI 0, ZX 99] _ _
    refine zs_iload_n (j := 2) (i := 2) rfl rfl rfl ?_
    refine zs_if_lt 32 rfl (by omega) (fun hc_24 => ?_) (fun hc_24 => ?_)
    · refine zs_iload_n (j := 3) (i := 3) rfl rfl rfl ?_
      refine zs_if_ne 40 rfl (by omega) (fun hc_33 => ?_) (fun hc_33 => ?_)
      · refine zs_iload_n (j := 1) (i := 1) rfl rfl rfl ?_
        refine zs_if_lt 50 rfl (by omega) (fun hc_41 => ?_) (fun hc_41 => ?_)
        · refine zs_sipush (n := (-10002)) rfl ⟨by omega, by omega⟩ ?_
          exact zs_ireturn rfl rfl (⟨by unfold cRun; rw [if_neg (by omega), if_pos (by omega)], ⟨zVS.rf g, hp.2.1, by omega⟩⟩)
        · refine zs_iload_n (j := 1) (i := 1) rfl rfl rfl ?_
          refine zs_bipush (n := 100) rfl ⟨by omega, by omega⟩ ?_
          refine zs_icmp_le 54 rfl (by omega) (fun hc_47 => ?_) (fun hc_47 => ?_)
          · refine zs_aload_n (j := 0) (i := 0) rfl rfl rfl ?_
            refine zs_getfield (f := 7) (k := 7) rfl rfl (trivial) ?_
            show ZVV _ _ _ _ _ (ZR 1 0 :: _) _
            refine zs_aload_n (j := 0) (i := 0) rfl rfl rfl ?_
            refine zs_getfield (f := 7) (k := 5) rfl rfl (trivial) ?_
            show ZVV _ _ _ _ _ (ZR 2 0 :: _) _
            refine zs_callV (host := "") rfl kX7_98 vX1_startFrom (c_X1_startFrom 0) [ZR 2 0] [] rfl (zroom_of (by omega)) rfl (Nat.le_of_ble_eq_true rfl) ⟨rfl, ⟨by decide, hp.2.1.2.1, Int.le_trans hp.2.2 (by decide)⟩, hp.1.2.1.1.1⟩ (fun r_62 g_62 hq_62 => ?_)
            obtain ⟨hr_62, hg_62⟩ := hq_62
            rw [hr_62]
            obtain ⟨hL62, hH62, hT62, hV62, hB62, hs62, eL18_62, eL3_62, eL0_62, eL8_62⟩ := start_okx hp hg_62
            have e2_62 : g_62 2 0 = g 2 0 := hV62 2 0 rfl
            have e15_62 : g_62 15 0 = g 15 0 := hV62 15 0 rfl
            have e16_62 : g_62 16 0 = g 16 0 := hV62 16 0 rfl
            have e17_62 : g_62 17 0 = g 17 0 := hV62 17 0 rfl
            have e18_62 : g_62 18 0 = g 18 0 := hV62 18 0 rfl
            have e19_62 : g_62 19 0 = g 19 0 := hV62 19 0 rfl
            obtain ⟨hLS, hTT⟩ := zLV.start hp hg_62
            show ZVV _ _ _ 65 _ [] g_62
            refine zs_iconst (n := 0) rfl ⟨by omega, by omega⟩ ?_
            refine zs_istore (i := 4) rfl (by decide) (by intro r x hr; have hr2 : r = 3 := (by omega); subst hr2; intro z; cases z) ?_
            show ZVV _ _ _ _ [ZR 7 0, ZI n, ZI w, ZI 0, ZI 0] _ _
            refine l_X7_run hp (by omega) n.toNat 0 _ (by omega) (hLS.le (by omega)) (fun M z1 z2 => ?_)
            rw [hTT] at z1 ⊢
            exact e_X7_run hp (by omega) (by omega) (by omega) M z1 z2
          · refine zs_sipush (n := (-10002)) rfl ⟨by omega, by omega⟩ ?_
            exact zs_ireturn rfl rfl (⟨by unfold cRun; rw [if_neg (by omega), if_pos (by omega)], ⟨zVS.rf g, hp.2.1, by omega⟩⟩)
      · refine zs_sipush (n := (-10001)) rfl ⟨by omega, by omega⟩ ?_
        exact zs_ireturn rfl rfl (⟨by unfold cRun; rw [if_pos (by omega)], ⟨zVS.rf g, hp.2.1, by omega⟩⟩)
    · refine zs_iload_n (j := 2) (i := 2) rfl rfl rfl ?_
      refine zs_iconst (n := 2) rfl ⟨by omega, by omega⟩ ?_
      refine zs_icmp_le 40 rfl (by omega) (fun hc_29 => ?_) (fun hc_29 => ?_)
      · refine zs_iload_n (j := 1) (i := 1) rfl rfl rfl ?_
        refine zs_if_lt 50 rfl (by omega) (fun hc_41 => ?_) (fun hc_41 => ?_)
        · refine zs_sipush (n := (-10002)) rfl ⟨by omega, by omega⟩ ?_
          exact zs_ireturn rfl rfl (⟨by unfold cRun; rw [if_neg (by omega), if_pos (by omega)], ⟨zVS.rf g, hp.2.1, by omega⟩⟩)
        · refine zs_iload_n (j := 1) (i := 1) rfl rfl rfl ?_
          refine zs_bipush (n := 100) rfl ⟨by omega, by omega⟩ ?_
          refine zs_icmp_le 54 rfl (by omega) (fun hc_47 => ?_) (fun hc_47 => ?_)
          · refine zs_aload_n (j := 0) (i := 0) rfl rfl rfl ?_
            refine zs_getfield (f := 7) (k := 7) rfl rfl (trivial) ?_
            show ZVV _ _ _ _ _ (ZR 1 0 :: _) _
            refine zs_aload_n (j := 0) (i := 0) rfl rfl rfl ?_
            refine zs_getfield (f := 7) (k := 5) rfl rfl (trivial) ?_
            show ZVV _ _ _ _ _ (ZR 2 0 :: _) _
            refine zs_callV (host := "") rfl kX7_98 vX1_startFrom (c_X1_startFrom 0) [ZR 2 0] [] rfl (zroom_of (by omega)) rfl (Nat.le_of_ble_eq_true rfl) ⟨rfl, ⟨by decide, hp.2.1.2.1, Int.le_trans hp.2.2 (by decide)⟩, hp.1.2.1.1.1⟩ (fun r_62 g_62 hq_62 => ?_)
            obtain ⟨hr_62, hg_62⟩ := hq_62
            rw [hr_62]
            obtain ⟨hL62, hH62, hT62, hV62, hB62, hs62, eL18_62, eL3_62, eL0_62, eL8_62⟩ := start_okx hp hg_62
            have e2_62 : g_62 2 0 = g 2 0 := hV62 2 0 rfl
            have e15_62 : g_62 15 0 = g 15 0 := hV62 15 0 rfl
            have e16_62 : g_62 16 0 = g 16 0 := hV62 16 0 rfl
            have e17_62 : g_62 17 0 = g 17 0 := hV62 17 0 rfl
            have e18_62 : g_62 18 0 = g 18 0 := hV62 18 0 rfl
            have e19_62 : g_62 19 0 = g 19 0 := hV62 19 0 rfl
            obtain ⟨hLS, hTT⟩ := zLV.start hp hg_62
            show ZVV _ _ _ 65 _ [] g_62
            refine zs_iconst (n := 0) rfl ⟨by omega, by omega⟩ ?_
            refine zs_istore (i := 4) rfl (by decide) (by intro r x hr; have hr2 : r = 3 := (by omega); subst hr2; intro z; cases z) ?_
            show ZVV _ _ _ _ [ZR 7 0, ZI n, ZI w, ZI 0, ZI 0] _ _
            refine l_X7_run hp (by omega) n.toNat 0 _ (by omega) (hLS.le (by omega)) (fun M z1 z2 => ?_)
            rw [hTT] at z1 ⊢
            exact e_X7_run hp (by omega) (by omega) (by omega) M z1 z2
          · refine zs_sipush (n := (-10002)) rfl ⟨by omega, by omega⟩ ?_
            exact zs_ireturn rfl rfl (⟨by unfold cRun; rw [if_neg (by omega), if_pos (by omega)], ⟨zVS.rf g, hp.2.1, by omega⟩⟩)
      · refine zs_iload_n (j := 3) (i := 3) rfl rfl rfl ?_
        refine zs_if_ne 40 rfl (by omega) (fun hc_33 => ?_) (fun hc_33 => ?_)
        · refine zs_iload_n (j := 1) (i := 1) rfl rfl rfl ?_
          refine zs_if_lt 50 rfl (by omega) (fun hc_41 => ?_) (fun hc_41 => ?_)
          · refine zs_sipush (n := (-10002)) rfl ⟨by omega, by omega⟩ ?_
            exact zs_ireturn rfl rfl (⟨by unfold cRun; rw [if_neg (by omega), if_pos (by omega)], ⟨zVS.rf g, hp.2.1, by omega⟩⟩)
          · refine zs_iload_n (j := 1) (i := 1) rfl rfl rfl ?_
            refine zs_bipush (n := 100) rfl ⟨by omega, by omega⟩ ?_
            refine zs_icmp_le 54 rfl (by omega) (fun hc_47 => ?_) (fun hc_47 => ?_)
            · refine zs_aload_n (j := 0) (i := 0) rfl rfl rfl ?_
              refine zs_getfield (f := 7) (k := 7) rfl rfl (trivial) ?_
              show ZVV _ _ _ _ _ (ZR 1 0 :: _) _
              refine zs_aload_n (j := 0) (i := 0) rfl rfl rfl ?_
              refine zs_getfield (f := 7) (k := 5) rfl rfl (trivial) ?_
              show ZVV _ _ _ _ _ (ZR 2 0 :: _) _
              refine zs_callV (host := "") rfl kX7_98 vX1_startFrom (c_X1_startFrom 0) [ZR 2 0] [] rfl (zroom_of (by omega)) rfl (Nat.le_of_ble_eq_true rfl) ⟨rfl, ⟨by decide, hp.2.1.2.1, Int.le_trans hp.2.2 (by decide)⟩, hp.1.2.1.1.1⟩ (fun r_62 g_62 hq_62 => ?_)
              obtain ⟨hr_62, hg_62⟩ := hq_62
              rw [hr_62]
              obtain ⟨hL62, hH62, hT62, hV62, hB62, hs62, eL18_62, eL3_62, eL0_62, eL8_62⟩ := start_okx hp hg_62
              have e2_62 : g_62 2 0 = g 2 0 := hV62 2 0 rfl
              have e15_62 : g_62 15 0 = g 15 0 := hV62 15 0 rfl
              have e16_62 : g_62 16 0 = g 16 0 := hV62 16 0 rfl
              have e17_62 : g_62 17 0 = g 17 0 := hV62 17 0 rfl
              have e18_62 : g_62 18 0 = g 18 0 := hV62 18 0 rfl
              have e19_62 : g_62 19 0 = g 19 0 := hV62 19 0 rfl
              obtain ⟨hLS, hTT⟩ := zLV.start hp hg_62
              show ZVV _ _ _ 65 _ [] g_62
              refine zs_iconst (n := 0) rfl ⟨by omega, by omega⟩ ?_
              refine zs_istore (i := 4) rfl (by decide) (by intro r x hr; have hr2 : r = 3 := (by omega); subst hr2; intro z; cases z) ?_
              show ZVV _ _ _ _ [ZR 7 0, ZI n, ZI w, ZI 0, ZI 0] _ _
              refine l_X7_run hp (by omega) n.toNat 0 _ (by omega) (hLS.le (by omega)) (fun M z1 z2 => ?_)
              rw [hTT] at z1 ⊢
              exact e_X7_run hp (by omega) (by omega) (by omega) M z1 z2
            · refine zs_sipush (n := (-10002)) rfl ⟨by omega, by omega⟩ ?_
              exact zs_ireturn rfl rfl (⟨by unfold cRun; rw [if_neg (by omega), if_pos (by omega)], ⟨zVS.rf g, hp.2.1, by omega⟩⟩)
        · refine zs_sipush (n := (-10001)) rfl ⟨by omega, by omega⟩ ?_
          exact zs_ireturn rfl rfl (⟨by unfold cRun; rw [if_pos (by omega)], ⟨zVS.rf g, hp.2.1, by omega⟩⟩)
  · refine zs_aload_n (j := 0) (i := 0) rfl rfl rfl ?_
    refine zs_iload_n (j := 2) (i := 2) rfl rfl rfl ?_
    refine zs_bipush (n := 10) rfl ⟨by omega, by omega⟩ ?_
    refine zs_isub_r rfl ⟨by omega, by omega⟩ ?_
    refine zs_callV (host := "") rfl kX7_95 vX7_isPerson (c_X7_isPerson (w - 10)) [ZI (w - 10)] [] rfl (zroom_of (by omega)) rfl (Nat.le_of_ble_eq_true rfl) (⟨rfl, trivial⟩) (fun r_11 g_11 hq_11 => ?_)
    obtain ⟨hr_11, hg_11⟩ := hq_11
    rw [hr_11, hg_11]
    show ZVV _ _ _ 14 _ [ZI (if 0 ≤ w - 10 ∧ w - 10 < g 2 0 3 then 1 else 0)] _
    refine zs_if_eq 21 rfl (by omega) (fun hc_14 => ?_) (fun hc_14 => ?_)
    · refine zs_iconst (n := 0) rfl ⟨by omega, by omega⟩ ?_
      refine zs_istore_n (j := 3) (i := 3) rfl rfl (by decide) (by intro r x hr; have hr2 : r = 2 := (by omega); subst hr2; intro z; cases z) ?_
      show ZVV _ _ _ _ [ZR 7 0, ZI n, ZI w, ZI 0, ZX 99] _ _
      refine zs_iload_n (j := 2) (i := 2) rfl rfl rfl ?_
      refine zs_if_lt 32 rfl (by omega) (fun hc_24 => ?_) (fun hc_24 => ?_)
      · refine zs_iload_n (j := 3) (i := 3) rfl rfl rfl ?_
        refine zs_if_ne 40 rfl (by omega) (fun hc_33 => ?_) (fun hc_33 => ?_)
        · refine zs_iload_n (j := 1) (i := 1) rfl rfl rfl ?_
          refine zs_if_lt 50 rfl (by omega) (fun hc_41 => ?_) (fun hc_41 => ?_)
          · refine zs_sipush (n := (-10002)) rfl ⟨by omega, by omega⟩ ?_
            exact zs_ireturn rfl rfl (⟨by unfold cRun; rw [if_neg (by omega), if_pos (by omega)], ⟨zVS.rf g, hp.2.1, by omega⟩⟩)
          · refine zs_iload_n (j := 1) (i := 1) rfl rfl rfl ?_
            refine zs_bipush (n := 100) rfl ⟨by omega, by omega⟩ ?_
            refine zs_icmp_le 54 rfl (by omega) (fun hc_47 => ?_) (fun hc_47 => ?_)
            · refine zs_aload_n (j := 0) (i := 0) rfl rfl rfl ?_
              refine zs_getfield (f := 7) (k := 7) rfl rfl (trivial) ?_
              show ZVV _ _ _ _ _ (ZR 1 0 :: _) _
              refine zs_aload_n (j := 0) (i := 0) rfl rfl rfl ?_
              refine zs_getfield (f := 7) (k := 5) rfl rfl (trivial) ?_
              show ZVV _ _ _ _ _ (ZR 2 0 :: _) _
              refine zs_callV (host := "") rfl kX7_98 vX1_startFrom (c_X1_startFrom 0) [ZR 2 0] [] rfl (zroom_of (by omega)) rfl (Nat.le_of_ble_eq_true rfl) ⟨rfl, ⟨by decide, hp.2.1.2.1, Int.le_trans hp.2.2 (by decide)⟩, hp.1.2.1.1.1⟩ (fun r_62 g_62 hq_62 => ?_)
              obtain ⟨hr_62, hg_62⟩ := hq_62
              rw [hr_62]
              obtain ⟨hL62, hH62, hT62, hV62, hB62, hs62, eL18_62, eL3_62, eL0_62, eL8_62⟩ := start_okx hp hg_62
              have e2_62 : g_62 2 0 = g 2 0 := hV62 2 0 rfl
              have e15_62 : g_62 15 0 = g 15 0 := hV62 15 0 rfl
              have e16_62 : g_62 16 0 = g 16 0 := hV62 16 0 rfl
              have e17_62 : g_62 17 0 = g 17 0 := hV62 17 0 rfl
              have e18_62 : g_62 18 0 = g 18 0 := hV62 18 0 rfl
              have e19_62 : g_62 19 0 = g 19 0 := hV62 19 0 rfl
              obtain ⟨hLS, hTT⟩ := zLV.start hp hg_62
              show ZVV _ _ _ 65 _ [] g_62
              refine zs_iconst (n := 0) rfl ⟨by omega, by omega⟩ ?_
              refine zs_istore (i := 4) rfl (by decide) (by intro r x hr; have hr2 : r = 3 := (by omega); subst hr2; intro z; cases z) ?_
              show ZVV _ _ _ _ [ZR 7 0, ZI n, ZI w, ZI 0, ZI 0] _ _
              refine l_X7_run hp (by omega) n.toNat 0 _ (by omega) (hLS.le (by omega)) (fun M z1 z2 => ?_)
              rw [hTT] at z1 ⊢
              exact e_X7_run hp (by omega) (by omega) (by omega) M z1 z2
            · refine zs_sipush (n := (-10002)) rfl ⟨by omega, by omega⟩ ?_
              exact zs_ireturn rfl rfl (⟨by unfold cRun; rw [if_neg (by omega), if_pos (by omega)], ⟨zVS.rf g, hp.2.1, by omega⟩⟩)
        · refine zs_sipush (n := (-10001)) rfl ⟨by omega, by omega⟩ ?_
          exact zs_ireturn rfl rfl (⟨by unfold cRun; rw [if_pos (by omega)], ⟨zVS.rf g, hp.2.1, by omega⟩⟩)
      · refine zs_iload_n (j := 2) (i := 2) rfl rfl rfl ?_
        refine zs_iconst (n := 2) rfl ⟨by omega, by omega⟩ ?_
        refine zs_icmp_le 40 rfl (by omega) (fun hc_29 => ?_) (fun hc_29 => ?_)
        · refine zs_iload_n (j := 1) (i := 1) rfl rfl rfl ?_
          refine zs_if_lt 50 rfl (by omega) (fun hc_41 => ?_) (fun hc_41 => ?_)
          · refine zs_sipush (n := (-10002)) rfl ⟨by omega, by omega⟩ ?_
            exact zs_ireturn rfl rfl (⟨by unfold cRun; rw [if_neg (by omega), if_pos (by omega)], ⟨zVS.rf g, hp.2.1, by omega⟩⟩)
          · refine zs_iload_n (j := 1) (i := 1) rfl rfl rfl ?_
            refine zs_bipush (n := 100) rfl ⟨by omega, by omega⟩ ?_
            refine zs_icmp_le 54 rfl (by omega) (fun hc_47 => ?_) (fun hc_47 => ?_)
            · refine zs_aload_n (j := 0) (i := 0) rfl rfl rfl ?_
              refine zs_getfield (f := 7) (k := 7) rfl rfl (trivial) ?_
              show ZVV _ _ _ _ _ (ZR 1 0 :: _) _
              refine zs_aload_n (j := 0) (i := 0) rfl rfl rfl ?_
              refine zs_getfield (f := 7) (k := 5) rfl rfl (trivial) ?_
              show ZVV _ _ _ _ _ (ZR 2 0 :: _) _
              refine zs_callV (host := "") rfl kX7_98 vX1_startFrom (c_X1_startFrom 0) [ZR 2 0] [] rfl (zroom_of (by omega)) rfl (Nat.le_of_ble_eq_true rfl) ⟨rfl, ⟨by decide, hp.2.1.2.1, Int.le_trans hp.2.2 (by decide)⟩, hp.1.2.1.1.1⟩ (fun r_62 g_62 hq_62 => ?_)
              obtain ⟨hr_62, hg_62⟩ := hq_62
              rw [hr_62]
              obtain ⟨hL62, hH62, hT62, hV62, hB62, hs62, eL18_62, eL3_62, eL0_62, eL8_62⟩ := start_okx hp hg_62
              have e2_62 : g_62 2 0 = g 2 0 := hV62 2 0 rfl
              have e15_62 : g_62 15 0 = g 15 0 := hV62 15 0 rfl
              have e16_62 : g_62 16 0 = g 16 0 := hV62 16 0 rfl
              have e17_62 : g_62 17 0 = g 17 0 := hV62 17 0 rfl
              have e18_62 : g_62 18 0 = g 18 0 := hV62 18 0 rfl
              have e19_62 : g_62 19 0 = g 19 0 := hV62 19 0 rfl
              obtain ⟨hLS, hTT⟩ := zLV.start hp hg_62
              show ZVV _ _ _ 65 _ [] g_62
              refine zs_iconst (n := 0) rfl ⟨by omega, by omega⟩ ?_
              refine zs_istore (i := 4) rfl (by decide) (by intro r x hr; have hr2 : r = 3 := (by omega); subst hr2; intro z; cases z) ?_
              show ZVV _ _ _ _ [ZR 7 0, ZI n, ZI w, ZI 0, ZI 0] _ _
              refine l_X7_run hp (by omega) n.toNat 0 _ (by omega) (hLS.le (by omega)) (fun M z1 z2 => ?_)
              rw [hTT] at z1 ⊢
              exact e_X7_run hp (by omega) (by omega) (by omega) M z1 z2
            · refine zs_sipush (n := (-10002)) rfl ⟨by omega, by omega⟩ ?_
              exact zs_ireturn rfl rfl (⟨by unfold cRun; rw [if_neg (by omega), if_pos (by omega)], ⟨zVS.rf g, hp.2.1, by omega⟩⟩)
        · refine zs_iload_n (j := 3) (i := 3) rfl rfl rfl ?_
          refine zs_if_ne 40 rfl (by omega) (fun hc_33 => ?_) (fun hc_33 => ?_)
          · refine zs_iload_n (j := 1) (i := 1) rfl rfl rfl ?_
            refine zs_if_lt 50 rfl (by omega) (fun hc_41 => ?_) (fun hc_41 => ?_)
            · refine zs_sipush (n := (-10002)) rfl ⟨by omega, by omega⟩ ?_
              exact zs_ireturn rfl rfl (⟨by unfold cRun; rw [if_neg (by omega), if_pos (by omega)], ⟨zVS.rf g, hp.2.1, by omega⟩⟩)
            · refine zs_iload_n (j := 1) (i := 1) rfl rfl rfl ?_
              refine zs_bipush (n := 100) rfl ⟨by omega, by omega⟩ ?_
              refine zs_icmp_le 54 rfl (by omega) (fun hc_47 => ?_) (fun hc_47 => ?_)
              · refine zs_aload_n (j := 0) (i := 0) rfl rfl rfl ?_
                refine zs_getfield (f := 7) (k := 7) rfl rfl (trivial) ?_
                show ZVV _ _ _ _ _ (ZR 1 0 :: _) _
                refine zs_aload_n (j := 0) (i := 0) rfl rfl rfl ?_
                refine zs_getfield (f := 7) (k := 5) rfl rfl (trivial) ?_
                show ZVV _ _ _ _ _ (ZR 2 0 :: _) _
                refine zs_callV (host := "") rfl kX7_98 vX1_startFrom (c_X1_startFrom 0) [ZR 2 0] [] rfl (zroom_of (by omega)) rfl (Nat.le_of_ble_eq_true rfl) ⟨rfl, ⟨by decide, hp.2.1.2.1, Int.le_trans hp.2.2 (by decide)⟩, hp.1.2.1.1.1⟩ (fun r_62 g_62 hq_62 => ?_)
                obtain ⟨hr_62, hg_62⟩ := hq_62
                rw [hr_62]
                obtain ⟨hL62, hH62, hT62, hV62, hB62, hs62, eL18_62, eL3_62, eL0_62, eL8_62⟩ := start_okx hp hg_62
                have e2_62 : g_62 2 0 = g 2 0 := hV62 2 0 rfl
                have e15_62 : g_62 15 0 = g 15 0 := hV62 15 0 rfl
                have e16_62 : g_62 16 0 = g 16 0 := hV62 16 0 rfl
                have e17_62 : g_62 17 0 = g 17 0 := hV62 17 0 rfl
                have e18_62 : g_62 18 0 = g 18 0 := hV62 18 0 rfl
                have e19_62 : g_62 19 0 = g 19 0 := hV62 19 0 rfl
                obtain ⟨hLS, hTT⟩ := zLV.start hp hg_62
                show ZVV _ _ _ 65 _ [] g_62
                refine zs_iconst (n := 0) rfl ⟨by omega, by omega⟩ ?_
                refine zs_istore (i := 4) rfl (by decide) (by intro r x hr; have hr2 : r = 3 := (by omega); subst hr2; intro z; cases z) ?_
                show ZVV _ _ _ _ [ZR 7 0, ZI n, ZI w, ZI 0, ZI 0] _ _
                refine l_X7_run hp (by omega) n.toNat 0 _ (by omega) (hLS.le (by omega)) (fun M z1 z2 => ?_)
                rw [hTT] at z1 ⊢
                exact e_X7_run hp (by omega) (by omega) (by omega) M z1 z2
              · refine zs_sipush (n := (-10002)) rfl ⟨by omega, by omega⟩ ?_
                exact zs_ireturn rfl rfl (⟨by unfold cRun; rw [if_neg (by omega), if_pos (by omega)], ⟨zVS.rf g, hp.2.1, by omega⟩⟩)
          · refine zs_sipush (n := (-10001)) rfl ⟨by omega, by omega⟩ ?_
            exact zs_ireturn rfl rfl (⟨by unfold cRun; rw [if_pos (by omega)], ⟨zVS.rf g, hp.2.1, by omega⟩⟩)
    · refine zs_iconst (n := 1) rfl ⟨by omega, by omega⟩ ?_
      refine zs_goto 22 rfl (by omega) ?_
      refine zs_istore_n (j := 3) (i := 3) rfl rfl (by decide) (by intro r x hr; have hr2 : r = 2 := (by omega); subst hr2; intro z; cases z) ?_
      show ZVV _ _ _ _ [ZR 7 0, ZI n, ZI w, ZI 1, ZX 99] _ _
      refine zs_iload_n (j := 2) (i := 2) rfl rfl rfl ?_
      refine zs_if_lt 32 rfl (by omega) (fun hc_24 => ?_) (fun hc_24 => ?_)
      · refine zs_iload_n (j := 3) (i := 3) rfl rfl rfl ?_
        refine zs_if_ne 40 rfl (by omega) (fun hc_33 => ?_) (fun hc_33 => ?_)
        · refine zs_iload_n (j := 1) (i := 1) rfl rfl rfl ?_
          refine zs_if_lt 50 rfl (by omega) (fun hc_41 => ?_) (fun hc_41 => ?_)
          · refine zs_sipush (n := (-10002)) rfl ⟨by omega, by omega⟩ ?_
            exact zs_ireturn rfl rfl (⟨by unfold cRun; rw [if_neg (by omega), if_pos (by omega)], ⟨zVS.rf g, hp.2.1, by omega⟩⟩)
          · refine zs_iload_n (j := 1) (i := 1) rfl rfl rfl ?_
            refine zs_bipush (n := 100) rfl ⟨by omega, by omega⟩ ?_
            refine zs_icmp_le 54 rfl (by omega) (fun hc_47 => ?_) (fun hc_47 => ?_)
            · refine zs_aload_n (j := 0) (i := 0) rfl rfl rfl ?_
              refine zs_getfield (f := 7) (k := 7) rfl rfl (trivial) ?_
              show ZVV _ _ _ _ _ (ZR 1 0 :: _) _
              refine zs_aload_n (j := 0) (i := 0) rfl rfl rfl ?_
              refine zs_getfield (f := 7) (k := 5) rfl rfl (trivial) ?_
              show ZVV _ _ _ _ _ (ZR 2 0 :: _) _
              refine zs_callV (host := "") rfl kX7_98 vX1_startFrom (c_X1_startFrom 0) [ZR 2 0] [] rfl (zroom_of (by omega)) rfl (Nat.le_of_ble_eq_true rfl) ⟨rfl, ⟨by decide, hp.2.1.2.1, Int.le_trans hp.2.2 (by decide)⟩, hp.1.2.1.1.1⟩ (fun r_62 g_62 hq_62 => ?_)
              obtain ⟨hr_62, hg_62⟩ := hq_62
              rw [hr_62]
              obtain ⟨hL62, hH62, hT62, hV62, hB62, hs62, eL18_62, eL3_62, eL0_62, eL8_62⟩ := start_okx hp hg_62
              have e2_62 : g_62 2 0 = g 2 0 := hV62 2 0 rfl
              have e15_62 : g_62 15 0 = g 15 0 := hV62 15 0 rfl
              have e16_62 : g_62 16 0 = g 16 0 := hV62 16 0 rfl
              have e17_62 : g_62 17 0 = g 17 0 := hV62 17 0 rfl
              have e18_62 : g_62 18 0 = g 18 0 := hV62 18 0 rfl
              have e19_62 : g_62 19 0 = g 19 0 := hV62 19 0 rfl
              obtain ⟨hLS, hTT⟩ := zLV.start hp hg_62
              show ZVV _ _ _ 65 _ [] g_62
              refine zs_iconst (n := 0) rfl ⟨by omega, by omega⟩ ?_
              refine zs_istore (i := 4) rfl (by decide) (by intro r x hr; have hr2 : r = 3 := (by omega); subst hr2; intro z; cases z) ?_
              show ZVV _ _ _ _ [ZR 7 0, ZI n, ZI w, ZI 1, ZI 0] _ _
              refine l_X7_run hp (by omega) n.toNat 0 _ (by omega) (hLS.le (by omega)) (fun M z1 z2 => ?_)
              rw [hTT] at z1 ⊢
              exact e_X7_run hp (by omega) (by omega) (by omega) M z1 z2
            · refine zs_sipush (n := (-10002)) rfl ⟨by omega, by omega⟩ ?_
              exact zs_ireturn rfl rfl (⟨by unfold cRun; rw [if_neg (by omega), if_pos (by omega)], ⟨zVS.rf g, hp.2.1, by omega⟩⟩)
        · refine zs_sipush (n := (-10001)) rfl ⟨by omega, by omega⟩ ?_
          exact zs_ireturn rfl rfl (⟨by unfold cRun; rw [if_pos (by omega)], ⟨zVS.rf g, hp.2.1, by omega⟩⟩)
      · refine zs_iload_n (j := 2) (i := 2) rfl rfl rfl ?_
        refine zs_iconst (n := 2) rfl ⟨by omega, by omega⟩ ?_
        refine zs_icmp_le 40 rfl (by omega) (fun hc_29 => ?_) (fun hc_29 => ?_)
        · refine zs_iload_n (j := 1) (i := 1) rfl rfl rfl ?_
          refine zs_if_lt 50 rfl (by omega) (fun hc_41 => ?_) (fun hc_41 => ?_)
          · refine zs_sipush (n := (-10002)) rfl ⟨by omega, by omega⟩ ?_
            exact zs_ireturn rfl rfl (⟨by unfold cRun; rw [if_neg (by omega), if_pos (by omega)], ⟨zVS.rf g, hp.2.1, by omega⟩⟩)
          · refine zs_iload_n (j := 1) (i := 1) rfl rfl rfl ?_
            refine zs_bipush (n := 100) rfl ⟨by omega, by omega⟩ ?_
            refine zs_icmp_le 54 rfl (by omega) (fun hc_47 => ?_) (fun hc_47 => ?_)
            · refine zs_aload_n (j := 0) (i := 0) rfl rfl rfl ?_
              refine zs_getfield (f := 7) (k := 7) rfl rfl (trivial) ?_
              show ZVV _ _ _ _ _ (ZR 1 0 :: _) _
              refine zs_aload_n (j := 0) (i := 0) rfl rfl rfl ?_
              refine zs_getfield (f := 7) (k := 5) rfl rfl (trivial) ?_
              show ZVV _ _ _ _ _ (ZR 2 0 :: _) _
              refine zs_callV (host := "") rfl kX7_98 vX1_startFrom (c_X1_startFrom 0) [ZR 2 0] [] rfl (zroom_of (by omega)) rfl (Nat.le_of_ble_eq_true rfl) ⟨rfl, ⟨by decide, hp.2.1.2.1, Int.le_trans hp.2.2 (by decide)⟩, hp.1.2.1.1.1⟩ (fun r_62 g_62 hq_62 => ?_)
              obtain ⟨hr_62, hg_62⟩ := hq_62
              rw [hr_62]
              obtain ⟨hL62, hH62, hT62, hV62, hB62, hs62, eL18_62, eL3_62, eL0_62, eL8_62⟩ := start_okx hp hg_62
              have e2_62 : g_62 2 0 = g 2 0 := hV62 2 0 rfl
              have e15_62 : g_62 15 0 = g 15 0 := hV62 15 0 rfl
              have e16_62 : g_62 16 0 = g 16 0 := hV62 16 0 rfl
              have e17_62 : g_62 17 0 = g 17 0 := hV62 17 0 rfl
              have e18_62 : g_62 18 0 = g 18 0 := hV62 18 0 rfl
              have e19_62 : g_62 19 0 = g 19 0 := hV62 19 0 rfl
              obtain ⟨hLS, hTT⟩ := zLV.start hp hg_62
              show ZVV _ _ _ 65 _ [] g_62
              refine zs_iconst (n := 0) rfl ⟨by omega, by omega⟩ ?_
              refine zs_istore (i := 4) rfl (by decide) (by intro r x hr; have hr2 : r = 3 := (by omega); subst hr2; intro z; cases z) ?_
              show ZVV _ _ _ _ [ZR 7 0, ZI n, ZI w, ZI 1, ZI 0] _ _
              refine l_X7_run hp (by omega) n.toNat 0 _ (by omega) (hLS.le (by omega)) (fun M z1 z2 => ?_)
              rw [hTT] at z1 ⊢
              exact e_X7_run hp (by omega) (by omega) (by omega) M z1 z2
            · refine zs_sipush (n := (-10002)) rfl ⟨by omega, by omega⟩ ?_
              exact zs_ireturn rfl rfl (⟨by unfold cRun; rw [if_neg (by omega), if_pos (by omega)], ⟨zVS.rf g, hp.2.1, by omega⟩⟩)
        · refine zs_iload_n (j := 3) (i := 3) rfl rfl rfl ?_
          refine zs_if_ne 40 rfl (by omega) (fun hc_33 => ?_) (fun hc_33 => ?_)
          · refine zs_iload_n (j := 1) (i := 1) rfl rfl rfl ?_
            refine zs_if_lt 50 rfl (by omega) (fun hc_41 => ?_) (fun hc_41 => ?_)
            · refine zs_sipush (n := (-10002)) rfl ⟨by omega, by omega⟩ ?_
              exact zs_ireturn rfl rfl (⟨by unfold cRun; rw [if_neg (by omega), if_pos (by omega)], ⟨zVS.rf g, hp.2.1, by omega⟩⟩)
            · refine zs_iload_n (j := 1) (i := 1) rfl rfl rfl ?_
              refine zs_bipush (n := 100) rfl ⟨by omega, by omega⟩ ?_
              refine zs_icmp_le 54 rfl (by omega) (fun hc_47 => ?_) (fun hc_47 => ?_)
              · refine zs_aload_n (j := 0) (i := 0) rfl rfl rfl ?_
                refine zs_getfield (f := 7) (k := 7) rfl rfl (trivial) ?_
                show ZVV _ _ _ _ _ (ZR 1 0 :: _) _
                refine zs_aload_n (j := 0) (i := 0) rfl rfl rfl ?_
                refine zs_getfield (f := 7) (k := 5) rfl rfl (trivial) ?_
                show ZVV _ _ _ _ _ (ZR 2 0 :: _) _
                refine zs_callV (host := "") rfl kX7_98 vX1_startFrom (c_X1_startFrom 0) [ZR 2 0] [] rfl (zroom_of (by omega)) rfl (Nat.le_of_ble_eq_true rfl) ⟨rfl, ⟨by decide, hp.2.1.2.1, Int.le_trans hp.2.2 (by decide)⟩, hp.1.2.1.1.1⟩ (fun r_62 g_62 hq_62 => ?_)
                obtain ⟨hr_62, hg_62⟩ := hq_62
                rw [hr_62]
                obtain ⟨hL62, hH62, hT62, hV62, hB62, hs62, eL18_62, eL3_62, eL0_62, eL8_62⟩ := start_okx hp hg_62
                have e2_62 : g_62 2 0 = g 2 0 := hV62 2 0 rfl
                have e15_62 : g_62 15 0 = g 15 0 := hV62 15 0 rfl
                have e16_62 : g_62 16 0 = g 16 0 := hV62 16 0 rfl
                have e17_62 : g_62 17 0 = g 17 0 := hV62 17 0 rfl
                have e18_62 : g_62 18 0 = g 18 0 := hV62 18 0 rfl
                have e19_62 : g_62 19 0 = g 19 0 := hV62 19 0 rfl
                obtain ⟨hLS, hTT⟩ := zLV.start hp hg_62
                show ZVV _ _ _ 65 _ [] g_62
                refine zs_iconst (n := 0) rfl ⟨by omega, by omega⟩ ?_
                refine zs_istore (i := 4) rfl (by decide) (by intro r x hr; have hr2 : r = 3 := (by omega); subst hr2; intro z; cases z) ?_
                show ZVV _ _ _ _ [ZR 7 0, ZI n, ZI w, ZI 1, ZI 0] _ _
                refine l_X7_run hp (by omega) n.toNat 0 _ (by omega) (hLS.le (by omega)) (fun M z1 z2 => ?_)
                rw [hTT] at z1 ⊢
                exact e_X7_run hp (by omega) (by omega) (by omega) M z1 z2
              · refine zs_sipush (n := (-10002)) rfl ⟨by omega, by omega⟩ ?_
                exact zs_ireturn rfl rfl (⟨by unfold cRun; rw [if_neg (by omega), if_pos (by omega)], ⟨zVS.rf g, hp.2.1, by omega⟩⟩)
          · refine zs_sipush (n := (-10001)) rfl ⟨by omega, by omega⟩ ?_
            exact zs_ireturn rfl rfl (⟨by unfold cRun; rw [if_pos (by omega)], ⟨zVS.rf g, hp.2.1, by omega⟩⟩)

theorem l_X7_looked {Y : ZW} {Q : Option ZV → ZG → Prop} {g : ZG}  (hp : CP g) (hb : 0 ≤ g 2 0 10 ∧ g 2 0 10 ≤ 12) : ∀ (m k : Nat) (G : ZG), (k : Int) + m = g 2 0 10 → zLV g ((k : Int) + 1) G → (∀ M, zQR 102 g M → Q (some (ZI (tLook (g 19 0) m k (zTL G)))) M) → ZVV Y mX7_looked (zcx Y 7 Q) 13 [ZR 7 0, ZI (k : Int)] [] G := by
  intro m
  induction m with
  | zero =>
    intro k G hk hLS hq
    have e2_G : G 2 0 = g 2 0 := hLS.2.2.1 2 0 rfl
    have e19_G : G 19 0 = g 19 0 := hLS.2.2.1 19 0 rfl
    refine zs_iload_n (j := 1) (i := 1) rfl rfl rfl ?_
    refine zs_aload_n (j := 0) (i := 0) rfl rfl rfl ?_
    refine zs_getfield (f := 7) (k := 5) rfl rfl (trivial) ?_
    show ZVV _ _ _ _ _ (ZR 2 0 :: _) _
    refine zs_getfield (f := 2) (k := 10) rfl rfl (trivial) ?_
    show ZVV _ _ _ _ _ (ZI (G 2 0 10) :: _) _
    rw [e2_G]
    refine zs_icmp_ge 51 rfl (by omega) (fun hc_21 => ?_) (fun hc_21 => ?_)
    · refine zs_bipush (n := (-5)) rfl ⟨by omega, by omega⟩ ?_
      exact zs_ireturn rfl rfl (hq _ (hLS.le (by omega)).q)
    · exfalso; omega
  | succ m ih =>
    intro k G hk hLS hq
    have e2_G : G 2 0 = g 2 0 := hLS.2.2.1 2 0 rfl
    have e19_G : G 19 0 = g 19 0 := hLS.2.2.1 19 0 rfl
    refine zs_iload_n (j := 1) (i := 1) rfl rfl rfl ?_
    refine zs_aload_n (j := 0) (i := 0) rfl rfl rfl ?_
    refine zs_getfield (f := 7) (k := 5) rfl rfl (trivial) ?_
    show ZVV _ _ _ _ _ (ZR 2 0 :: _) _
    refine zs_getfield (f := 2) (k := 10) rfl rfl (trivial) ?_
    show ZVV _ _ _ _ _ (ZI (G 2 0 10) :: _) _
    rw [e2_G]
    refine zs_icmp_ge 51 rfl (by omega) (fun hc_21 => ?_) (fun hc_21 => ?_)
    · exfalso; omega
    · refine zs_aload_n (j := 0) (i := 0) rfl rfl rfl ?_
      refine zs_getfield (f := 7) (k := 7) rfl rfl (trivial) ?_
      show ZVV _ _ _ _ _ (ZR 1 0 :: _) _
      refine zs_callV (host := "") rfl kX7_158 vX1_step c_X1_step [] [] rfl (zroom_of (by omega)) rfl (Nat.le_of_ble_eq_true rfl) ⟨rfl, hLS.1, hLS.2.1, (by have := hLS.2.2.2.2.2; omega), (by have := hLS.2.2.2.2.1; have := hp.2.2; omega)⟩ (fun r_28 g_28 hq_28 => ?_)
      obtain ⟨hr_28, hT_28, hL_28, hH_28, hS_28, hs_28⟩ := hq_28
      rw [hr_28]
      have hLS_28 := fun d hd => hLS.step (d := d) hd hT_28 hL_28 hH_28 hS_28 hs_28
      have e2_28 : g_28 2 0 = g 2 0 := (hLS_28 _ (Int.le_refl _)).2.2.1 2 0 rfl
      have e19_28 : g_28 19 0 = g 19 0 := (hLS_28 _ (Int.le_refl _)).2.2.1 19 0 rfl
      show ZVV _ _ _ 31 _ [ZI ((tStep (zTL G)).1)] _
      refine zs_aload_n (j := 0) (i := 0) rfl rfl rfl ?_
      refine zs_getfield (f := 7) (k := 5) rfl rfl (trivial) ?_
      show ZVV _ _ _ _ _ (ZR 2 0 :: _) _
      refine zs_getfield (f := 2) (k := 9) rfl rfl (trivial) ?_
      show ZVV _ _ _ _ _ (ZR 19 0 :: _) _
      refine zs_iload_n (j := 1) (i := 1) rfl rfl rfl ?_
      show ZVV _ _ _ 39 _ _ _
      refine zs_iald (n := 12) rfl rfl (by omega) (by omega) ?_
      show ZVV _ _ _ _ _ (ZI (g_28 19 0 k) :: _) _
      rw [e19_28]
      refine zs_icmp_eq 45 rfl (by omega) (fun hc_40 => ?_) (fun hc_40 => ?_)
      · refine zs_iinc_r (i := 1) rfl rfl (by intro r x hr; have hr2 : r = 0 := (by omega); subst hr2; intro z; cases z) ⟨by omega, by omega⟩ ?_
        show ZVV _ _ _ _ [ZR 7 0, ZI ((k : Int) + 1)] _ _
        refine zs_goto 13 rfl (by omega) ?_
        exact ih (k + 1) _ (by omega) (hLS_28 _ (by omega)) (fun M z => by have := hq M z; rw [tLook_s, if_neg (by omega), ← hT_28] at this; exact this)
      · refine zs_iload_n (j := 1) (i := 1) rfl rfl rfl ?_
        exact zs_ireturn rfl rfl (by have := hq _ ((hLS_28 _ (Int.le_refl _)).le (by omega)).q; rw [tLook_s, if_pos (by omega)] at this; exact this)
theorem c_X7_looked  : ZC mX7_looked 7 (fun av g => av = [ZR 7 0] ∧ CP g ∧ 0 ≤ g 2 0 10 ∧ g 2 0 10 ≤ 12) (fun _ g r g' => r = some (ZI (tLook (g 19 0) (g 2 0 10).toNat 0 (cT g))) ∧ zQR 102 g g') := by
  refine zc_of gX7_looked (fun av g hp => by obtain ⟨rfl, -⟩ := hp; exact Nat.le_of_ble_eq_true rfl) (fun Y av g hwf hrg hp hok => ?_)
  obtain ⟨rfl, hp⟩ := hp
  show ZVV _ _ _ 0 [ZR 7 0, ZX 99] [] _
  have hb := hp.2
  replace hp := hp.1
  refine zs_aload_n (j := 0) (i := 0) rfl rfl rfl ?_
  refine zs_getfield (f := 7) (k := 7) rfl rfl (trivial) ?_
  show ZVV _ _ _ _ _ (ZR 1 0 :: _) _
  refine zs_aload_n (j := 0) (i := 0) rfl rfl rfl ?_
  refine zs_getfield (f := 7) (k := 5) rfl rfl (trivial) ?_
  show ZVV _ _ _ _ _ (ZR 2 0 :: _) _
  refine zs_callV (host := "") rfl kX7_98 vX1_startFrom (c_X1_startFrom 0) [ZR 2 0] [] rfl (zroom_of (by omega)) rfl (Nat.le_of_ble_eq_true rfl) ⟨rfl, ⟨by decide, hp.2.1.2.1, Int.le_trans hp.2.2 (by decide)⟩, hp.1.2.1.1.1⟩ (fun r_8 g_8 hq_8 => ?_)
  obtain ⟨hr_8, hg_8⟩ := hq_8
  rw [hr_8]
  obtain ⟨hL8, hH8, hT8, hV8, hB8, hs8, eL18_8, eL3_8, eL0_8, eL8_8⟩ := start_okx hp hg_8
  have e2_8 : g_8 2 0 = g 2 0 := hV8 2 0 rfl
  have e15_8 : g_8 15 0 = g 15 0 := hV8 15 0 rfl
  have e16_8 : g_8 16 0 = g 16 0 := hV8 16 0 rfl
  have e17_8 : g_8 17 0 = g 17 0 := hV8 17 0 rfl
  have e18_8 : g_8 18 0 = g 18 0 := hV8 18 0 rfl
  have e19_8 : g_8 19 0 = g 19 0 := hV8 19 0 rfl
  obtain ⟨hLS, hTT⟩ := zLV.start hp hg_8
  show ZVV _ _ _ 11 _ [] g_8
  refine zs_iconst (n := 0) rfl ⟨by omega, by omega⟩ ?_
  refine zs_istore_n (j := 1) (i := 1) rfl rfl (by decide) (by intro r x hr; have hr2 : r = 0 := (by omega); subst hr2; intro z; cases z) ?_
  show ZVV _ _ _ _ [ZR 7 0, ZI 0] _ _
  exact l_X7_looked hp hb (g 2 0 10).toNat 0 _ (by omega) (hLS.le (by omega)) (fun M z => ⟨by rw [hTT], z⟩)

theorem l_X7_edge {Y : ZW} {Q : Option ZV → ZG → Prop} {g : ZG} (hp : CP g) : ∀ (m : Nat) (G : ZG) (t : ZT), (m : Int) ≤ 101 → zLV g 1 G → (∀ w, tWF (zTL G) w = tWF t w) → (∀ M, zQR 1 g M → Q (some (ZI (tEdge m t))) M) → ZVV Y mX7_edge (zcx Y 7 Q) 14 [ZR 7 0, ZI ((m : Int) - 1)] [] G := by
  intro m
  induction m with
  | zero =>
    intro G t hk hLS hT hq
    refine zs_iload_n (j := 1) (i := 1) rfl rfl rfl ?_
    refine zs_if_lt 44 rfl (by omega) (fun hc_15 => ?_) (fun hc_15 => ?_)
    · refine zs_bipush (n := (-5)) rfl ⟨by omega, by omega⟩ ?_
      exact zs_ireturn rfl rfl (hq _ hLS.q)
    · exfalso; omega
  | succ m ih =>
    intro G t hk hLS hT hq
    rw [show ((m + 1 : Nat) : Int) - 1 = (m : Int) by omega]
    refine zs_iload_n (j := 1) (i := 1) rfl rfl rfl ?_
    refine zs_if_lt 44 rfl (by omega) (fun hc_15 => ?_) (fun hc_15 => ?_)
    · exfalso; omega
    · refine zs_aload_n (j := 0) (i := 0) rfl rfl rfl ?_
      refine zs_getfield (f := 7) (k := 7) rfl rfl (trivial) ?_
      show ZVV _ _ _ _ _ (ZR 1 0 :: _) _
      refine zs_iload_n (j := 1) (i := 1) rfl rfl rfl ?_
      refine zs_putfield (f := 1) (k := 1) (x := (m : Int)) rfl rfl (rfl) ?_
      refine zs_aload_n (j := 0) (i := 0) rfl rfl rfl ?_
      refine zs_getfield (f := 7) (k := 7) rfl rfl (trivial) ?_
      show ZVV _ _ _ _ _ (ZR 1 0 :: _) _
      have hLW := hLS.wf (w := (m : Int)) ⟨by omega, by omega⟩
      refine zs_callV (host := "") rfl kX7_181 vX1_allSuit c_X1_allSuit [] [] rfl (zroom_of (by omega)) rfl (Nat.le_of_ble_eq_true rfl) ⟨rfl, hLW.1, hLW.2.1⟩ (fun r_30 g_30 hq_30 => ?_)
      obtain ⟨hr_30, hS_30, hL_30⟩ := hq_30
      rw [hr_30, ztl_wf]
      show ZVV _ _ _ 33 _ [ZI (if tAll (tWF (zTL G) (m : Int)) = true then 1 else 0)] _
      show ZVV _ _ _ 33 _ _ _
      refine zs_if_eq 38 rfl (by omega) (fun hc_33 => ?_) (fun hc_33 => ?_)
      · refine zs_iinc_r (i := 1) rfl rfl (by intro r x hr; have hr2 : r = 0 := (by omega); subst hr2; intro z; cases z) ⟨by omega, by omega⟩ ?_
        show ZVV _ _ _ _ [ZR 7 0, ZI ((m : Int) + (-1))] _ _
        refine zs_goto 14 rfl (by omega) ?_
        have hL3 := hLW.sl hS_30 hL_30
        have hT2 : ∀ w, tWF (zTL g_30) w = tWF t w := fun w => by rw [hS_30.townL, ztl_wf]; exact hT w
        have := ih g_30 t (by omega) hL3 hT2 (fun M z => by have := hq M z; rw [tEdge_s, ← hT, if_neg (zif0 hc_33)] at this; exact this)
        rw [show (m : Int) + (-1) = (m : Int) - 1 by omega]
        exact this
      · refine zs_iload_n (j := 1) (i := 1) rfl rfl rfl ?_
        exact zs_ireturn rfl rfl (by have := hq _ (hLW.sl hS_30 hL_30).q; rw [tEdge_s, ← hT, if_pos (zif1 hc_33)] at this; exact this)
theorem c_X7_edge  : ZC mX7_edge 7 (fun av g => av = [ZR 7 0] ∧ CP g) (fun _ g r g' => r = some (ZI (tEdge 101 (cT g))) ∧ zQR 1 g g') := by
  refine zc_of gX7_edge (fun av g hp => by obtain ⟨rfl, -⟩ := hp; exact Nat.le_of_ble_eq_true rfl) (fun Y av g hwf hrg hp hok => ?_)
  obtain ⟨rfl, hp⟩ := hp
  show ZVV _ _ _ 0 [ZR 7 0, ZX 99] [] _
  refine zs_aload_n (j := 0) (i := 0) rfl rfl rfl ?_
  refine zs_getfield (f := 7) (k := 7) rfl rfl (trivial) ?_
  show ZVV _ _ _ _ _ (ZR 1 0 :: _) _
  refine zs_aload_n (j := 0) (i := 0) rfl rfl rfl ?_
  refine zs_getfield (f := 7) (k := 5) rfl rfl (trivial) ?_
  show ZVV _ _ _ _ _ (ZR 2 0 :: _) _
  refine zs_callV (host := "") rfl kX7_98 vX1_startFrom (c_X1_startFrom 0) [ZR 2 0] [] rfl (zroom_of (by omega)) rfl (Nat.le_of_ble_eq_true rfl) ⟨rfl, ⟨by decide, hp.2.1.2.1, Int.le_trans hp.2.2 (by decide)⟩, hp.1.2.1.1.1⟩ (fun r_8 g_8 hq_8 => ?_)
  obtain ⟨hr_8, hg_8⟩ := hq_8
  rw [hr_8]
  obtain ⟨hL8, hH8, hT8, hV8, hB8, hs8, eL18_8, eL3_8, eL0_8, eL8_8⟩ := start_okx hp hg_8
  have e2_8 : g_8 2 0 = g 2 0 := hV8 2 0 rfl
  have e15_8 : g_8 15 0 = g 15 0 := hV8 15 0 rfl
  have e16_8 : g_8 16 0 = g 16 0 := hV8 16 0 rfl
  have e17_8 : g_8 17 0 = g 17 0 := hV8 17 0 rfl
  have e18_8 : g_8 18 0 = g 18 0 := hV8 18 0 rfl
  have e19_8 : g_8 19 0 = g 19 0 := hV8 19 0 rfl
  obtain ⟨hLS, hTT⟩ := zLV.start hp hg_8
  show ZVV _ _ _ 11 _ [] g_8
  refine zs_bipush (n := 100) rfl ⟨by omega, by omega⟩ ?_
  refine zs_istore_n (j := 1) (i := 1) rfl rfl (by decide) (by intro r x hr; have hr2 : r = 0 := (by omega); subst hr2; intro z; cases z) ?_
  show ZVV _ _ _ _ [ZR 7 0, ZI 100] _ _
  exact l_X7_edge hp 101 _ _ (by omega) hLS (fun w => rfl) (fun M z => ⟨by rw [hTT], z⟩)

