theorem zA.k {g G : ZG} (h : zA g G) : zK g G := h.wa.k
theorem zA.T {g G : ZG} (h : zA g G) : mT G = mT g := by rw [mT_k h.k, h.2 0 3 (by decide), h.2 0 26 (by decide), h.1 33 (by decide) (by decide) (by decide) (by decide)]; rfl
theorem zA.m {g G : ZG} (h : zA g G) (k : MOK g) : MOK G := k.k h.k (by rw [h.2 0 3 (by decide)]; exact k.2.2.2.1) (by rw [h.2 0 26 (by decide)]; exact k.2.2.2.2.1) (fun p hp => by rw [h.1 33 (by decide) (by decide) (by decide) (by decide)]; exact (k.2.2.2.2.2.2 p hp).1)
theorem zA.h {g G : ZG} (h : zA g G) (k : MHH g) : MHH G := by unfold MHH; rw [h.2 0 2 (by decide), h.1 33 (by decide) (by decide) (by decide) (by decide)]; exact k
theorem zLM.put {g G : ZG} (h : zLM g G) {p : Nat} (hp : p < 6) (v : Int) : zLM g (zup G 33 0 p v) := ⟨fun f h1 h2 h3 h4 h5 => (zup_nf _ _ _ _ h2).trans (h.1 f h1 h2 h3 h4 h5), fun i k hk => by rw [zup_nf _ _ _ _ (by decide)]; exact h.2.1 i k hk, fun i k hk => by unfold zup; rw [if_neg (fun z => hk ⟨z.2.2, by omega⟩)]; exact h.2.2.1 i k hk, fun k hk => by rw [zup_nf _ _ _ _ (by decide)]; exact h.2.2.2.1 k hk, by rw [zup_nf _ _ _ _ (by decide)]; exact h.2.2.2.2⟩
theorem zLM.gn {g G : ZG} (h : zLM g G) (v : Int) : zLM g (zup G 8 0 3 v) := ⟨fun f h1 h2 h3 h4 h5 => (zup_nf _ _ _ _ h1).trans (h.1 f h1 h2 h3 h4 h5), fun i k hk => by unfold zup; rw [if_neg (fun z => hk ⟨z.2.2, Or.inl z.2.1⟩)]; exact h.2.1 i k hk, fun i k hk => by rw [zup_nf _ _ _ _ (by decide)]; exact h.2.2.1 i k hk, fun k hk => by rw [zup_nf _ _ _ _ (by decide)]; exact h.2.2.2.1 k hk, by rw [zup_nk _ _ _ _ _ _ (by decide)]; exact h.2.2.2.2⟩
theorem zLM.k {g G : ZG} (h : zLM g G) : zK g G := ⟨fun f hf => h.1 f (by omega) (by omega) (by omega) (by omega) (by omega), fun k hk => h.2.1 0 k (by omega)⟩
def mLead (t : ZT) (p : Nat) (h : Int) : Bool := decide (0 ≤ (tStep (tBk t p h (max 0 (tmv t - 1)))).1 ∧ tSame (tStep (tBk t p h (max 0 (tmv t - 1)))).2 (tho t) = true)
theorem l_X8_leads {Y : ZW} {Q : Option ZV → ZG → Prop} {g G : ZG} {p h v : Int} (hm : MOK g) (hh : MHH g) (h3 : g 8 0 3 ≤ 9999) (hpp : 0 ≤ p ∧ p < g 8 0 2) (hh0 : 0 ≤ h ∧ h < g 8 0 0) (hv : v = max 0 (g 8 0 3 - 1)) (hLM : zLM g G) (h33 : G 33 = g 33) (h26 : G 8 0 26 = g 8 0 26) (hq : ∀ M, zA g M → Q (some (ZI (if mLead (mT g) p.toNat h = true then 1 else 0))) M) : ZVV Y mX8_leadsHere (zcx Y 12 Q) 32 [ZR 8 0, ZI p, ZI h, ZX 99] [] (zup (zup G 33 0 p.toNat h) 8 0 3 v) := by
  have hn6 := hm.2.2.1
  have hg0 := hm.2.2.2.1
  have hLB : zLM g (zup (zup G 33 0 p.toNat h) 8 0 3 v) := (hLM.put (by omega) h).gn v
  have h3B : (zup (zup G 33 0 p.toNat h) 8 0 3 v) 8 0 3 = v := zup_eq _ _ _ _ _
  have e33 : (zup (zup G 33 0 p.toNat h) 8 0 3 v) 33 0 = fun c => if c = p.toNat then h else g 33 0 c := by
    rw [zup_nf _ _ _ _ (by decide)]
    funext c
    unfold zup
    rw [h33]
    by_cases hc : c = p.toNat
    · rw [if_pos ⟨rfl, hc, rfl⟩, if_pos hc]
    · rw [if_neg (fun z => hc z.2.1), if_neg hc]
  have h26B : (zup (zup G 33 0 p.toNat h) 8 0 3 v) 8 0 26 = g 8 0 26 := by rw [zup_nk _ _ _ _ _ _ (by decide), zup_nf _ _ _ _ (by decide)]; exact h26
  have hMB : MOK (zup (zup G 33 0 p.toNat h) 8 0 3 v) := hm.k hLB.k (by rw [h3B, hv]; omega) (by rw [h26B]; exact hm.2.2.2.2.1) (fun c hc => by
    rw [e33]
    have := (hm.2.2.2.2.2.2 c hc).1
    dsimp only
    split <;> omega)
  have hHB : MHH (zup (zup G 33 0 p.toNat h) 8 0 3 v) := fun c hc => by
    rw [hLB.2.1 0 2 (by decide)] at hc
    rw [e33]
    have := hh c hc
    dsimp only
    split <;> omega
  have hTB : mT (zup (zup G 33 0 p.toNat h) 8 0 3 v) = tBk (mT g) p.toNat h (max 0 (g 8 0 3 - 1)) := by rw [mT_k hLB.k, h3B, e33, h26B, hv]; rfl
  refine zs_aload_n (j := 0) (i := 0) rfl rfl rfl ?_
  refine zs_callV (host := "") rfl kX8_310 vX8_goMove c_X8_goMove [] [] rfl (zroom_of (by omega)) rfl (Nat.le_of_ble_eq_true rfl) ⟨rfl, hMB, hHB, by rw [h3B, hv]; omega⟩ (fun r_33 g_33 hq_33 => ?_)
  obtain ⟨hr_33, hT_33, hGM_33, hM_33, hH_33, hs_33⟩ := hq_33
  rw [hr_33, hTB]
  rw [hTB] at hT_33
  have hLM_33 := hLB.gm hGM_33
  show ZVV _ _ _ 36 _ [ZI (tStep (tBk (mT g) p.toNat h (max 0 (g 8 0 3 - 1)))).1] g_33
  refine zs_if_lt 50 rfl (by omega) (fun hc_36 => ?_) (fun hc_36 => ?_)
  · refine zs_iconst (n := 0) rfl ⟨by omega, by omega⟩ ?_
    refine zs_istore_n (j := 3) (i := 3) rfl rfl (by decide) (by intro r x hr; have hr2 : r = 2 := (by omega); subst hr2; intro z; cases z) ?_
    show ZVV _ _ _ _ [ZR 8 0, ZI p, ZI h, ZI 0] _ _
    refine zs_aload_n (j := 0) (i := 0) rfl rfl rfl ?_
    refine zs_callV (host := "") rfl kX8_319 vX8_putBack c_X8_putBack [] [] rfl (zroom_of (by omega)) rfl (Nat.le_of_ble_eq_true rfl) ⟨rfl, trivial⟩ (fun r_53 g_53 hq_53 => ?_)
    obtain ⟨hr_53, hg_53⟩ := hq_53
    rw [hr_53]
    have hA_53 : zA g g_53 := by rw [hg_53]; exact (hLM_33).back
    show ZVV _ _ _ 56 _ [] g_53
    refine zs_iload_n (j := 3) (i := 3) rfl rfl rfl ?_
    exact zs_zreturn rfl rfl (by omega) (by
      have hx := hq g_53 hA_53
      rw [show mLead (mT g) p.toNat h = false from decide_eq_false (fun z => by first | (have z1 : 0 ≤ (tStep (tBk (mT g) p.toNat h (max 0 (g 8 0 3 - 1)))).1 := z.1; omega) | exact zif0 hc_43 z.2)] at hx
      exact hx)
  · refine zs_aload_n (j := 0) (i := 0) rfl rfl rfl ?_
    refine zs_callV (host := "") rfl kX8_322 vX8_areKept c_X8_areKept [] [] rfl (zroom_of (by omega)) rfl (Nat.le_of_ble_eq_true rfl) ⟨rfl, hM_33.2.2.1, trivial⟩ (fun r_40 g_40 hq_40 => ?_)
    obtain ⟨hr_40, hg_40⟩ := hq_40
    rw [hr_40, hg_40, hT_33, same_k hLM_33 hn6 (show tnp (tStep (tBk (mT g) p.toNat h (max 0 (g 8 0 3 - 1)))).2 = g 8 0 2 from by rw [← hT_33]; exact hLM_33.2.1 0 2 (by decide))]
    show ZVV _ _ _ 43 _ [ZI (if tSame (tStep (tBk (mT g) p.toNat h (max 0 (g 8 0 3 - 1)))).2 (g 33 0) = true then 1 else 0)] g_33
    refine zs_if_eq 50 rfl (by omega) (fun hc_43 => ?_) (fun hc_43 => ?_)
    · refine zs_iconst (n := 0) rfl ⟨by omega, by omega⟩ ?_
      refine zs_istore_n (j := 3) (i := 3) rfl rfl (by decide) (by intro r x hr; have hr2 : r = 2 := (by omega); subst hr2; intro z; cases z) ?_
      show ZVV _ _ _ _ [ZR 8 0, ZI p, ZI h, ZI 0] _ _
      refine zs_aload_n (j := 0) (i := 0) rfl rfl rfl ?_
      refine zs_callV (host := "") rfl kX8_319 vX8_putBack c_X8_putBack [] [] rfl (zroom_of (by omega)) rfl (Nat.le_of_ble_eq_true rfl) ⟨rfl, trivial⟩ (fun r_53 g_53 hq_53 => ?_)
      obtain ⟨hr_53, hg_53⟩ := hq_53
      rw [hr_53]
      have hA_53 : zA g g_53 := by rw [hg_53]; exact (hLM_33).back
      show ZVV _ _ _ 56 _ [] g_53
      refine zs_iload_n (j := 3) (i := 3) rfl rfl rfl ?_
      exact zs_zreturn rfl rfl (by omega) (by
      have hx := hq g_53 hA_53
      rw [show mLead (mT g) p.toNat h = false from decide_eq_false (fun z => by first | (have z1 : 0 ≤ (tStep (tBk (mT g) p.toNat h (max 0 (g 8 0 3 - 1)))).1 := z.1; omega) | exact zif0 hc_43 z.2)] at hx
      exact hx)
    · refine zs_iconst (n := 1) rfl ⟨by omega, by omega⟩ ?_
      refine zs_goto 51 rfl (by omega) ?_
      refine zs_istore_n (j := 3) (i := 3) rfl rfl (by decide) (by intro r x hr; have hr2 : r = 2 := (by omega); subst hr2; intro z; cases z) ?_
      show ZVV _ _ _ _ [ZR 8 0, ZI p, ZI h, ZI 1] _ _
      refine zs_aload_n (j := 0) (i := 0) rfl rfl rfl ?_
      refine zs_callV (host := "") rfl kX8_319 vX8_putBack c_X8_putBack [] [] rfl (zroom_of (by omega)) rfl (Nat.le_of_ble_eq_true rfl) ⟨rfl, trivial⟩ (fun r_53 g_53 hq_53 => ?_)
      obtain ⟨hr_53, hg_53⟩ := hq_53
      rw [hr_53]
      have hA_53 : zA g g_53 := by rw [hg_53]; exact (hLM_33).back
      show ZVV _ _ _ 56 _ [] g_53
      refine zs_iload_n (j := 3) (i := 3) rfl rfl rfl ?_
      exact zs_zreturn rfl rfl (by omega) (by
      have hx := hq g_53 hA_53
      rw [show mLead (mT g) p.toNat h = true from decide_eq_true ⟨by show 0 ≤ (tStep (tBk (mT g) p.toNat h (max 0 (g 8 0 3 - 1)))).1; omega, zif1 hc_43⟩] at hx
      exact hx)
theorem c_X8_leadsHere (p h : Int) : ZC mX8_leadsHere 12 (fun av g => av = [ZR 8 0, ZI p, ZI h] ∧ MOK g ∧ MHH g ∧ g 8 0 3 ≤ 9999 ∧ (0 ≤ p ∧ p < g 8 0 2) ∧ (0 ≤ h ∧ h < g 8 0 0)) (fun _ g r g' => r = some (ZI (if mLead (mT g) p.toNat h = true then 1 else 0)) ∧ zA g g') := by
  refine zc_of gX8_leadsHere (fun av g hp => by obtain ⟨rfl, -⟩ := hp; exact Nat.le_of_ble_eq_true rfl) (fun Y av g hwf hrg hp hok => ?_)
  obtain ⟨rfl, hp⟩ := hp
  show ZVV _ _ _ 0 [ZR 8 0, ZI p, ZI h, ZX 99] [] _
  obtain ⟨hm, hh, h3, hpp, hh0⟩ := hp
  have hn6 := hm.2.2.1
  have hg0 := hm.2.2.2.1
  refine zs_aload_n (j := 0) (i := 0) rfl rfl rfl ?_
  refine zs_callV (host := "") rfl kX8_313 vX8_keep c_X8_keep [] [] rfl (zroom_of (by omega)) rfl (Nat.le_of_ble_eq_true rfl) ⟨rfl, trivial⟩ (fun r_1 g_1 hq_1 => ?_)
  obtain ⟨hr_1, hg_1⟩ := hq_1
  rw [hr_1]
  have hLM_1 : zLM g g_1 := by rw [hg_1]; exact zLM.start g
  have hM_1 : MOK g_1 := by rw [hg_1]; exact mkeep_ok hm
  have hH_1 : MHH g_1 := by rw [hg_1]; exact mkeep_hh hh
  have hT_1 : mT g_1 = mT g := by rw [hg_1]; exact mkeep_T g
  have h3_1 : g_1 8 0 3 = g 8 0 3 := by rw [hg_1]; exact mkeep_8 g 0 3 (by decide)
  show ZVV _ _ _ 4 _ [] g_1
  refine zs_aload_n (j := 0) (i := 0) rfl rfl rfl ?_
  refine zs_getfield (f := 8) (k := 7) rfl rfl (trivial) ?_
  show ZVV _ _ _ _ _ (ZR 33 0 :: _) _
  refine zs_iload_n (j := 1) (i := 1) rfl rfl rfl ?_
  refine zs_iload_n (j := 2) (i := 2) rfl rfl rfl ?_
  refine zs_iast (n := 6) rfl rfl (by omega) (by omega) ?_
  show ZVV _ _ _ 11 _ _ _
  refine zs_aload_n (j := 0) (i := 0) rfl rfl rfl ?_
  refine zs_aload_n (j := 0) (i := 0) rfl rfl rfl ?_
  refine zs_getfield (f := 8) (k := 3) rfl rfl (trivial) ?_
  show ZVV _ _ _ _ _ (ZI (g_1 8 0 3) :: _) _
  rw [show g_1 8 0 3 = g 8 0 3 from h3_1]
  refine zs_if_le 28 rfl (by omega) (fun hc_16 => ?_) (fun hc_16 => ?_)
  · refine zs_iconst (n := 0) rfl ⟨by omega, by omega⟩ ?_
    refine zs_putfield (f := 8) (k := 3) (x := 0) rfl rfl (rfl) ?_
    exact l_X8_leads hm hh h3 hpp hh0 (by omega) hLM_1 (by rw [hg_1]; exact mkeep_f g (by decide) (by decide)) (by rw [hg_1]; exact mkeep_8 g 0 26 (by decide)) (fun M hA => ⟨rfl, hA⟩)
  · refine zs_aload_n (j := 0) (i := 0) rfl rfl rfl ?_
    refine zs_getfield (f := 8) (k := 3) rfl rfl (trivial) ?_
    show ZVV _ _ _ _ _ (ZI (g_1 8 0 3) :: _) _
    rw [show g_1 8 0 3 = g 8 0 3 from h3_1]
    refine zs_iconst (n := 1) rfl ⟨by omega, by omega⟩ ?_
    refine zs_isub_r rfl ⟨by omega, by omega⟩ ?_
    refine zs_goto 29 rfl (by omega) ?_
    refine zs_putfield (f := 8) (k := 3) (x := (g 8 0 3) - 1) rfl rfl (rfl) ?_
    exact l_X8_leads hm hh h3 hpp hh0 (by omega) hLM_1 (by rw [hg_1]; exact mkeep_f g (by decide) (by decide)) (by rw [hg_1]; exact mkeep_8 g 0 26 (by decide)) (fun M hA => ⟨rfl, hA⟩)

def mBf (t : ZT) (p h : Nat) (s : Int × Int) : Int × Int := if tFr t (h : Int) = true ∧ mLead t p (h : Int) = true then (s.1 + 1, if s.1 = 0 then 10 * (p : Int) + h else s.2) else s
def mBfs (t : ZT) : Int × Int := zfold (fun p s => zfold (mBf t p) (tn t).toNat 0 s) (tnp t).toNat 0 (0, -5)
theorem mBf_r (t : ZT) (p : Nat) : ∀ (m k : Nat) (s : Int × Int), s.1 ≤ (zfold (mBf t p) m k s).1 ∧ (zfold (mBf t p) m k s).1 ≤ s.1 + m := by
  intro m
  induction m with
  | zero => intro k s; exact ⟨Int.le_refl _, by show s.1 ≤ s.1 + 0; omega⟩
  | succ m ih =>
    intro k s
    have h := ih (k + 1) (mBf t p k s)
    have h2 : s.1 ≤ (mBf t p k s).1 ∧ (mBf t p k s).1 ≤ s.1 + 1 := by
      unfold mBf
      split
      · exact ⟨by show s.1 ≤ s.1 + 1; omega, Int.le_refl _⟩
      · exact ⟨Int.le_refl _, by omega⟩
    show s.1 ≤ (zfold (mBf t p) m (k + 1) (mBf t p k s)).1 ∧ (zfold (mBf t p) m (k + 1) (mBf t p k s)).1 ≤ s.1 + (m + 1 : Nat)
    omega
def mBefore (g : ZG) (w : Int) : Int := if w < 0 ∨ 2 < w then -1 else if w = 0 then (mBfs (mT g)).1 else if (mBfs (mT g)).2 < 0 then -5 else if w = 1 then (mBfs (mT g)).2 / 10 else (mBfs (mT g)).2 % 10
theorem l_X8_bef {Y : ZW} {Q : Option ZV → ZG → Prop} {g : ZG} {w : Int} {a : Nat} (hm : MOK g) (hh : MHH g) (h3 : g 8 0 3 ≤ 9999) (ha : (a : Int) < g 8 0 2) : ∀ (m k : Nat) (s : Int × Int) (G : ZG), (k : Int) + m = g 8 0 0 → zA g G → (0 ≤ s.1 ∧ s.1 ≤ 8 * a + k) → (∀ (s2 : Int × Int) M, s2 = zfold (mBf (mT g) a) m k s → (0 ≤ s2.1 ∧ s2.1 ≤ 8 * a + g 8 0 0) → zA g M → ZVV Y mX8_before (zcx Y 13 Q) 94 [ZR 8 0, ZI w, ZI ((zfree (g 8 0 0) (g 8 0 2) (g 33 0) : Nat) : Int), ZI s2.1, ZI s2.2, ZI (a : Int), ZI (g 8 0 0)] [] M) → ZVV Y mX8_before (zcx Y 13 Q) 38 [ZR 8 0, ZI w, ZI ((zfree (g 8 0 0) (g 8 0 2) (g 33 0) : Nat) : Int), ZI s.1, ZI s.2, ZI (a : Int), ZI (k : Int)] [] G := by
  have hn8 := hm.1
  have hn6 := hm.2.2.1
  intro m
  induction m with
  | zero =>
    intro k s G hk hz hb hq
    replace hb : 0 ≤ s.1 ∧ s.1 ≤ 8 * a + g 8 0 0 := by omega
    refine zs_iload (i := 6) rfl rfl ?_
    refine zs_aload_n (j := 0) (i := 0) rfl rfl rfl ?_
    refine zs_getfield (f := 8) (k := 0) rfl rfl (trivial) ?_
    show ZVV _ _ _ _ _ (ZI (G 8 0 0) :: _) _
    rw [show G 8 0 0 = g 8 0 0 from hz.2 0 0 (by decide)]
    refine zs_icmp_ge 94 rfl (by omega) (fun hc_44 => ?_) (fun hc_44 => ?_)
    · rw [show (k : Int) = g 8 0 0 by omega]
      exact hq s G rfl hb hz
    · exfalso; omega
  | succ m ih =>
    intro k s G hk hz hb hq
    refine zs_iload (i := 6) rfl rfl ?_
    refine zs_aload_n (j := 0) (i := 0) rfl rfl rfl ?_
    refine zs_getfield (f := 8) (k := 0) rfl rfl (trivial) ?_
    show ZVV _ _ _ _ _ (ZI (G 8 0 0) :: _) _
    rw [show G 8 0 0 = g 8 0 0 from hz.2 0 0 (by decide)]
    refine zs_icmp_ge 94 rfl (by omega) (fun hc_44 => ?_) (fun hc_44 => ?_)
    · exfalso; omega
    · refine zs_aload_n (j := 0) (i := 0) rfl rfl rfl ?_
      refine zs_iload_n (j := 2) (i := 2) rfl rfl rfl ?_
      refine zs_iload (i := 6) rfl rfl ?_
      refine zs_callV (host := "") rfl kX8_271 vX8_has (c_X8_has (zfree (g 8 0 0) (g 8 0 2) (g 33 0)) (k : Int)) [ZI ((zfree (g 8 0 0) (g 8 0 2) (g 33 0) : Nat) : Int), ZI (k : Int)] [] rfl (zroom_of (by omega)) rfl (Nat.le_of_ble_eq_true rfl) (⟨rfl, zfree_lt hn8.2, by omega, by omega⟩) (fun r_51 g_51 hq_51 => ?_)
      obtain ⟨hr_51, hg_51⟩ := hq_51
      rw [hr_51, hg_51]
      show ZVV _ _ _ 54 _ [ZI (if Nat.testBit (zfree (g 8 0 0) (g 8 0 2) (g 33 0)) k = true then 1 else 0)] _
      rw [zfree_bit (by omega)]
      refine zs_if_eq 88 rfl (by omega) (fun hc_54 => ?_) (fun hc_54 => ?_)
      · refine zs_iinc_r (i := 6) rfl rfl (by intro r x hr; have hr2 : r = 5 := (by omega); subst hr2; intro z; cases z) ⟨by omega, by omega⟩ ?_
        show ZVV _ _ _ _ [ZR 8 0, ZI w, ZI ((zfree (g 8 0 0) (g 8 0 2) (g 33 0) : Nat) : Int), ZI s.1, ZI s.2, ZI (a : Int), ZI ((k : Int) + 1)] _ _
        refine zs_goto 38 rfl (by omega) ?_
        have he : mBf (mT g) a k s = s := if_neg (fun z => by first | exact zif0 hc_54 z.1 | exact hc_65 (by rw [z.2]; decide))
        refine ih (k + 1) s G (by omega) hz ⟨hb.1, by have := hb.2; omega⟩ (fun s2 M e2 b2 hM => hq s2 M ?_ b2 hM)
        rw [e2]
        show _ = zfold (mBf (mT g) a) m (k + 1) (mBf (mT g) a k s)
        rw [he]
      · refine zs_aload_n (j := 0) (i := 0) rfl rfl rfl ?_
        refine zs_iload (i := 5) rfl rfl ?_
        refine zs_iload (i := 6) rfl rfl ?_
        refine zs_callV (host := "") rfl kX8_343 vX8_leadsHere (c_X8_leadsHere (a : Int) (k : Int)) [ZI (a : Int), ZI (k : Int)] [] rfl (zroom_of (by omega)) rfl (Nat.le_of_ble_eq_true rfl) ⟨rfl, hz.m hm, hz.h hh, by rw [hz.2 0 3 (by decide)]; exact h3, ⟨by omega, by rw [hz.2 0 2 (by decide)]; omega⟩, ⟨by omega, by rw [hz.2 0 0 (by decide)]; omega⟩⟩ (fun r_62 g_62 hq_62 => ?_)
        obtain ⟨hr_62, hA_62⟩ := hq_62
        rw [hr_62, hz.T]
        have hz_62 := hz.tr hA_62
        show ZVV _ _ _ 65 _ [ZI (if mLead (mT g) a (k : Int) = true then 1 else 0)] g_62
        refine zs_if_ne 71 rfl (by omega) (fun hc_65 => ?_) (fun hc_65 => ?_)
        · refine zs_iload_n (j := 3) (i := 3) rfl rfl rfl ?_
          refine zs_if_ne 85 rfl (by omega) (fun hc_72 => ?_) (fun hc_72 => ?_)
          · refine zs_iinc_r (i := 3) rfl rfl (by intro r x hr; have hr2 : r = 2 := (by omega); subst hr2; intro z; cases z) ⟨by omega, by omega⟩ ?_
            show ZVV _ _ _ _ [ZR 8 0, ZI w, ZI ((zfree (g 8 0 0) (g 8 0 2) (g 33 0) : Nat) : Int), ZI (s.1 + 1), ZI s.2, ZI (a : Int), ZI (k : Int)] _ _
            refine zs_iinc_r (i := 6) rfl rfl (by intro r x hr; have hr2 : r = 5 := (by omega); subst hr2; intro z; cases z) ⟨by omega, by omega⟩ ?_
            show ZVV _ _ _ _ [ZR 8 0, ZI w, ZI ((zfree (g 8 0 0) (g 8 0 2) (g 33 0) : Nat) : Int), ZI (s.1 + 1), ZI s.2, ZI (a : Int), ZI ((k : Int) + 1)] _ _
            refine zs_goto 38 rfl (by omega) ?_
            have he : mBf (mT g) a k s = (s.1 + 1, s.2) := (if_pos ⟨zif1 hc_54, pfl_t2 hc_65⟩).trans (by rw [if_neg (by omega)])
            refine ih (k + 1) (s.1 + 1, s.2) g_62 (by omega) hz_62 ⟨by show 0 ≤ s.1 + 1; omega, by show s.1 + 1 ≤ _; omega⟩ (fun s2 M e2 b2 hM => hq s2 M ?_ b2 hM)
            rw [e2]
            show _ = zfold (mBf (mT g) a) m (k + 1) (mBf (mT g) a k s)
            rw [he]
          · refine zs_bipush (n := 10) rfl ⟨by omega, by omega⟩ ?_
            refine zs_iload (i := 5) rfl rfl ?_
            refine zs_imul_r rfl ⟨by omega, by omega⟩ ?_
            refine zs_iload (i := 6) rfl rfl ?_
            refine zs_iadd_r rfl ⟨by omega, by omega⟩ ?_
            refine zs_istore (i := 4) rfl (by decide) (by intro r x hr; have hr2 : r = 3 := (by omega); subst hr2; intro z; cases z) ?_
            show ZVV _ _ _ _ [ZR 8 0, ZI w, ZI ((zfree (g 8 0 0) (g 8 0 2) (g 33 0) : Nat) : Int), ZI s.1, ZI ((10 * (a : Int)) + (k : Int)), ZI (a : Int), ZI (k : Int)] _ _
            refine zs_iinc_r (i := 3) rfl rfl (by intro r x hr; have hr2 : r = 2 := (by omega); subst hr2; intro z; cases z) ⟨by omega, by omega⟩ ?_
            show ZVV _ _ _ _ [ZR 8 0, ZI w, ZI ((zfree (g 8 0 0) (g 8 0 2) (g 33 0) : Nat) : Int), ZI (s.1 + 1), ZI ((10 * (a : Int)) + (k : Int)), ZI (a : Int), ZI (k : Int)] _ _
            show ZVV _ _ _ 88 _ _ _
            refine zs_iinc_r (i := 6) rfl rfl (by intro r x hr; have hr2 : r = 5 := (by omega); subst hr2; intro z; cases z) ⟨by omega, by omega⟩ ?_
            show ZVV _ _ _ _ [ZR 8 0, ZI w, ZI ((zfree (g 8 0 0) (g 8 0 2) (g 33 0) : Nat) : Int), ZI (s.1 + 1), ZI ((10 * (a : Int)) + (k : Int)), ZI (a : Int), ZI ((k : Int) + 1)] _ _
            refine zs_goto 38 rfl (by omega) ?_
            have he : mBf (mT g) a k s = (s.1 + 1, (10 * (a : Int)) + (k : Int)) := (if_pos ⟨zif1 hc_54, pfl_t2 hc_65⟩).trans (by rw [if_pos (by omega)])
            refine ih (k + 1) (s.1 + 1, (10 * (a : Int)) + (k : Int)) g_62 (by omega) hz_62 ⟨by show 0 ≤ s.1 + 1; omega, by show s.1 + 1 ≤ _; omega⟩ (fun s2 M e2 b2 hM => hq s2 M ?_ b2 hM)
            rw [e2]
            show _ = zfold (mBf (mT g) a) m (k + 1) (mBf (mT g) a k s)
            rw [he]
        · refine zs_goto 88 rfl (by omega) ?_
          refine zs_iinc_r (i := 6) rfl rfl (by intro r x hr; have hr2 : r = 5 := (by omega); subst hr2; intro z; cases z) ⟨by omega, by omega⟩ ?_
          show ZVV _ _ _ _ [ZR 8 0, ZI w, ZI ((zfree (g 8 0 0) (g 8 0 2) (g 33 0) : Nat) : Int), ZI s.1, ZI s.2, ZI (a : Int), ZI ((k : Int) + 1)] _ _
          refine zs_goto 38 rfl (by omega) ?_
          have he : mBf (mT g) a k s = s := if_neg (fun z => by first | exact zif0 hc_54 z.1 | exact hc_65 (by rw [z.2]; decide))
          refine ih (k + 1) s g_62 (by omega) hz_62 ⟨hb.1, by have := hb.2; omega⟩ (fun s2 M e2 b2 hM => hq s2 M ?_ b2 hM)
          rw [e2]
          show _ = zfold (mBf (mT g) a) m (k + 1) (mBf (mT g) a k s)
          rw [he]
theorem l_X8_before {Y : ZW} {Q : Option ZV → ZG → Prop} {g : ZG} {w : Int} (hm : MOK g) (hh : MHH g) (h3 : g 8 0 3 ≤ 9999) (hw : 0 ≤ w ∧ w ≤ 2) : ∀ (m a : Nat) (s : Int × Int) (z6 : ZV) (G : ZG), (∀ y, z6 ≠ ZJ y) → (a : Int) + m = g 8 0 2 → (0 ≤ s.1 ∧ s.1 ≤ 8 * a) → zA g G → (∀ M, zA g M → Q (some (ZI (if w = 0 then (zfold (fun p s => zfold (mBf (mT g) p) (g 8 0 0).toNat 0 s) m a s).1 else if (zfold (fun p s => zfold (mBf (mT g) p) (g 8 0 0).toNat 0 s) m a s).2 < 0 then -5 else if w = 1 then (zfold (fun p s => zfold (mBf (mT g) p) (g 8 0 0).toNat 0 s) m a s).2 / 10 else (zfold (fun p s => zfold (mBf (mT g) p) (g 8 0 0).toNat 0 s) m a s).2 % 10))) M) → ZVV Y mX8_before (zcx Y 13 Q) 26 [ZR 8 0, ZI w, ZI ((zfree (g 8 0 0) (g 8 0 2) (g 33 0) : Nat) : Int), ZI s.1, ZI s.2, ZI (a : Int), z6] [] G := by
  have hn8 := hm.1
  have hn6 := hm.2.2.1
  intro m
  induction m with
  | zero =>
    intro a s z6 G hz6 hk hs hz hq
    replace hq : ∀ M, zA g M → Q (some (ZI (if w = 0 then s.1 else if s.2 < 0 then -5 else if w = 1 then s.2 / 10 else s.2 % 10))) M := hq
    refine zs_iload (i := 5) rfl rfl ?_
    refine zs_aload_n (j := 0) (i := 0) rfl rfl rfl ?_
    refine zs_getfield (f := 8) (k := 2) rfl rfl (trivial) ?_
    show ZVV _ _ _ _ _ (ZI (G 8 0 2) :: _) _
    rw [show G 8 0 2 = g 8 0 2 from hz.2 0 2 (by decide)]
    refine zs_icmp_ge 100 rfl (by omega) (fun hc_32 => ?_) (fun hc_32 => ?_)
    · refine zs_iload_n (j := 1) (i := 1) rfl rfl rfl ?_
      refine zs_if_ne 108 rfl (by omega) (fun hc_101 => ?_) (fun hc_101 => ?_)
      · refine zs_iload (i := 4) rfl rfl ?_
        refine zs_if_ge 118 rfl (by omega) (fun hc_110 => ?_) (fun hc_110 => ?_)
        · refine zs_iload_n (j := 1) (i := 1) rfl rfl rfl ?_
          refine zs_iconst (n := 1) rfl ⟨by omega, by omega⟩ ?_
          refine zs_icmp_ne 131 rfl (by omega) (fun hc_120 => ?_) (fun hc_120 => ?_)
          · refine zs_iload (i := 4) rfl rfl ?_
            refine zs_bipush (n := 10) rfl ⟨by omega, by omega⟩ ?_
            refine zs_irem_p rfl (by omega) (by omega) ?_
            exact zs_ireturn rfl rfl (by
      have hx := hq G hz
      first
      | (rw [if_pos (by omega)] at hx; exact hx)
      | (rw [if_neg (by omega), if_pos (show s.2 < 0 by omega)] at hx; exact hx)
      | (rw [if_neg (by omega), if_neg (show ¬ s.2 < 0 by omega), if_pos (by omega)] at hx; exact hx)
      | (rw [if_neg (by omega), if_neg (show ¬ s.2 < 0 by omega), if_neg (by omega)] at hx; exact hx))
          · refine zs_iload (i := 4) rfl rfl ?_
            refine zs_bipush (n := 10) rfl ⟨by omega, by omega⟩ ?_
            refine zs_idiv_p rfl (by omega) (by omega) ?_
            refine zs_goto 136 rfl (by omega) ?_
            exact zs_ireturn rfl rfl (by
      have hx := hq G hz
      first
      | (rw [if_pos (by omega)] at hx; exact hx)
      | (rw [if_neg (by omega), if_pos (show s.2 < 0 by omega)] at hx; exact hx)
      | (rw [if_neg (by omega), if_neg (show ¬ s.2 < 0 by omega), if_pos (by omega)] at hx; exact hx)
      | (rw [if_neg (by omega), if_neg (show ¬ s.2 < 0 by omega), if_neg (by omega)] at hx; exact hx))
        · refine zs_bipush (n := (-5)) rfl ⟨by omega, by omega⟩ ?_
          refine zs_goto 136 rfl (by omega) ?_
          exact zs_ireturn rfl rfl (by
      have hx := hq G hz
      first
      | (rw [if_pos (by omega)] at hx; exact hx)
      | (rw [if_neg (by omega), if_pos (show s.2 < 0 by omega)] at hx; exact hx)
      | (rw [if_neg (by omega), if_neg (show ¬ s.2 < 0 by omega), if_pos (by omega)] at hx; exact hx)
      | (rw [if_neg (by omega), if_neg (show ¬ s.2 < 0 by omega), if_neg (by omega)] at hx; exact hx))
      · refine zs_iload_n (j := 3) (i := 3) rfl rfl rfl ?_
        refine zs_goto 136 rfl (by omega) ?_
        exact zs_ireturn rfl rfl (by
      have hx := hq G hz
      first
      | (rw [if_pos (by omega)] at hx; exact hx)
      | (rw [if_neg (by omega), if_pos (show s.2 < 0 by omega)] at hx; exact hx)
      | (rw [if_neg (by omega), if_neg (show ¬ s.2 < 0 by omega), if_pos (by omega)] at hx; exact hx)
      | (rw [if_neg (by omega), if_neg (show ¬ s.2 < 0 by omega), if_neg (by omega)] at hx; exact hx))
    · exfalso; omega
  | succ m ih =>
    intro a s z6 G hz6 hk hs hz hq
    refine zs_iload (i := 5) rfl rfl ?_
    refine zs_aload_n (j := 0) (i := 0) rfl rfl rfl ?_
    refine zs_getfield (f := 8) (k := 2) rfl rfl (trivial) ?_
    show ZVV _ _ _ _ _ (ZI (G 8 0 2) :: _) _
    rw [show G 8 0 2 = g 8 0 2 from hz.2 0 2 (by decide)]
    refine zs_icmp_ge 100 rfl (by omega) (fun hc_32 => ?_) (fun hc_32 => ?_)
    · exfalso; omega
    · refine zs_iconst (n := 0) rfl ⟨by omega, by omega⟩ ?_
      refine zs_istore (i := 6) rfl (by decide) (by intro r x hr; have hr2 : r = 5 := (by omega); subst hr2; intro z; cases z) ?_
      show ZVV _ _ _ _ [ZR 8 0, ZI w, ZI ((zfree (g 8 0 0) (g 8 0 2) (g 33 0) : Nat) : Int), ZI s.1, ZI s.2, ZI (a : Int), ZI 0] _ _
      refine l_X8_bef hm hh h3 (by omega) (g 8 0 0).toNat 0 s G (by omega) hz ⟨hs.1, by omega⟩ (fun s2 M e2 b2 hM => ?_)
      refine zs_iinc_r (i := 5) rfl rfl (by intro r x hr; have hr2 : r = 4 := (by omega); subst hr2; intro z; cases z) ⟨by omega, by omega⟩ ?_
      show ZVV _ _ _ _ [ZR 8 0, ZI w, ZI ((zfree (g 8 0 0) (g 8 0 2) (g 33 0) : Nat) : Int), ZI s2.1, ZI s2.2, ZI ((a : Int) + 1), ZI (g 8 0 0)] _ _
      refine zs_goto 26 rfl (by omega) ?_
      refine ih (a + 1) s2 _ M (by intro y h; cases h) (by omega) ⟨b2.1, by omega⟩ hM (fun N hN => ?_)
      have hx := hq N hN
      rw [show zfold (fun p s => zfold (mBf (mT g) p) (g 8 0 0).toNat 0 s) (m + 1) a s = zfold (fun p s => zfold (mBf (mT g) p) (g 8 0 0).toNat 0 s) m (a + 1) (zfold (mBf (mT g) a) (g 8 0 0).toNat 0 s) from rfl, ← e2] at hx
      exact hx
theorem c_X8_before (w : Int) : ZC mX8_before 13 (fun av g => av = [ZR 8 0, ZI w] ∧ MPI g) (fun _ g r g' => r = some (ZI (mBefore g w)) ∧ zA g g') := by
  refine zc_of gX8_before (fun av g hp => by obtain ⟨rfl, -⟩ := hp; exact Nat.le_of_ble_eq_true rfl) (fun Y av g hwf hrg hp hok => ?_)
  obtain ⟨rfl, hp⟩ := hp
  show ZVV _ _ _ 0 [ZR 8 0, ZI w, ZX 99, ZX 99, ZX 99, ZX 99, ZX 99] [] _
  obtain ⟨hm, hh, h3, h26⟩ := hp
  have hn8 := hm.1
  have hn6 := hm.2.2.1
  refine zs_aload_n (j := 0) (i := 0) rfl rfl rfl ?_
  refine zs_iload_n (j := 1) (i := 1) rfl rfl rfl ?_
  refine zs_iconst (n := 0) rfl ⟨by omega, by omega⟩ ?_
  refine zs_iconst (n := 2) rfl ⟨by omega, by omega⟩ ?_
  refine zs_callV (host := "") rfl kX8_170 vX8_in (c_X8_in w 0 2) [ZI w, ZI 0, ZI 2] [] rfl (zroom_of (by omega)) rfl (Nat.le_of_ble_eq_true rfl) (⟨rfl, trivial⟩) (fun r_4 g_4 hq_4 => ?_)
  obtain ⟨hr_4, hg_4⟩ := hq_4
  rw [hr_4, hg_4]
  show ZVV _ _ _ 7 _ [ZI (if 0 ≤ w ∧ w ≤ 2 then 1 else 0)] _
  refine zs_if_ne 12 rfl (by omega) (fun hc_7 => ?_) (fun hc_7 => ?_)
  · refine zs_aload_n (j := 0) (i := 0) rfl rfl rfl ?_
    refine zs_callV (host := "") rfl kX8_268 vX8_freeOnes (c_X8_freeOnes) [] [] rfl (zroom_of (by omega)) rfl (Nat.le_of_ble_eq_true rfl) ⟨rfl, hm.1, hm.2.2.1⟩ (fun r_13 g_13 hq_13 => ?_)
    obtain ⟨hr_13, hg_13⟩ := hq_13
    rw [hr_13, hg_13]
    show ZVV _ _ _ 16 _ [ZI ((zfree (g 8 0 0) (g 8 0 2) (g 33 0) : Nat) : Int)] g
    refine zs_istore_n (j := 2) (i := 2) rfl rfl (by decide) (by intro r x hr; have hr2 : r = 1 := (by omega); subst hr2; intro z; cases z) ?_
    show ZVV _ _ _ _ [ZR 8 0, ZI w, ZI ((zfree (g 8 0 0) (g 8 0 2) (g 33 0) : Nat) : Int), ZX 99, ZX 99, ZX 99, ZX 99] _ _
    refine zs_iconst (n := 0) rfl ⟨by omega, by omega⟩ ?_
    refine zs_istore_n (j := 3) (i := 3) rfl rfl (by decide) (by intro r x hr; have hr2 : r = 2 := (by omega); subst hr2; intro z; cases z) ?_
    show ZVV _ _ _ _ [ZR 8 0, ZI w, ZI ((zfree (g 8 0 0) (g 8 0 2) (g 33 0) : Nat) : Int), ZI 0, ZX 99, ZX 99, ZX 99] _ _
    refine zs_bipush (n := (-5)) rfl ⟨by omega, by omega⟩ ?_
    refine zs_istore (i := 4) rfl (by decide) (by intro r x hr; have hr2 : r = 3 := (by omega); subst hr2; intro z; cases z) ?_
    show ZVV _ _ _ _ [ZR 8 0, ZI w, ZI ((zfree (g 8 0 0) (g 8 0 2) (g 33 0) : Nat) : Int), ZI 0, ZI (-5), ZX 99, ZX 99] _ _
    show ZVV _ _ _ 23 _ _ _
    refine zs_iconst (n := 0) rfl ⟨by omega, by omega⟩ ?_
    refine zs_istore (i := 5) rfl (by decide) (by intro r x hr; have hr2 : r = 4 := (by omega); subst hr2; intro z; cases z) ?_
    show ZVV _ _ _ _ [ZR 8 0, ZI w, ZI ((zfree (g 8 0 0) (g 8 0 2) (g 33 0) : Nat) : Int), ZI 0, ZI (-5), ZI 0, ZX 99] _ _
    refine l_X8_before hm hh h3 (by omega) (g 8 0 2).toNat 0 (0, -5) _ g (by intro y h; cases h) (by omega) ⟨by decide, by decide⟩ (zA.rf g) (fun M hM => ⟨?_, hM⟩)
    unfold mBefore
    rw [if_neg (show ¬ (w < 0 ∨ 2 < w) by omega)]
    rfl
  · refine zs_iconst (n := (-1)) rfl ⟨by omega, by omega⟩ ?_
    exact zs_ireturn rfl rfl (⟨by unfold mBefore; rw [if_pos (by omega)], zA.rf g⟩)

