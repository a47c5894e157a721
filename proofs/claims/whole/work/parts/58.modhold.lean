def zWA (g G : ZG) : Prop := (∀ f, f ≠ 8 → f ≠ 43 → f ≠ 44 → f ≠ 45 → G f = g f) ∧ ∀ i k, ¬ (i = 0 ∧ (k = 26 ∨ k = 28 ∨ k = 30 ∨ k = 31)) → G 8 i k = g 8 i k
theorem zWA.rf (g : ZG) : zWA g g := ⟨fun _ _ _ _ _ => rfl, fun _ _ _ => rfl⟩
theorem zA.wa {g G : ZG} (h : zA g G) : zWA g G := ⟨h.1, fun i k hk => h.2 i k (by omega)⟩
theorem zWA.tr {a b c : ZG} (h : zWA a b) (k : zWA b c) : zWA a c := ⟨fun f h1 h2 h3 h4 => (k.1 f h1 h2 h3 h4).trans (h.1 f h1 h2 h3 h4), fun i j h1 => (k.2 i j h1).trans (h.2 i j h1)⟩
theorem zWA.up {g G : ZG} (h : zWA g G) (w : Int) : zWA g (zup G 8 0 26 w) := ⟨fun f h1 h2 h3 h4 => (zup_nf _ _ _ _ h1).trans (h.1 f h1 h2 h3 h4), fun i k hk => by unfold zup; rw [if_neg (fun z => hk ⟨z.2.2, Or.inl z.2.1⟩)]; exact h.2 i k hk⟩
theorem zWA.fin {g G : ZG} (h : zWA g G) (h26 : g 8 0 26 = -1) : zA g (zup G 8 0 26 (-1)) := ⟨(h.up (-1)).1, fun i k hk => by
  by_cases h1 : i = 0 ∧ k = 26
  · obtain ⟨rfl, rfl⟩ := h1; rw [zup_eq, h26]
  · exact (h.up (-1)).2 i k (by omega)⟩
theorem zWA.k {g G : ZG} (h : zWA g G) : zK g G := ⟨fun f hf => h.1 f (by omega) (by omega) (by omega) (by omega), fun k hk => h.2 0 k (by omega)⟩
theorem wdT {g G : ZG} (h : zWA g G) (w : Int) : mT (zup G 8 0 26 w) = tWF (mT g) w := by
  have h2 := h.up w
  rw [mT_k h2.k, h2.2 0 3 (by decide), h2.1 33 (by decide) (by decide) (by decide) (by decide), zup_eq]; rfl
theorem wdM {g G : ZG} (hm : MOK g) (h : zWA g G) {w : Int} (hw : 0 ≤ w ∧ w ≤ 100) : MOK (zup G 8 0 26 w) := by
  have h2 := h.up w
  exact hm.k h2.k (by rw [h2.2 0 3 (by decide)]; exact hm.2.2.2.1) (by rw [zup_eq]; omega) (fun p hp => by rw [h2.1 33 (by decide) (by decide) (by decide) (by decide)]; exact (hm.2.2.2.2.2.2 p hp).1)
theorem wdH {g G : ZG} (hh : MHH g) (h : zWA g G) (w : Int) : MHH (zup G 8 0 26 w) := by
  have h2 := h.up w
  unfold MHH
  rw [h2.2 0 2 (by decide), h2.1 33 (by decide) (by decide) (by decide) (by decide)]; exact hh
theorem l_X8_edge {Y : ZW} {Q : Option ZV → ZG → Prop} {g : ZG} (hm : MOK g) (hh : MHH g) (h26 : g 8 0 26 = -1) : ∀ (n : Nat) (G : ZG), n ≤ 101 → zWA g G → (∀ M, zA g M → Q (some (ZI (tEdge n (mT g)))) M) → ZVV Y mX8_edge (zcx Y 8 Q) 6 [ZR 8 0, ZI (-5), ZI ((n : Int) - 1)] [] G := by
  intro n
  induction n with
  | zero =>
    intro G hn hz hq
    refine zs_iload_n (j := 2) (i := 2) rfl rfl rfl ?_
    refine zs_if_lt 39 rfl (by omega) (fun hc_7 => ?_) (fun hc_7 => ?_)
    · refine zs_aload_n (j := 0) (i := 0) rfl rfl rfl ?_
      refine zs_iconst (n := (-1)) rfl ⟨by omega, by omega⟩ ?_
      refine zs_putfield (f := 8) (k := 26) (x := -1) rfl rfl (rfl) ?_
      refine zs_iload_n (j := 1) (i := 1) rfl rfl rfl ?_
      exact zs_ireturn rfl rfl (hq _ (hz.fin h26))
    · exfalso; omega
  | succ n ih =>
    intro G hn hz hq
    refine zs_iload_n (j := 2) (i := 2) rfl rfl rfl ?_
    refine zs_if_lt 39 rfl (by omega) (fun hc_7 => ?_) (fun hc_7 => ?_)
    · exfalso; omega
    · refine zs_iload_n (j := 1) (i := 1) rfl rfl rfl ?_
      refine zs_if_ge 39 rfl (by omega) (fun hc_11 => ?_) (fun hc_11 => ?_)
      · exfalso; omega
      · refine zs_aload_n (j := 0) (i := 0) rfl rfl rfl ?_
        refine zs_iload_n (j := 2) (i := 2) rfl rfl rfl ?_
        refine zs_putfield (f := 8) (k := 26) (x := ((n + 1 : Nat) : Int) - 1) rfl rfl (rfl) ?_
        refine zs_aload_n (j := 0) (i := 0) rfl rfl rfl ?_
        refine zs_callV (host := "") rfl kX8_328 vX8_areAll c_X8_areAll [] [] rfl (zroom_of (by omega)) rfl (Nat.le_of_ble_eq_true rfl) ⟨rfl, wdM hm hz (by omega), wdH hh hz _⟩ (fun r_20 g_20 hq_20 => ?_)
        obtain ⟨hr_20, hz1_20⟩ := hq_20
        rw [hr_20, wdT hz]
        have hz_20 : zWA g g_20 := (hz.up _).tr hz1_20.a.wa
        show ZVV _ _ _ 23 _ [ZI (if tAll (tWF (mT g) (((n + 1 : Nat) : Int) - 1)) = true then 1 else 0)] g_20
        refine zs_if_eq 30 rfl (by omega) (fun hc_23 => ?_) (fun hc_23 => ?_)
        · refine zs_bipush (n := (-5)) rfl ⟨by omega, by omega⟩ ?_
          refine zs_istore_n (j := 1) (i := 1) rfl rfl (by decide) (by intro r x hr; have hr2 : r = 0 := (by omega); subst hr2; intro z; cases z) ?_
          show ZVV _ _ _ _ [ZR 8 0, ZI (-5), ZI (((n + 1 : Nat) : Int) - 1)] _ _
          refine zs_iinc_r (i := 2) rfl rfl (by intro r x hr; have hr2 : r = 1 := (by omega); subst hr2; intro z; cases z) ⟨by omega, by omega⟩ ?_
          show ZVV _ _ _ _ [ZR 8 0, ZI (-5), ZI (((n + 1 : Nat) : Int) - 1 + (-1))] _ _
          refine zs_goto 6 rfl (by omega) ?_
          have ee : ((n + 1 : Nat) : Int) - 1 + (-1) = (n : Int) - 1 := by omega
          rw [ee]
          refine ih g_20 (by omega) hz_20 (fun M hM => ?_)
          have hx := hq M hM
          rw [show tEdge (n + 1) (mT g) = tEdge n (mT g) from if_neg (by have := zif0 hc_23; rwa [show ((n + 1 : Nat) : Int) - 1 = n by omega] at this)] at hx
          exact hx
        · refine zs_iload_n (j := 2) (i := 2) rfl rfl rfl ?_
          refine zs_goto 32 rfl (by omega) ?_
          refine zs_istore_n (j := 1) (i := 1) rfl rfl (by decide) (by intro r x hr; have hr2 : r = 0 := (by omega); subst hr2; intro z; cases z) ?_
          show ZVV _ _ _ _ [ZR 8 0, ZI (((n + 1 : Nat) : Int) - 1), ZI (((n + 1 : Nat) : Int) - 1)] _ _
          refine zs_iinc_r (i := 2) rfl rfl (by intro r x hr; have hr2 : r = 1 := (by omega); subst hr2; intro z; cases z) ⟨by omega, by omega⟩ ?_
          show ZVV _ _ _ _ [ZR 8 0, ZI (((n + 1 : Nat) : Int) - 1), ZI (((n + 1 : Nat) : Int) - 1 + (-1))] _ _
          refine zs_goto 6 rfl (by omega) ?_
          refine zs_iload_n (j := 2) (i := 2) rfl rfl rfl ?_
          refine zs_if_lt 39 rfl (by omega) (fun hc_7 => ?_) (fun hc_7 => ?_)
          · refine zs_aload_n (j := 0) (i := 0) rfl rfl rfl ?_
            refine zs_iconst (n := (-1)) rfl ⟨by omega, by omega⟩ ?_
            refine zs_putfield (f := 8) (k := 26) (x := -1) rfl rfl (rfl) ?_
            refine zs_iload_n (j := 1) (i := 1) rfl rfl rfl ?_
            exact zs_ireturn rfl rfl (by
                have hx := hq _ (hz_20.fin h26)
                rw [show tEdge (n + 1) (mT g) = (n : Int) from if_pos (by have := zif1 hc_23; rwa [show ((n + 1 : Nat) : Int) - 1 = n by omega] at this)] at hx
                rw [show ((n + 1 : Nat) : Int) - 1 = n by omega]
                exact hx)
          · refine zs_iload_n (j := 1) (i := 1) rfl rfl rfl ?_
            refine zs_if_ge 39 rfl (by omega) (fun hc_11 => ?_) (fun hc_11 => ?_)
            · refine zs_aload_n (j := 0) (i := 0) rfl rfl rfl ?_
              refine zs_iconst (n := (-1)) rfl ⟨by omega, by omega⟩ ?_
              refine zs_putfield (f := 8) (k := 26) (x := -1) rfl rfl (rfl) ?_
              refine zs_iload_n (j := 1) (i := 1) rfl rfl rfl ?_
              exact zs_ireturn rfl rfl (by
                have hx := hq _ (hz_20.fin h26)
                rw [show tEdge (n + 1) (mT g) = (n : Int) from if_pos (by have := zif1 hc_23; rwa [show ((n + 1 : Nat) : Int) - 1 = n by omega] at this)] at hx
                rw [show ((n + 1 : Nat) : Int) - 1 = n by omega]
                exact hx)
            · exfalso; omega
theorem c_X8_edge  : ZC mX8_edge 8 (fun av g => av = [ZR 8 0] ∧ MPI g) (fun _ g r g' => r = some (ZI (tEdge 101 (mT g))) ∧ zA g g') := by
  refine zc_of gX8_edge (fun av g hp => by obtain ⟨rfl, -⟩ := hp; exact Nat.le_of_ble_eq_true rfl) (fun Y av g hwf hrg hp hok => ?_)
  obtain ⟨rfl, hp⟩ := hp
  show ZVV _ _ _ 0 [ZR 8 0, ZX 99, ZX 99] [] _
  obtain ⟨hm, hh, h3, h26⟩ := hp
  have hn8 := hm.1
  have hn6 := hm.2.2.1
  refine zs_bipush (n := (-5)) rfl ⟨by omega, by omega⟩ ?_
  refine zs_istore_n (j := 1) (i := 1) rfl rfl (by decide) (by intro r x hr; have hr2 : r = 0 := (by omega); subst hr2; intro z; cases z) ?_
  show ZVV _ _ _ _ [ZR 8 0, ZI (-5), ZX 99] _ _
  refine zs_bipush (n := 100) rfl ⟨by omega, by omega⟩ ?_
  refine zs_istore_n (j := 2) (i := 2) rfl rfl (by decide) (by intro r x hr; have hr2 : r = 1 := (by omega); subst hr2; intro z; cases z) ?_
  show ZVV _ _ _ _ [ZR 8 0, ZI (-5), ZI 100] _ _
  exact l_X8_edge hm hh h26 101 g (Nat.le_refl _) (zWA.rf g) (fun M hM => ⟨rfl, hM⟩)

def mBeg (x : Int) (t : ZT) (m k : Nat) : Int := match m with
  | 0 => -5
  | m + 1 => if x < tlp (tRun 20 0 (tWF t (k : Int))).2 then (k : Int) else mBeg x t m (k + 1)
theorem l_X8_begins {Y : ZW} {Q : Option ZV → ZG → Prop} {g : ZG} (hm : MOK g) (hh : MHH g) (h3 : g 8 0 3 ≤ 9999) (h26 : g 8 0 26 = -1) : ∀ (m k : Nat) (z4 : ZV) (G : ZG), (∀ y, z4 ≠ ZJ y) → k + m = 101 → zWA g G → (∀ M, zA g M → Q (some (ZI (mBeg (tlp (mT g)) (mT g) m k))) M) → ZVV Y mX8_begins (zcx Y 12 Q) 11 [ZR 8 0, ZI (tlp (mT g)), ZI (-5), ZI (k : Int), z4] [] G := by
  intro m
  induction m with
  | zero =>
    intro k z4 G hz4 hk hz hq
    refine zs_iload_n (j := 3) (i := 3) rfl rfl rfl ?_
    refine zs_bipush (n := 101) rfl ⟨by omega, by omega⟩ ?_
    refine zs_icmp_ge 64 rfl (by omega) (fun hc_14 => ?_) (fun hc_14 => ?_)
    · refine zs_aload_n (j := 0) (i := 0) rfl rfl rfl ?_
      refine zs_iconst (n := (-1)) rfl ⟨by omega, by omega⟩ ?_
      refine zs_putfield (f := 8) (k := 26) (x := -1) rfl rfl (rfl) ?_
      refine zs_iload_n (j := 2) (i := 2) rfl rfl rfl ?_
      exact zs_ireturn rfl rfl (hq _ (hz.fin h26))
    · exfalso; omega
  | succ m ih =>
    intro k z4 G hz4 hk hz hq
    refine zs_iload_n (j := 3) (i := 3) rfl rfl rfl ?_
    refine zs_bipush (n := 101) rfl ⟨by omega, by omega⟩ ?_
    refine zs_icmp_ge 64 rfl (by omega) (fun hc_14 => ?_) (fun hc_14 => ?_)
    · exfalso; omega
    · refine zs_iload_n (j := 2) (i := 2) rfl rfl rfl ?_
      refine zs_if_ge 64 rfl (by omega) (fun hc_18 => ?_) (fun hc_18 => ?_)
      · exfalso; omega
      · refine zs_aload_n (j := 0) (i := 0) rfl rfl rfl ?_
        refine zs_iload_n (j := 3) (i := 3) rfl rfl rfl ?_
        refine zs_putfield (f := 8) (k := 26) (x := (k : Int)) rfl rfl (rfl) ?_
        refine zs_aload_n (j := 0) (i := 0) rfl rfl rfl ?_
        refine zs_callV (host := "") rfl kX8_313 vX8_keep c_X8_keep [] [] rfl (zroom_of (by omega)) rfl (Nat.le_of_ble_eq_true rfl) ⟨rfl, trivial⟩ (fun r_27 g_27 hq_27 => ?_)
        obtain ⟨hr_27, hg_27⟩ := hq_27
        rw [hr_27]
        have hB := hz.up (k : Int)
        have hM_B := wdM hm hz (w := (k : Int)) (by omega)
        have hH_B := wdH hh hz (k : Int)
        have h3_B : (zup G 8 0 26 (k : Int)) 8 0 3 = g 8 0 3 := hB.2 0 3 (by decide)
        have hLM_27 : zLM (zup G 8 0 26 (k : Int)) g_27 := by rw [hg_27]; exact zLM.start _
        have hM_27 : MOK g_27 := by rw [hg_27]; exact mkeep_ok hM_B
        have hH_27 : MHH g_27 := by rw [hg_27]; exact mkeep_hh hH_B
        have hT_27 : mT g_27 = tWF (mT g) (k : Int) := by rw [hg_27, mkeep_T]; exact wdT hz _
        have h3_27 : g_27 8 0 3 = g 8 0 3 := by rw [hg_27, ← h3_B]; exact mkeep_8 _ 0 3 (by decide)
        show ZVV _ _ _ 30 _ [] g_27
        refine zs_aload_n (j := 0) (i := 0) rfl rfl rfl ?_
        refine zs_bipush (n := 20) rfl ⟨by omega, by omega⟩ ?_
        show ZVV _ _ _ 33 _ _ _
        refine zs_callV (host := "") rfl kX8_316 vX8_goMoves (c_X8_goMoves 20) [ZI 20] [] rfl (zroom_of (by omega)) rfl (Nat.le_of_ble_eq_true rfl) ⟨rfl, hM_27, hH_27, by omega, by omega⟩ (fun r_33 g_33 hq_33 => ?_)
        obtain ⟨hr_33, hT_33, hGM_33, hM_33, hH_33, hs_33⟩ := hq_33
        rw [hr_33]
        rw [hT_27] at hT_33
        have hLM_33 := hLM_27.gm hGM_33
        show ZVV _ _ _ 36 _ [ZI (((tRun 20 0 (mT g_27)).1 : Nat) : Int)] g_33
        refine zs_istore (i := 4) rfl (by decide) (by intro r x hr; have hr2 : r = 3 := (by omega); subst hr2; intro z; cases z) ?_
        show ZVV _ _ _ _ [ZR 8 0, ZI (tlp (mT g)), ZI (-5), ZI (k : Int), ZI (((tRun 20 0 (mT g_27)).1 : Nat) : Int)] _ _
        refine zs_aload_n (j := 0) (i := 0) rfl rfl rfl ?_
        refine zs_iconst (n := 1) rfl ⟨by omega, by omega⟩ ?_
        refine zs_callV (host := "") rfl kX8_303 vX8_pairs c_X8_pairs1 [ZI 1] [] rfl (zroom_of (by omega)) rfl (Nat.le_of_ble_eq_true rfl) ⟨rfl, hM_33, hH_33⟩ (fun r_40 g_40 hq_40 => ?_)
        obtain ⟨hr_40, hg_40⟩ := hq_40
        rw [hr_40, hg_40, mPrs_like hH_33, hT_33]
        show ZVV _ _ _ 43 _ [ZI (tlp (tRun 20 0 (tWF (mT g) (k : Int))).2)] g_33
        refine zs_iload_n (j := 1) (i := 1) rfl rfl rfl ?_
        refine zs_icmp_le 51 rfl (by omega) (fun hc_44 => ?_) (fun hc_44 => ?_)
        · refine zs_bipush (n := (-5)) rfl ⟨by omega, by omega⟩ ?_
          refine zs_istore_n (j := 2) (i := 2) rfl rfl (by decide) (by intro r x hr; have hr2 : r = 1 := (by omega); subst hr2; intro z; cases z) ?_
          show ZVV _ _ _ _ [ZR 8 0, ZI (tlp (mT g)), ZI (-5), ZI (k : Int), ZI (((tRun 20 0 (mT g_27)).1 : Nat) : Int)] _ _
          refine zs_aload_n (j := 0) (i := 0) rfl rfl rfl ?_
          refine zs_callV (host := "") rfl kX8_319 vX8_putBack c_X8_putBack [] [] rfl (zroom_of (by omega)) rfl (Nat.le_of_ble_eq_true rfl) ⟨rfl, trivial⟩ (fun r_55 g_55 hq_55 => ?_)
          obtain ⟨hr_55, hg_55⟩ := hq_55
          rw [hr_55]
          have hz_55 : zWA g g_55 := hB.tr (by rw [hg_55]; exact hLM_33.back.wa)
          show ZVV _ _ _ 58 _ [] g_55
          refine zs_iinc_r (i := 3) rfl rfl (by intro r x hr; have hr2 : r = 2 := (by omega); subst hr2; intro z; cases z) ⟨by omega, by omega⟩ ?_
          show ZVV _ _ _ _ [ZR 8 0, ZI (tlp (mT g)), ZI (-5), ZI ((k : Int) + 1), ZI (((tRun 20 0 (mT g_27)).1 : Nat) : Int)] _ _
          refine zs_goto 11 rfl (by omega) ?_
          refine ih (k + 1) _ g_55 (by intro y h; cases h) (by omega) hz_55 (fun M hM => ?_)
          have hx := hq M hM
          rw [show mBeg (tlp (mT g)) (mT g) (m + 1) k = mBeg (tlp (mT g)) (mT g) m (k + 1) from if_neg (by omega)] at hx
          exact hx
        · refine zs_iload_n (j := 3) (i := 3) rfl rfl rfl ?_
          refine zs_goto 53 rfl (by omega) ?_
          refine zs_istore_n (j := 2) (i := 2) rfl rfl (by decide) (by intro r x hr; have hr2 : r = 1 := (by omega); subst hr2; intro z; cases z) ?_
          show ZVV _ _ _ _ [ZR 8 0, ZI (tlp (mT g)), ZI (k : Int), ZI (k : Int), ZI (((tRun 20 0 (mT g_27)).1 : Nat) : Int)] _ _
          refine zs_aload_n (j := 0) (i := 0) rfl rfl rfl ?_
          refine zs_callV (host := "") rfl kX8_319 vX8_putBack c_X8_putBack [] [] rfl (zroom_of (by omega)) rfl (Nat.le_of_ble_eq_true rfl) ⟨rfl, trivial⟩ (fun r_55 g_55 hq_55 => ?_)
          obtain ⟨hr_55, hg_55⟩ := hq_55
          rw [hr_55]
          have hz_55 : zWA g g_55 := hB.tr (by rw [hg_55]; exact hLM_33.back.wa)
          show ZVV _ _ _ 58 _ [] g_55
          refine zs_iinc_r (i := 3) rfl rfl (by intro r x hr; have hr2 : r = 2 := (by omega); subst hr2; intro z; cases z) ⟨by omega, by omega⟩ ?_
          show ZVV _ _ _ _ [ZR 8 0, ZI (tlp (mT g)), ZI (k : Int), ZI ((k : Int) + 1), ZI (((tRun 20 0 (mT g_27)).1 : Nat) : Int)] _ _
          refine zs_goto 11 rfl (by omega) ?_
          refine zs_iload_n (j := 3) (i := 3) rfl rfl rfl ?_
          refine zs_bipush (n := 101) rfl ⟨by omega, by omega⟩ ?_
          refine zs_icmp_ge 64 rfl (by omega) (fun hc_14 => ?_) (fun hc_14 => ?_)
          · refine zs_aload_n (j := 0) (i := 0) rfl rfl rfl ?_
            refine zs_iconst (n := (-1)) rfl ⟨by omega, by omega⟩ ?_
            refine zs_putfield (f := 8) (k := 26) (x := -1) rfl rfl (rfl) ?_
            refine zs_iload_n (j := 2) (i := 2) rfl rfl rfl ?_
            exact zs_ireturn rfl rfl (by
                have hx := hq _ (hz_55.fin h26)
                rw [show mBeg (tlp (mT g)) (mT g) (m + 1) k = (k : Int) from if_pos (by omega)] at hx
                exact hx)
          · refine zs_iload_n (j := 2) (i := 2) rfl rfl rfl ?_
            refine zs_if_ge 64 rfl (by omega) (fun hc_18 => ?_) (fun hc_18 => ?_)
            · refine zs_aload_n (j := 0) (i := 0) rfl rfl rfl ?_
              refine zs_iconst (n := (-1)) rfl ⟨by omega, by omega⟩ ?_
              refine zs_putfield (f := 8) (k := 26) (x := -1) rfl rfl (rfl) ?_
              refine zs_iload_n (j := 2) (i := 2) rfl rfl rfl ?_
              exact zs_ireturn rfl rfl (by
                have hx := hq _ (hz_55.fin h26)
                rw [show mBeg (tlp (mT g)) (mT g) (m + 1) k = (k : Int) from if_pos (by omega)] at hx
                exact hx)
            · exfalso; omega
theorem c_X8_begins  : ZC mX8_begins 12 (fun av g => av = [ZR 8 0] ∧ MPI g) (fun _ g r g' => r = some (ZI (mBeg (tlp (mT g)) (mT g) 101 0)) ∧ zA g g') := by
  refine zc_of gX8_begins (fun av g hp => by obtain ⟨rfl, -⟩ := hp; exact Nat.le_of_ble_eq_true rfl) (fun Y av g hwf hrg hp hok => ?_)
  obtain ⟨rfl, hp⟩ := hp
  show ZVV _ _ _ 0 [ZR 8 0, ZX 99, ZX 99, ZX 99, ZX 99] [] _
  obtain ⟨hm, hh, h3, h26⟩ := hp
  have hn8 := hm.1
  have hn6 := hm.2.2.1
  refine zs_aload_n (j := 0) (i := 0) rfl rfl rfl ?_
  refine zs_iconst (n := 1) rfl ⟨by omega, by omega⟩ ?_
  refine zs_callV (host := "") rfl kX8_303 vX8_pairs c_X8_pairs1 [ZI 1] [] rfl (zroom_of (by omega)) rfl (Nat.le_of_ble_eq_true rfl) ⟨rfl, hm, hh⟩ (fun r_2 g_2 hq_2 => ?_)
  obtain ⟨hr_2, hg_2⟩ := hq_2
  rw [hr_2, hg_2, mPrs_like hh]
  show ZVV _ _ _ 5 _ [ZI (tlp (mT g))] g
  refine zs_istore_n (j := 1) (i := 1) rfl rfl (by decide) (by intro r x hr; have hr2 : r = 0 := (by omega); subst hr2; intro z; cases z) ?_
  show ZVV _ _ _ _ [ZR 8 0, ZI (tlp (mT g)), ZX 99, ZX 99, ZX 99] _ _
  refine zs_bipush (n := (-5)) rfl ⟨by omega, by omega⟩ ?_
  refine zs_istore_n (j := 2) (i := 2) rfl rfl (by decide) (by intro r x hr; have hr2 : r = 1 := (by omega); subst hr2; intro z; cases z) ?_
  show ZVV _ _ _ _ [ZR 8 0, ZI (tlp (mT g)), ZI (-5), ZX 99, ZX 99] _ _
  refine zs_iconst (n := 0) rfl ⟨by omega, by omega⟩ ?_
  show ZVV _ _ _ 10 _ _ _
  refine zs_istore_n (j := 3) (i := 3) rfl rfl (by decide) (by intro r x hr; have hr2 : r = 2 := (by omega); subst hr2; intro z; cases z) ?_
  show ZVV _ _ _ _ [ZR 8 0, ZI (tlp (mT g)), ZI (-5), ZI 0, ZX 99] _ _
  exact l_X8_begins hm hh h3 h26 101 0 _ g (by intro y h; cases h) rfl (zWA.rf g) (fun M hM => ⟨rfl, hM⟩)

def mHeld (t : ZT) (p sm m k : Nat) : Bool := match m with
  | 0 => false
  | m + 1 => if k ≠ p ∧ sm.testBit k = true ∧ tSu t k (tho t k) = false then true else mHeld t p sm m (k + 1)
theorem mHeld_s (t : ZT) (p sm m k : Nat) : mHeld t p sm (m + 1) k = if k ≠ p ∧ sm.testBit k = true ∧ tSu t k (tho t k) = false then true else mHeld t p sm m (k + 1) := rfl
theorem l_X8_isHeldBy {Y : ZW} {Q : Option ZV → ZG → Prop} {g : ZG} {p : Int} {sm : Nat} (hsm : sm < 2147483648) (hm : MOK g) (hp0 : 0 ≤ p) (hh : ∀ q : Nat, (q : Int) < g 8 0 2 → q ≠ p.toNat → 0 ≤ g 33 0 q) : ∀ (m k : Nat) (G : ZG), (k : Int) + m = g 8 0 2 → zP g G → (∀ M, zP g M → Q (some (ZI (if mHeld (mT g) p.toNat sm m k = true then 1 else 0))) M) → ZVV Y mX8_isHeldBy (zcx Y 7 Q) 2 [ZR 8 0, ZI p, ZI (sm : Int), ZI (k : Int)] [] G := by
  have hn8 := hm.1
  have hn6 := hm.2.2.1
  intro m
  induction m with
  | zero =>
    intro k G hk hz hq
    have e8_G : G 8 = g 8 := hz 8 (by decide)
    have e30_G : G 30 = g 30 := hz 30 (by decide)
    have e31_G : G 31 = g 31 := hz 31 (by decide)
    have e32_G : G 32 = g 32 := hz 32 (by decide)
    have e33_G : G 33 = g 33 := hz 33 (by decide)
    have e35_G : G 35 = g 35 := hz 35 (by decide)
    have e36_G : G 36 = g 36 := hz 36 (by decide)
    have e37_G : G 37 = g 37 := hz 37 (by decide)
    have e38_G : G 38 = g 38 := hz 38 (by decide)
    have e39_G : G 39 = g 39 := hz 39 (by decide)
    have e40_G : G 40 = g 40 := hz 40 (by decide)
    have e44_G : G 44 = g 44 := hz 44 (by decide)
    refine zs_iload_n (j := 3) (i := 3) rfl rfl rfl ?_
    refine zs_aload_n (j := 0) (i := 0) rfl rfl rfl ?_
    refine zs_getfield (f := 8) (k := 2) rfl rfl (trivial) ?_
    show ZVV _ _ _ _ _ (ZI (G 8 0 2) :: _) _
    rw [e8_G]
    refine zs_icmp_ge 40 rfl (by omega) (fun hc_7 => ?_) (fun hc_7 => ?_)
    · refine zs_iconst (n := 0) rfl ⟨by omega, by omega⟩ ?_
      exact zs_zreturn rfl rfl (by omega) (hq G hz)
    · exfalso; omega
  | succ m ih =>
    intro k G hk hz hq
    have e8_G : G 8 = g 8 := hz 8 (by decide)
    have e30_G : G 30 = g 30 := hz 30 (by decide)
    have e31_G : G 31 = g 31 := hz 31 (by decide)
    have e32_G : G 32 = g 32 := hz 32 (by decide)
    have e33_G : G 33 = g 33 := hz 33 (by decide)
    have e35_G : G 35 = g 35 := hz 35 (by decide)
    have e36_G : G 36 = g 36 := hz 36 (by decide)
    have e37_G : G 37 = g 37 := hz 37 (by decide)
    have e38_G : G 38 = g 38 := hz 38 (by decide)
    have e39_G : G 39 = g 39 := hz 39 (by decide)
    have e40_G : G 40 = g 40 := hz 40 (by decide)
    have e44_G : G 44 = g 44 := hz 44 (by decide)
    refine zs_iload_n (j := 3) (i := 3) rfl rfl rfl ?_
    refine zs_aload_n (j := 0) (i := 0) rfl rfl rfl ?_
    refine zs_getfield (f := 8) (k := 2) rfl rfl (trivial) ?_
    show ZVV _ _ _ _ _ (ZI (G 8 0 2) :: _) _
    rw [e8_G]
    refine zs_icmp_ge 40 rfl (by omega) (fun hc_7 => ?_) (fun hc_7 => ?_)
    · exfalso; omega
    · refine zs_iload_n (j := 3) (i := 3) rfl rfl rfl ?_
      refine zs_iload_n (j := 1) (i := 1) rfl rfl rfl ?_
      refine zs_icmp_eq 34 rfl (by omega) (fun hc_12 => ?_) (fun hc_12 => ?_)
      · refine zs_iinc_r (i := 3) rfl rfl (by intro r x hr; have hr2 : r = 2 := (by omega); subst hr2; intro z; cases z) ⟨by omega, by omega⟩ ?_
        show ZVV _ _ _ _ [ZR 8 0, ZI p, ZI (sm : Int), ZI ((k : Int) + 1)] _ _
        refine zs_goto 2 rfl (by omega) ?_
        refine ih (k + 1) G (by omega) hz (fun M hM => ?_)
        have hx := hq M hM
        rw [show mHeld (mT g) p.toNat sm (m + 1) k = mHeld (mT g) p.toNat sm m (k + 1) from if_neg (fun z => by first | exact z.1 (by omega) | exact zif0 hc_21 z.2.1 | (have z2 := z.2.2; rw [show tSu (mT g) k (tho (mT g) k) = true from pfl_t2 hc_29] at z2; cases z2))] at hx
        exact hx
      · refine zs_aload_n (j := 0) (i := 0) rfl rfl rfl ?_
        refine zs_iload_n (j := 2) (i := 2) rfl rfl rfl ?_
        refine zs_iload_n (j := 3) (i := 3) rfl rfl rfl ?_
        refine zs_callV (host := "") rfl kX8_271 vX8_has (c_X8_has sm (k : Int)) [ZI (sm : Int), ZI (k : Int)] [] rfl (zroom_of (by omega)) rfl (Nat.le_of_ble_eq_true rfl) (⟨rfl, hsm, by omega, by omega⟩) (fun r_18 g_18 hq_18 => ?_)
        obtain ⟨hr_18, hg_18⟩ := hq_18
        rw [hr_18, hg_18]
        show ZVV _ _ _ 21 _ [ZI (if Nat.testBit sm k = true then 1 else 0)] _
        refine zs_if_eq 34 rfl (by omega) (fun hc_21 => ?_) (fun hc_21 => ?_)
        · refine zs_iinc_r (i := 3) rfl rfl (by intro r x hr; have hr2 : r = 2 := (by omega); subst hr2; intro z; cases z) ⟨by omega, by omega⟩ ?_
          show ZVV _ _ _ _ [ZR 8 0, ZI p, ZI (sm : Int), ZI ((k : Int) + 1)] _ _
          refine zs_goto 2 rfl (by omega) ?_
          refine ih (k + 1) G (by omega) hz (fun M hM => ?_)
          have hx := hq M hM
          rw [show mHeld (mT g) p.toNat sm (m + 1) k = mHeld (mT g) p.toNat sm m (k + 1) from if_neg (fun z => by first | exact z.1 (by omega) | exact zif0 hc_21 z.2.1 | (have z2 := z.2.2; rw [show tSu (mT g) k (tho (mT g) k) = true from pfl_t2 hc_29] at z2; cases z2))] at hx
          exact hx
        · refine zs_aload_n (j := 0) (i := 0) rfl rfl rfl ?_
          refine zs_iload_n (j := 3) (i := 3) rfl rfl rfl ?_
          refine zs_callV (host := "") rfl kX8_265 vX8_isContent (c_X8_isContent (k : Int)) [ZI (k : Int)] [] rfl (zroom_of (by omega)) rfl (Nat.le_of_ble_eq_true rfl) ⟨rfl, hm.z hz, ⟨by omega, by rw [hz 8 (by decide)]; omega⟩, by rw [hz 33 (by decide)]; exact hh k (by omega) (fun z => hc_12 (by omega))⟩ (fun r_26 g_26 hq_26 => ?_)
          obtain ⟨hr_26, hz1_26⟩ := hq_26
          rw [hr_26, mT_z hz, hz 33 (by decide)]
          have hz_26 := (show zP g G from hz).tr hz1_26
          have e8_26 : g_26 8 = g 8 := hz_26 8 (by decide)
          have e30_26 : g_26 30 = g 30 := hz_26 30 (by decide)
          have e31_26 : g_26 31 = g 31 := hz_26 31 (by decide)
          have e32_26 : g_26 32 = g 32 := hz_26 32 (by decide)
          have e33_26 : g_26 33 = g 33 := hz_26 33 (by decide)
          have e35_26 : g_26 35 = g 35 := hz_26 35 (by decide)
          have e36_26 : g_26 36 = g 36 := hz_26 36 (by decide)
          have e37_26 : g_26 37 = g 37 := hz_26 37 (by decide)
          have e38_26 : g_26 38 = g 38 := hz_26 38 (by decide)
          have e39_26 : g_26 39 = g 39 := hz_26 39 (by decide)
          have e40_26 : g_26 40 = g 40 := hz_26 40 (by decide)
          have e44_26 : g_26 44 = g 44 := hz_26 44 (by decide)
          show ZVV _ _ _ 29 _ [ZI (if tSu (mT g) k (g 33 0 k) = true then 1 else 0)] g_26
          refine zs_if_ne 34 rfl (by omega) (fun hc_29 => ?_) (fun hc_29 => ?_)
          · refine zs_iinc_r (i := 3) rfl rfl (by intro r x hr; have hr2 : r = 2 := (by omega); subst hr2; intro z; cases z) ⟨by omega, by omega⟩ ?_
            show ZVV _ _ _ _ [ZR 8 0, ZI p, ZI (sm : Int), ZI ((k : Int) + 1)] _ _
            refine zs_goto 2 rfl (by omega) ?_
            refine ih (k + 1) g_26 (by omega) hz_26 (fun M hM => ?_)
            have hx := hq M hM
            rw [show mHeld (mT g) p.toNat sm (m + 1) k = mHeld (mT g) p.toNat sm m (k + 1) from if_neg (fun z => by first | exact z.1 (by omega) | exact zif0 hc_21 z.2.1 | (have z2 := z.2.2; rw [show tSu (mT g) k (tho (mT g) k) = true from pfl_t2 hc_29] at z2; cases z2))] at hx
            exact hx
          · refine zs_iconst (n := 1) rfl ⟨by omega, by omega⟩ ?_
            exact zs_zreturn rfl rfl (by omega) (by have hx := hq g_26 hz_26; rw [show mHeld (mT g) p.toNat sm (m + 1) k = true from if_pos ⟨fun z => hc_12 (by omega), zif1 hc_21, pfl_f hc_29⟩] at hx; exact hx)
theorem c_X8_isHeldBy (p : Int) (sm : Nat) : ZC mX8_isHeldBy 7 (fun av g => av = [ZR 8 0, ZI p, ZI (sm : Int)] ∧ sm < 2147483648 ∧ MOK g ∧ 0 ≤ p ∧ (∀ q : Nat, (q : Int) < g 8 0 2 → q ≠ p.toNat → 0 ≤ g 33 0 q)) (fun _ g r g' => r = some (ZI (if mHeld (mT g) p.toNat sm (g 8 0 2).toNat 0 = true then 1 else 0)) ∧ zP g g') := by
  refine zc_of gX8_isHeldBy (fun av g hp => by obtain ⟨rfl, -⟩ := hp; exact Nat.le_of_ble_eq_true rfl) (fun Y av g hwf hrg hp hok => ?_)
  obtain ⟨rfl, hp⟩ := hp
  show ZVV _ _ _ 0 [ZR 8 0, ZI p, ZI (sm : Int), ZX 99] [] _
  have hn6 := hp.2.1.2.2.1
  refine zs_iconst (n := 0) rfl ⟨by omega, by omega⟩ ?_
  refine zs_istore_n (j := 3) (i := 3) rfl rfl (by decide) (by intro r x hr; have hr2 : r = 2 := (by omega); subst hr2; intro z; cases z) ?_
  show ZVV _ _ _ _ [ZR 8 0, ZI p, ZI (sm : Int), ZI 0] _ _
  exact l_X8_isHeldBy hp.1 hp.2.1 hp.2.2.1 hp.2.2.2 (g 8 0 2).toNat 0 g (by omega) (zP.rf g) (fun M hM => ⟨rfl, hM⟩)

theorem tput_T {g G : ZG} (h : zP g G) (p : Nat) (v : Int) : mT (zup G 33 0 p v) = tput (mT g) p v := by
  rw [mT_q (h.q3.up p v)]
  unfold tput tSetH
  have e : (zup G 33 0 p v) 33 0 = fun c => if c = p then v else g 33 0 c := by
    funext c
    unfold zup
    rw [h 33 (by decide)]
    by_cases hc : c = p
    · rw [if_pos ⟨rfl, hc, rfl⟩, if_pos hc]
    · rw [if_neg (fun z => hc z.2.1), if_neg hc]
  rw [e]
  rfl
theorem tput_ok {g G : ZG} (hm : MOK g) (h : zP g G) (p : Nat) {v : Int} (hv : -1 ≤ v ∧ v < g 8 0 0) : MOK (zup G 33 0 p v) := hm.q (h.q3.up p v) (fun c hc => by
  unfold zup
  rw [h 33 (by decide)]
  split
  · exact hv
  · exact (hm.2.2.2.2.2.2 c hc).1)
theorem tput_back {g G M : ZG} (h : zP g G) {p : Nat} {v : Int} (k : zP (zup G 33 0 p v) M) : zP g (zup M 33 0 p (g 33 0 p)) := by
  intro f hf
  by_cases h3 : f = 33
  · subst h3
    funext i c
    unfold zup
    by_cases hc : c = p ∧ i = 0
    · obtain ⟨rfl, rfl⟩ := hc
      rw [if_pos ⟨rfl, rfl, rfl⟩]
    · rw [if_neg (fun z => hc z.2), k 33 (by decide)]
      unfold zup
      rw [if_neg (fun z => hc z.2), h 33 (by decide)]
  · rw [zup_nf _ _ _ _ h3, k f hf, zup_nf _ _ _ _ h3, h f hf]
theorem l_X8_holds {Y : ZW} {Q : Option ZV → ZG → Prop} {g : ZG} (hm : MOK g) (hh : MHH g) : ∀ (m k : Nat) (z4 : ZV) (G : ZG), (∀ y, z4 ≠ ZJ y) → (k : Int) + m = g 8 0 2 → zP g G → (∀ M, zP g M → Q (some (ZI ((zmk (fun p => mHeld (tput (mT g) p (-1)) p (tHap (mT g)) (g 8 0 2).toNat 0) (g 8 0 2).toNat : Nat) : Int))) M) → ZVV Y mX8_holds (zcx Y 8 Q) 9 [ZR 8 0, ZI ((tHap (mT g) : Nat) : Int), ZI ((zmk (fun p => mHeld (tput (mT g) p (-1)) p (tHap (mT g)) (g 8 0 2).toNat 0) k : Nat) : Int), ZI (k : Int), z4] [] G := by
  have hn8 := hm.1
  have hn6 := hm.2.2.1
  intro m
  induction m with
  | zero =>
    intro k z4 G hz4 hk hz hq
    have e8_G : G 8 = g 8 := hz 8 (by decide)
    have e30_G : G 30 = g 30 := hz 30 (by decide)
    have e31_G : G 31 = g 31 := hz 31 (by decide)
    have e32_G : G 32 = g 32 := hz 32 (by decide)
    have e33_G : G 33 = g 33 := hz 33 (by decide)
    have e35_G : G 35 = g 35 := hz 35 (by decide)
    have e36_G : G 36 = g 36 := hz 36 (by decide)
    have e37_G : G 37 = g 37 := hz 37 (by decide)
    have e38_G : G 38 = g 38 := hz 38 (by decide)
    have e39_G : G 39 = g 39 := hz 39 (by decide)
    have e40_G : G 40 = g 40 := hz 40 (by decide)
    have e44_G : G 44 = g 44 := hz 44 (by decide)
    refine zs_iload_n (j := 3) (i := 3) rfl rfl rfl ?_
    refine zs_aload_n (j := 0) (i := 0) rfl rfl rfl ?_
    refine zs_getfield (f := 8) (k := 2) rfl rfl (trivial) ?_
    show ZVV _ _ _ _ _ (ZI (G 8 0 2) :: _) _
    rw [e8_G]
    refine zs_icmp_ge 65 rfl (by omega) (fun hc_14 => ?_) (fun hc_14 => ?_)
    · refine zs_iload_n (j := 2) (i := 2) rfl rfl rfl ?_
      exact zs_ireturn rfl rfl (by have hx := hq G hz; rw [show zmk (fun p => mHeld (tput (mT g) p (-1)) p (tHap (mT g)) (g 8 0 2).toNat 0) (g 8 0 2).toNat = zmk (fun p => mHeld (tput (mT g) p (-1)) p (tHap (mT g)) (g 8 0 2).toNat 0) k from by rw [show (g 8 0 2).toNat = k by omega]] at hx; exact hx)
    · exfalso; omega
  | succ m ih =>
    intro k z4 G hz4 hk hz hq
    have e8_G : G 8 = g 8 := hz 8 (by decide)
    have e30_G : G 30 = g 30 := hz 30 (by decide)
    have e31_G : G 31 = g 31 := hz 31 (by decide)
    have e32_G : G 32 = g 32 := hz 32 (by decide)
    have e33_G : G 33 = g 33 := hz 33 (by decide)
    have e35_G : G 35 = g 35 := hz 35 (by decide)
    have e36_G : G 36 = g 36 := hz 36 (by decide)
    have e37_G : G 37 = g 37 := hz 37 (by decide)
    have e38_G : G 38 = g 38 := hz 38 (by decide)
    have e39_G : G 39 = g 39 := hz 39 (by decide)
    have e40_G : G 40 = g 40 := hz 40 (by decide)
    have e44_G : G 44 = g 44 := hz 44 (by decide)
    refine zs_iload_n (j := 3) (i := 3) rfl rfl rfl ?_
    refine zs_aload_n (j := 0) (i := 0) rfl rfl rfl ?_
    refine zs_getfield (f := 8) (k := 2) rfl rfl (trivial) ?_
    show ZVV _ _ _ _ _ (ZI (G 8 0 2) :: _) _
    rw [e8_G]
    refine zs_icmp_ge 65 rfl (by omega) (fun hc_14 => ?_) (fun hc_14 => ?_)
    · exfalso; omega
    · refine zs_aload_n (j := 0) (i := 0) rfl rfl rfl ?_
      refine zs_getfield (f := 8) (k := 7) rfl rfl (trivial) ?_
      show ZVV _ _ _ _ _ (ZR 33 0 :: _) _
      refine zs_iload_n (j := 3) (i := 3) rfl rfl rfl ?_
      refine zs_iald (n := 6) rfl rfl (by omega) (by omega) ?_
      show ZVV _ _ _ _ _ (ZI (G 33 0 k) :: _) _
      rw [e33_G]
      refine zs_istore (i := 4) rfl (by decide) (by intro r x hr; have hr2 : r = 3 := (by omega); subst hr2; intro z; cases z) ?_
      show ZVV _ _ _ _ [ZR 8 0, ZI ((tHap (mT g) : Nat) : Int), ZI ((zmk (fun p => mHeld (tput (mT g) p (-1)) p (tHap (mT g)) (g 8 0 2).toNat 0) k : Nat) : Int), ZI (k : Int), ZI (g 33 0 k)] _ _
      refine zs_aload_n (j := 0) (i := 0) rfl rfl rfl ?_
      refine zs_getfield (f := 8) (k := 7) rfl rfl (trivial) ?_
      show ZVV _ _ _ _ _ (ZR 33 0 :: _) _
      show ZVV _ _ _ 29 _ _ _
      refine zs_iload_n (j := 3) (i := 3) rfl rfl rfl ?_
      refine zs_iconst (n := (-1)) rfl ⟨by omega, by omega⟩ ?_
      refine zs_iast (n := 6) rfl rfl (by omega) (by omega) ?_
      show ZVV _ _ _ _ _ _ (zup G 33 0 k (-1))
      refine zs_iload_n (j := 2) (i := 2) rfl rfl rfl ?_
      refine zs_aload_n (j := 0) (i := 0) rfl rfl rfl ?_
      refine zs_iload_n (j := 3) (i := 3) rfl rfl rfl ?_
      refine zs_iload_n (j := 1) (i := 1) rfl rfl rfl ?_
      refine zs_callV (host := "") rfl kX8_340 vX8_isHeldBy (c_X8_isHeldBy (k : Int) (tHap (mT g))) [ZI (k : Int), ZI (((tHap (mT g)) : Nat) : Int)] [ZI ((zmk (fun p => mHeld (tput (mT g) p (-1)) p (tHap (mT g)) (g 8 0 2).toNat 0) k : Nat) : Int)] rfl (zroom_of (by omega)) rfl (Nat.le_of_ble_eq_true rfl) ⟨rfl, zmk_lt31 _ (by show (g 8 0 2).toNat ≤ 31; omega), tput_ok hm hz k ⟨by omega, by omega⟩, by omega, fun q hq hne => ?_⟩ (fun r_36 g_36 hq_36 => ?_)
      · rw [zup_nf _ _ _ _ (by decide), hz 8 (by decide)] at hq
        have hne : q ≠ k := hne
        rw [zup_nk _ _ _ _ _ _ hne, hz 33 (by decide)]
        exact hh q hq
      obtain ⟨hr_36, hz1_36⟩ := hq_36
      rw [hr_36, tput_T hz, show (zup G 33 0 k (-1)) 8 0 2 = g 8 0 2 from by rw [zup_nf _ _ _ _ (by decide), hz 8 (by decide)]]
      have e8_36 : g_36 8 = g 8 := by rw [hz1_36 8 (by decide), zup_nf _ _ _ _ (by decide), hz 8 (by decide)]
      have hz_36 := tput_back hz hz1_36
      show ZVV _ _ _ 39 _ [ZI (if mHeld (tput (mT g) k (-1)) k (tHap (mT g)) (g 8 0 2).toNat 0 = true then 1 else 0), ZI ((zmk (fun p => mHeld (tput (mT g) p (-1)) p (tHap (mT g)) (g 8 0 2).toNat 0) k : Nat) : Int)] g_36
      show ZVV _ _ _ 39 _ _ _
      refine zs_if_eq 48 rfl (by omega) (fun hc_39 => ?_) (fun hc_39 => ?_)
      · refine zs_iconst (n := 0) rfl ⟨by omega, by omega⟩ ?_
        refine zs_ior rfl ?_
        refine zs_istore_n (j := 2) (i := 2) rfl rfl (by decide) (by intro r x hr; have hr2 : r = 1 := (by omega); subst hr2; intro z; cases z) ?_
        show ZVV _ _ _ _ [ZR 8 0, ZI ((tHap (mT g) : Nat) : Int), ZI (zor ((zmk (fun p => mHeld (tput (mT g) p (-1)) p (tHap (mT g)) (g 8 0 2).toNat 0) k : Nat) : Int) 0), ZI (k : Int), ZI (g 33 0 k)] _ _
        refine zs_aload_n (j := 0) (i := 0) rfl rfl rfl ?_
        refine zs_getfield (f := 8) (k := 7) rfl rfl (trivial) ?_
        show ZVV _ _ _ _ _ (ZR 33 0 :: _) _
        refine zs_iload_n (j := 3) (i := 3) rfl rfl rfl ?_
        refine zs_iload (i := 4) rfl rfl ?_
        show ZVV _ _ _ 58 _ _ _
        refine zs_iast (n := 6) rfl rfl (by omega) (by omega) ?_
        show ZVV _ _ _ _ _ _ (zup g_36 33 0 k (g 33 0 k))
        refine zs_iinc_r (i := 3) rfl rfl (by intro r x hr; have hr2 : r = 2 := (by omega); subst hr2; intro z; cases z) ⟨by omega, by omega⟩ ?_
        show ZVV _ _ _ _ [ZR 8 0, ZI ((tHap (mT g) : Nat) : Int), ZI (zor ((zmk (fun p => mHeld (tput (mT g) p (-1)) p (tHap (mT g)) (g 8 0 2).toNat 0) k : Nat) : Int) 0), ZI ((k : Int) + 1), ZI (g 33 0 k)] _ _
        refine zs_goto 9 rfl (by omega) ?_
        have hb : (fun p => mHeld (tput (mT g) p (-1)) p (tHap (mT g)) (g 8 0 2).toNat 0) k = false := Bool.eq_false_iff.mpr (zif0 hc_39)
        rw [zor_0 (zmk_lt31 _ (by omega)), ← zmk_add0 (P := fun p => mHeld (tput (mT g) p (-1)) p (tHap (mT g)) (g 8 0 2).toNat 0) (n := k) hb]
        exact ih (k + 1) _ _ (by intro y h; cases h) (by omega) hz_36 hq
      · refine zs_iconst (n := 1) rfl ⟨by omega, by omega⟩ ?_
        refine zs_iload_n (j := 3) (i := 3) rfl rfl rfl ?_
        refine zs_ishl rfl ?_
        refine zs_goto 49 rfl (by omega) ?_
        refine zs_ior rfl ?_
        refine zs_istore_n (j := 2) (i := 2) rfl rfl (by decide) (by intro r x hr; have hr2 : r = 1 := (by omega); subst hr2; intro z; cases z) ?_
        show ZVV _ _ _ _ [ZR 8 0, ZI ((tHap (mT g) : Nat) : Int), ZI (zor ((zmk (fun p => mHeld (tput (mT g) p (-1)) p (tHap (mT g)) (g 8 0 2).toNat 0) k : Nat) : Int) (zshl 1 (k : Int))), ZI (k : Int), ZI (g 33 0 k)] _ _
        refine zs_aload_n (j := 0) (i := 0) rfl rfl rfl ?_
        show ZVV _ _ _ 52 _ _ _
        refine zs_getfield (f := 8) (k := 7) rfl rfl (trivial) ?_
        show ZVV _ _ _ _ _ (ZR 33 0 :: _) _
        refine zs_iload_n (j := 3) (i := 3) rfl rfl rfl ?_
        refine zs_iload (i := 4) rfl rfl ?_
        refine zs_iast (n := 6) rfl rfl (by omega) (by omega) ?_
        show ZVV _ _ _ _ _ _ (zup g_36 33 0 k (g 33 0 k))
        refine zs_iinc_r (i := 3) rfl rfl (by intro r x hr; have hr2 : r = 2 := (by omega); subst hr2; intro z; cases z) ⟨by omega, by omega⟩ ?_
        show ZVV _ _ _ _ [ZR 8 0, ZI ((tHap (mT g) : Nat) : Int), ZI (zor ((zmk (fun p => mHeld (tput (mT g) p (-1)) p (tHap (mT g)) (g 8 0 2).toNat 0) k : Nat) : Int) (zshl 1 (k : Int))), ZI ((k : Int) + 1), ZI (g 33 0 k)] _ _
        refine zs_goto 9 rfl (by omega) ?_
        have hb : (fun p => mHeld (tput (mT g) p (-1)) p (tHap (mT g)) (g 8 0 2).toNat 0) k = true := zif1 hc_39
        rw [zmk_add (P := fun p => mHeld (tput (mT g) p (-1)) p (tHap (mT g)) (g 8 0 2).toNat 0) (n := k) (by omega) hb]
        exact ih (k + 1) _ _ (by intro y h; cases h) (by omega) hz_36 hq
def mHolds (t : ZT) : Nat := zmk (fun p => mHeld (tput t p (-1)) p (tHap t) (tnp t).toNat 0) (tnp t).toNat
theorem c_X8_holds  : ZC mX8_holds 8 (fun av g => av = [ZR 8 0] ∧ MPI g) (fun _ g r g' => r = some (ZI ((mHolds (mT g) : Nat) : Int)) ∧ zA g g') := by
  refine zc_of gX8_holds (fun av g hp => by obtain ⟨rfl, -⟩ := hp; exact Nat.le_of_ble_eq_true rfl) (fun Y av g hwf hrg hp hok => ?_)
  obtain ⟨rfl, hp⟩ := hp
  show ZVV _ _ _ 0 [ZR 8 0, ZX 99, ZX 99, ZX 99, ZX 99] [] _
  obtain ⟨hm, hh, h3, h26⟩ := hp
  have hn8 := hm.1
  have hn6 := hm.2.2.1
  refine zs_aload_n (j := 0) (i := 0) rfl rfl rfl ?_
  refine zs_callV (host := "") rfl kX8_307 vX8_happy (c_X8_happy) [] [] rfl (zroom_of (by omega)) rfl (Nat.le_of_ble_eq_true rfl) ⟨rfl, hm, hh⟩ (fun r_1 g_1 hq_1 => ?_)
  obtain ⟨hr_1, hz1_1⟩ := hq_1
  rw [hr_1]
  have hz_1 := (show zP g g from (zP.rf g)).tr hz1_1
  have e8_1 : g_1 8 = g 8 := hz_1 8 (by decide)
  have e30_1 : g_1 30 = g 30 := hz_1 30 (by decide)
  have e31_1 : g_1 31 = g 31 := hz_1 31 (by decide)
  have e32_1 : g_1 32 = g 32 := hz_1 32 (by decide)
  have e33_1 : g_1 33 = g 33 := hz_1 33 (by decide)
  have e35_1 : g_1 35 = g 35 := hz_1 35 (by decide)
  have e36_1 : g_1 36 = g 36 := hz_1 36 (by decide)
  have e37_1 : g_1 37 = g 37 := hz_1 37 (by decide)
  have e38_1 : g_1 38 = g 38 := hz_1 38 (by decide)
  have e39_1 : g_1 39 = g 39 := hz_1 39 (by decide)
  have e40_1 : g_1 40 = g 40 := hz_1 40 (by decide)
  have e44_1 : g_1 44 = g 44 := hz_1 44 (by decide)
  show ZVV _ _ _ 4 _ [ZI ((tHap (mT g) : Nat) : Int)] g_1
  refine zs_istore_n (j := 1) (i := 1) rfl rfl (by decide) (by intro r x hr; have hr2 : r = 0 := (by omega); subst hr2; intro z; cases z) ?_
  show ZVV _ _ _ _ [ZR 8 0, ZI ((tHap (mT g) : Nat) : Int), ZX 99, ZX 99, ZX 99] _ _
  refine zs_iconst (n := 0) rfl ⟨by omega, by omega⟩ ?_
  refine zs_istore_n (j := 2) (i := 2) rfl rfl (by decide) (by intro r x hr; have hr2 : r = 1 := (by omega); subst hr2; intro z; cases z) ?_
  show ZVV _ _ _ _ [ZR 8 0, ZI ((tHap (mT g) : Nat) : Int), ZI 0, ZX 99, ZX 99] _ _
  refine zs_iconst (n := 0) rfl ⟨by omega, by omega⟩ ?_
  refine zs_istore_n (j := 3) (i := 3) rfl rfl (by decide) (by intro r x hr; have hr2 : r = 2 := (by omega); subst hr2; intro z; cases z) ?_
  show ZVV _ _ _ _ [ZR 8 0, ZI ((tHap (mT g) : Nat) : Int), ZI 0, ZI 0, ZX 99] _ _
  exact l_X8_holds hm hh (g 8 0 2).toNat 0 _ g_1 (by intro y h; cases h) (by omega) hz_1 (fun M hM => ⟨rfl, hM.a⟩)

