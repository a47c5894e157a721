def zA (g G : ZG) : Prop := (∀ f, f ≠ 8 → f ≠ 43 → f ≠ 44 → f ≠ 45 → G f = g f) ∧ ∀ i k, ¬ (i = 0 ∧ (k = 28 ∨ k = 30 ∨ k = 31)) → G 8 i k = g 8 i k
theorem zA.rf (g : ZG) : zA g g := ⟨fun _ _ _ _ _ => rfl, fun _ _ _ => rfl⟩
theorem zA.tr {a b c : ZG} (h : zA a b) (k : zA b c) : zA a c := ⟨fun f h1 h2 h3 h4 => (k.1 f h1 h2 h3 h4).trans (h.1 f h1 h2 h3 h4), fun i j h1 => (k.2 i j h1).trans (h.2 i j h1)⟩
theorem zP.a {g G : ZG} (h : zP g G) : zA g G := ⟨fun f _ h2 _ _ => h f h2, fun i k _ => by rw [h 8 (by decide)]⟩
def zGM (g G : ZG) : Prop := (∀ f, f ≠ 8 → f ≠ 33 → f ≠ 43 → G f = g f) ∧ (∀ i k, ¬ (i = 0 ∧ k = 3) → G 8 i k = g 8 i k) ∧ ∀ i k, ¬ (i = 0 ∧ k < 6) → G 33 i k = g 33 i k
theorem zGM.rf (g : ZG) : zGM g g := ⟨fun _ _ _ _ => rfl, fun _ _ _ => rfl, fun _ _ _ => rfl⟩
theorem zGM.tr {a b c : ZG} (h : zGM a b) (k : zGM b c) : zGM a c := ⟨fun f h1 h2 h3 => (k.1 f h1 h2 h3).trans (h.1 f h1 h2 h3), fun i j h1 => (k.2.1 i j h1).trans (h.2.1 i j h1), fun i j h1 => (k.2.2 i j h1).trans (h.2.2 i j h1)⟩
theorem zP.gm {g G : ZG} (h : zP g G) : zGM g G := ⟨fun f _ _ h2 => h f h2, fun i k _ => by rw [h 8 (by decide)], fun i k _ => by rw [h 33 (by decide)]⟩
theorem zGM.k {g G : ZG} (h : zGM g G) : zK g G := ⟨fun f hf => h.1 f (by omega) (by omega) (by omega), fun k hk => h.2.1 0 k (by omega)⟩
theorem goM {g G : ZG} (hm : MOK g) (hz : zQ3 g G) (hi : ∀ i k, ¬ (i = 0 ∧ k < 6) → G 33 i k = g 33 i k) (hR : ∀ p : Nat, (p : Int) < g 8 0 2 → 0 ≤ G 33 0 p ∧ G 33 0 p < g 8 0 0) (h3 : g 8 0 3 < 100000) : zGM g (zup G 8 0 3 (g 8 0 3 + 1)) ∧ MOK (zup G 8 0 3 (g 8 0 3 + 1)) ∧ MHH (zup G 8 0 3 (g 8 0 3 + 1)) ∧ (zup G 8 0 3 (g 8 0 3 + 1)) 8 0 3 = g 8 0 3 + 1 ∧ mT (zup G 8 0 3 (g 8 0 3 + 1)) = ((g 8 0 0, g 8 0 1, g 8 0 2, g 8 0 3 + 1), (g 30 0, g 31 0, g 32 0, G 33 0), (mT g).2.2) := by
  have e33 : (zup G 8 0 3 (g 8 0 3 + 1)) 33 = G 33 := zup_nf _ _ _ _ (by decide)
  have e3 : (zup G 8 0 3 (g 8 0 3 + 1)) 8 0 3 = g 8 0 3 + 1 := zup_eq _ _ _ _ _
  have ek : ∀ i k, ¬ (i = 0 ∧ k = 3) → (zup G 8 0 3 (g 8 0 3 + 1)) 8 i k = g 8 i k := fun i k h => by
    unfold zup; rw [if_neg (fun z => h ⟨z.2.2, z.2.1⟩), hz 8 (by decide) (by decide)]
  have hGM : zGM g (zup G 8 0 3 (g 8 0 3 + 1)) := ⟨fun f a b c => (zup_nf _ _ _ _ a).trans (hz f c b), ek, fun i k h => by rw [e33]; exact hi i k h⟩
  have hK := hGM.k
  have h38 := hm.2.2.2.1
  have e2 : (zup G 8 0 3 (g 8 0 3 + 1)) 8 0 2 = g 8 0 2 := hK.2 2 (by decide)
  refine ⟨hGM, hm.k hK (by rw [e3]; omega) (by rw [ek 0 26 (by decide)]; exact hm.2.2.2.2.1) (fun p hp => by rw [e33]; have := hR p hp; omega), fun p hp => by rw [e2] at hp; rw [e33]; exact (hR p hp).1, e3, ?_⟩
  rw [mT_k hK, e33, e3, ek 0 26 (by decide)]
  rfl
theorem goM1 {g G : ZG} (hm : MOK g) (hh : MHH g) (hz : zP g G) {k : Nat} {H : Int} (hk : (k : Int) < g 8 0 2) (hH : 0 ≤ H ∧ H < g 8 0 0) (h3 : g 8 0 3 < 100000) (hw : zwho (g 8 0 2) (g 33 0) H = -1) : zGM g (zup (zup G 33 0 k H) 8 0 3 (g 8 0 3 + 1)) ∧ MOK (zup (zup G 33 0 k H) 8 0 3 (g 8 0 3 + 1)) ∧ MHH (zup (zup G 33 0 k H) 8 0 3 (g 8 0 3 + 1)) ∧ (zup (zup G 33 0 k H) 8 0 3 (g 8 0 3 + 1)) 8 0 3 = g 8 0 3 + 1 ∧ mT (zup (zup G 33 0 k H) 8 0 3 (g 8 0 3 + 1)) = tMove (mT g) k H := by
  have hn6 := hm.2.2.1
  have e : (zup G 33 0 k H) 33 0 = fun c => if c = k then H else g 33 0 c := by
    funext c
    unfold zup
    rw [hz 33 (by decide)]
    by_cases hc : c = k
    · rw [if_pos ⟨rfl, hc, rfl⟩, if_pos hc]
    · rw [if_neg (fun z => hc z.2.1), if_neg hc]
  have hg := goM (G := zup G 33 0 k H) hm (hz.q3.up k H) (fun i c h => by unfold zup; rw [if_neg (fun z => h ⟨z.2.2, by omega⟩), hz 33 (by decide)]) (fun p hp => by
    rw [e]
    have := hh p hp
    have := (hm.2.2.2.2.2.2 p hp).1
    dsimp only
    split <;> omega) h3
  refine ⟨hg.1, hg.2.1, hg.2.2.1, hg.2.2.2.1, hg.2.2.2.2.trans ?_⟩
  unfold tMove
  rw [if_pos (show zwho (tnp (mT g)) (tho (mT g)) H = -1 from hw), e]
  rfl
theorem goM2 {g G : ZG} (hm : MOK g) (hh : MHH g) (hz : zP g G) {k : Nat} {H : Int} (hk : (k : Int) < g 8 0 2) (hH : 0 ≤ H ∧ H < g 8 0 0) (h3 : g 8 0 3 < 100000) (hw : 0 ≤ zwho (g 8 0 2) (g 33 0) H) : zGM g (zup (zup (zup G 33 0 (zwho (g 8 0 2) (g 33 0) H).toNat (g 33 0 k)) 33 0 k H) 8 0 3 (g 8 0 3 + 1)) ∧ MOK (zup (zup (zup G 33 0 (zwho (g 8 0 2) (g 33 0) H).toNat (g 33 0 k)) 33 0 k H) 8 0 3 (g 8 0 3 + 1)) ∧ MHH (zup (zup (zup G 33 0 (zwho (g 8 0 2) (g 33 0) H).toNat (g 33 0 k)) 33 0 k H) 8 0 3 (g 8 0 3 + 1)) ∧ (zup (zup (zup G 33 0 (zwho (g 8 0 2) (g 33 0) H).toNat (g 33 0 k)) 33 0 k H) 8 0 3 (g 8 0 3 + 1)) 8 0 3 = g 8 0 3 + 1 ∧ mT (zup (zup (zup G 33 0 (zwho (g 8 0 2) (g 33 0) H).toNat (g 33 0 k)) 33 0 k H) 8 0 3 (g 8 0 3 + 1)) = tMove (mT g) k H := by
  have hn6 := hm.2.2.1
  have hr := zfst_rng (fun p => decide (g 33 0 p = H)) (g 8 0 2).toNat 0
  have hwd : zwho (g 8 0 2) (g 33 0) H = zfst (fun p => decide (g 33 0 p = H)) (g 8 0 2).toNat 0 := rfl
  rw [← hwd] at hr
  have ho := hr.resolve_left (by omega)
  have hoH : g 33 0 (zwho (g 8 0 2) (g 33 0) H).toNat = H := of_decide_eq_true ho.2.2
  generalize hO : (zwho (g 8 0 2) (g 33 0) H).toNat = O at *
  have hO6 : (O : Int) < g 8 0 2 := by omega
  have e : (zup (zup G 33 0 O (g 33 0 k)) 33 0 k H) 33 0 = fun c => if c = O then g 33 0 k else if c = k then g 33 0 O else g 33 0 c := by
    funext c
    unfold zup
    rw [hz 33 (by decide)]
    by_cases hc : c = k
    · rw [if_pos ⟨rfl, hc, rfl⟩]
      by_cases hc2 : c = O
      · rw [if_pos hc2, ← hoH, ← hc2, hc]
      · rw [if_neg hc2, if_pos hc, hoH]
    · rw [if_neg (fun z => hc z.2.1)]
      by_cases hc2 : c = O
      · rw [if_pos ⟨rfl, hc2, rfl⟩, if_pos hc2]
      · rw [if_neg (fun z => hc2 z.2.1), if_neg hc2, if_neg hc]
  have hg := goM (G := zup (zup G 33 0 O (g 33 0 k)) 33 0 k H) hm ((hz.q3.up O _).up k H) (fun i c h => by unfold zup; rw [if_neg (fun z => h ⟨z.2.2, by omega⟩), if_neg (fun z => h ⟨z.2.2, by omega⟩), hz 33 (by decide)]) (fun p hp => by
    rw [e]
    have h1 := hh p hp
    have h2 := (hm.2.2.2.2.2.2 p hp).1
    have h3 := hh k hk
    have h4 := (hm.2.2.2.2.2.2 k hk).1
    have h5 := hh O hO6
    have h6 := (hm.2.2.2.2.2.2 O hO6).1
    dsimp only
    split
    · omega
    · split <;> omega) h3
  refine ⟨hg.1, hg.2.1, hg.2.2.1, hg.2.2.2.1, hg.2.2.2.2.trans ?_⟩
  unfold tMove
  rw [if_neg (show ¬ zwho (tnp (mT g)) (tho (mT g)) H = -1 from fun z => by have z : zwho (g 8 0 2) (g 33 0) H = -1 := z; omega), e]
  show _ = (_, (_, _, _, fun c => if c = (zwho (g 8 0 2) (g 33 0) H).toNat then g 33 0 k else if c = k then g 33 0 (zwho (g 8 0 2) (g 33 0) H).toNat else g 33 0 c), _)
  rw [hO]
  rfl
set_option maxHeartbeats 4000000 in
theorem l_X8_goMove {Y : ZW} {Q : Option ZV → ZG → Prop} {g : ZG} (hm : MOK g) (hh : MHH g) (h3 : g 8 0 3 < 100000) : ∀ (m k : Nat) (z2 z3 : ZV) (G : ZG), (∀ y, z2 ≠ ZJ y) → (∀ y, z3 ≠ ZJ y) → (k : Int) + m = g 8 0 2 → zP g G → (∀ M, zGM g M → MOK M → MHH M → M 8 0 3 ≤ g 8 0 3 + 1 → mT M = (tStepF (mT g) m k).2 → Q (some (ZI (tStepF (mT g) m k).1)) M) → ZVV Y mX8_goMove (zcx Y 10 Q) 2 [ZR 8 0, ZI (k : Int), z2, z3] [] G := by
  have hn8 := hm.1
  have hn6 := hm.2.2.1
  have hg0 := hm.2.2.2.1
  intro m
  induction m with
  | zero =>
    intro k z2 z3 G hz2 hz3 hk hz hq
    have e8_G : G 8 = g 8 := hz 8 (by decide)
    have e30_G : G 30 = g 30 := hz 30 (by decide)
    have e31_G : G 31 = g 31 := hz 31 (by decide)
    have e32_G : G 32 = g 32 := hz 32 (by decide)
    have e33_G : G 33 = g 33 := hz 33 (by decide)
    have e35_G : G 35 = g 35 := hz 35 (by decide)
    have e36_G : G 36 = g 36 := hz 36 (by decide)
    have e37_G : G 37 = g 37 := hz 37 (by decide)
    have e38_G : G 38 = g 38 := hz 38 (by decide)
    have e39_G : G 39 = g 39 := hz 39 (by decide)
    have e40_G : G 40 = g 40 := hz 40 (by decide)
    have e44_G : G 44 = g 44 := hz 44 (by decide)
    refine zs_iload_n (j := 1) (i := 1) rfl rfl rfl ?_
    refine zs_aload_n (j := 0) (i := 0) rfl rfl rfl ?_
    refine zs_getfield (f := 8) (k := 2) rfl rfl (trivial) ?_
    show ZVV _ _ _ _ _ (ZI (G 8 0 2) :: _) _
    rw [e8_G]
    refine zs_icmp_ge 88 rfl (by omega) (fun hc_7 => ?_) (fun hc_7 => ?_)
    · refine zs_bipush (n := (-5)) rfl ⟨by omega, by omega⟩ ?_
      exact zs_ireturn rfl rfl (hq G hz.gm (hm.z hz) (hh.z hz) (by rw [hz 8 (by decide)]; omega) (mT_z hz))
    · exfalso; omega
  | succ m ih =>
    intro k z2 z3 G hz2 hz3 hk hz hq
    have hpk := hm.2.2.2.2.2.2 k (by omega)
    have hhk := hh k (by omega)
    have hGr := tGoes_rng (t := mT g) (p := k) hn8.1 hhk hpk.2.2.2.1 (fun q hq => ⟨hh q hq, (hm.2.2.2.2.2.2 q hq).1.2⟩)
    rw [show tn (mT g) = g 8 0 0 from rfl] at hGr
    have e8_G : G 8 = g 8 := hz 8 (by decide)
    have e30_G : G 30 = g 30 := hz 30 (by decide)
    have e31_G : G 31 = g 31 := hz 31 (by decide)
    have e32_G : G 32 = g 32 := hz 32 (by decide)
    have e33_G : G 33 = g 33 := hz 33 (by decide)
    have e35_G : G 35 = g 35 := hz 35 (by decide)
    have e36_G : G 36 = g 36 := hz 36 (by decide)
    have e37_G : G 37 = g 37 := hz 37 (by decide)
    have e38_G : G 38 = g 38 := hz 38 (by decide)
    have e39_G : G 39 = g 39 := hz 39 (by decide)
    have e40_G : G 40 = g 40 := hz 40 (by decide)
    have e44_G : G 44 = g 44 := hz 44 (by decide)
    refine zs_iload_n (j := 1) (i := 1) rfl rfl rfl ?_
    refine zs_aload_n (j := 0) (i := 0) rfl rfl rfl ?_
    refine zs_getfield (f := 8) (k := 2) rfl rfl (trivial) ?_
    show ZVV _ _ _ _ _ (ZI (G 8 0 2) :: _) _
    rw [e8_G]
    refine zs_icmp_ge 88 rfl (by omega) (fun hc_7 => ?_) (fun hc_7 => ?_)
    · exfalso; omega
    · refine zs_aload_n (j := 0) (i := 0) rfl rfl rfl ?_
      refine zs_iload_n (j := 1) (i := 1) rfl rfl rfl ?_
      refine zs_callV (host := "") rfl kX8_265 vX8_isContent (c_X8_isContent (k : Int)) [ZI (k : Int)] [] rfl (zroom_of (by omega)) rfl (Nat.le_of_ble_eq_true rfl) ⟨rfl, hm.z hz, ⟨by omega, by rw [hz 8 (by decide)]; omega⟩, by rw [hz 33 (by decide)]; exact hh k (by omega)⟩ (fun r_12 g_12 hq_12 => ?_)
      obtain ⟨hr_12, hz1_12⟩ := hq_12
      rw [hr_12, mT_z hz, hz 33 (by decide)]
      have hz_12 := (show zP g G from hz).tr hz1_12
      have e8_12 : g_12 8 = g 8 := hz_12 8 (by decide)
      have e30_12 : g_12 30 = g 30 := hz_12 30 (by decide)
      have e31_12 : g_12 31 = g 31 := hz_12 31 (by decide)
      have e32_12 : g_12 32 = g 32 := hz_12 32 (by decide)
      have e33_12 : g_12 33 = g 33 := hz_12 33 (by decide)
      have e35_12 : g_12 35 = g 35 := hz_12 35 (by decide)
      have e36_12 : g_12 36 = g 36 := hz_12 36 (by decide)
      have e37_12 : g_12 37 = g 37 := hz_12 37 (by decide)
      have e38_12 : g_12 38 = g 38 := hz_12 38 (by decide)
      have e39_12 : g_12 39 = g 39 := hz_12 39 (by decide)
      have e40_12 : g_12 40 = g 40 := hz_12 40 (by decide)
      have e44_12 : g_12 44 = g 44 := hz_12 44 (by decide)
      show ZVV _ _ _ 15 _ [ZI (if tSu (mT g) k (g 33 0 k) = true then 1 else 0)] g_12
      refine zs_if_eq 23 rfl (by omega) (fun hc_15 => ?_) (fun hc_15 => ?_)
      · refine zs_aload_n (j := 0) (i := 0) rfl rfl rfl ?_
        refine zs_iload_n (j := 1) (i := 1) rfl rfl rfl ?_
        refine zs_callV (host := "") rfl kX8_300 vX8_goesTo (c_X8_goesTo (k : Int)) [ZI (k : Int)] [] rfl (zroom_of (by omega)) rfl (Nat.le_of_ble_eq_true rfl) ⟨rfl, hm.z hz_12, hh.z hz_12, ⟨by omega, by rw [hz_12 8 (by decide)]; omega⟩⟩ (fun r_25 g_25 hq_25 => ?_)
        obtain ⟨hr_25, hz1_25⟩ := hq_25
        rw [hr_25, show tGoes (mT g_12) (k : Int).toNat = tGoes (mT g) k from by rw [mT_z hz_12]; rfl]
        have hz_25 := (show zP g g_12 from hz_12).tr hz1_25
        have e8_25 : g_25 8 = g 8 := hz_25 8 (by decide)
        have e30_25 : g_25 30 = g 30 := hz_25 30 (by decide)
        have e31_25 : g_25 31 = g 31 := hz_25 31 (by decide)
        have e32_25 : g_25 32 = g 32 := hz_25 32 (by decide)
        have e33_25 : g_25 33 = g 33 := hz_25 33 (by decide)
        have e35_25 : g_25 35 = g 35 := hz_25 35 (by decide)
        have e36_25 : g_25 36 = g 36 := hz_25 36 (by decide)
        have e37_25 : g_25 37 = g 37 := hz_25 37 (by decide)
        have e38_25 : g_25 38 = g 38 := hz_25 38 (by decide)
        have e39_25 : g_25 39 = g 39 := hz_25 39 (by decide)
        have e40_25 : g_25 40 = g 40 := hz_25 40 (by decide)
        have e44_25 : g_25 44 = g 44 := hz_25 44 (by decide)
        show ZVV _ _ _ 28 _ [ZI (tGoes (mT g) k)] g_25
        refine zs_istore_n (j := 2) (i := 2) rfl rfl (by decide) (by intro r x hr; have hr2 : r = 1 := (by omega); subst hr2; intro z; cases z) ?_
        show ZVV _ _ _ _ [ZR 8 0, ZI (k : Int), ZI (tGoes (mT g) k), z3] _ _
        refine zs_iload_n (j := 2) (i := 2) rfl rfl rfl ?_
        refine zs_if_ge 36 rfl (by omega) (fun hc_30 => ?_) (fun hc_30 => ?_)
        · refine zs_aload_n (j := 0) (i := 0) rfl rfl rfl ?_
          refine zs_iload_n (j := 2) (i := 2) rfl rfl rfl ?_
          refine zs_callV (host := "") rfl kX8_182 vX8_whoIn (c_X8_whoIn (tGoes (mT g) k)) [ZI (tGoes (mT g) k)] [] rfl (zroom_of (by omega)) rfl (Nat.le_of_ble_eq_true rfl) ⟨rfl, by rw [hz_25 8 (by decide)]; omega⟩ (fun r_38 g_38 hq_38 => ?_)
          obtain ⟨hr_38, hg_38⟩ := hq_38
          rw [hr_38, hg_38, hz_25 8 (by decide), hz_25 33 (by decide)]
          show ZVV _ _ _ 41 _ [ZI (zwho (g 8 0 2) (g 33 0) (tGoes (mT g) k))] g_25
          refine zs_istore_n (j := 3) (i := 3) rfl rfl (by decide) (by intro r x hr; have hr2 : r = 2 := (by omega); subst hr2; intro z; cases z) ?_
          show ZVV _ _ _ _ [ZR 8 0, ZI (k : Int), ZI (tGoes (mT g) k), ZI (zwho (g 8 0 2) (g 33 0) (tGoes (mT g) k))] _ _
          have hw := zfst_rng (fun q => decide (g 33 0 q = tGoes (mT g) k)) (g 8 0 2).toNat 0
          have hw2 : zwho (g 8 0 2) (g 33 0) (tGoes (mT g) k) = -1 ∨ (0 ≤ zwho (g 8 0 2) (g 33 0) (tGoes (mT g) k) ∧ zwho (g 8 0 2) (g 33 0) (tGoes (mT g) k) < g 8 0 2) := by unfold zwho; omega
          refine zs_iload_n (j := 3) (i := 3) rfl rfl rfl ?_
          refine zs_if_lt 58 rfl (by omega) (fun hc_43 => ?_) (fun hc_43 => ?_)
          · refine zs_aload_n (j := 0) (i := 0) rfl rfl rfl ?_
            refine zs_getfield (f := 8) (k := 7) rfl rfl (trivial) ?_
            show ZVV _ _ _ _ _ (ZR 33 0 :: _) _
            refine zs_iload_n (j := 1) (i := 1) rfl rfl rfl ?_
            refine zs_iload_n (j := 2) (i := 2) rfl rfl rfl ?_
            refine zs_iast (n := 6) rfl rfl (by omega) (by omega) ?_
            show ZVV _ _ _ _ _ _ (zup g_25 33 0 k (tGoes (mT g) k))
            refine zs_aload_n (j := 0) (i := 0) rfl rfl rfl ?_
            refine zs_dup rfl (by intro x z; cases z) ?_
            show ZVV _ _ _ 67 _ _ _
            refine zs_getfield (f := 8) (k := 3) rfl rfl (trivial) ?_
            show ZVV _ _ _ _ _ (ZI (g_25 8 0 3) :: _) _
            rw [e8_25]
            refine zs_iconst (n := 1) rfl ⟨by omega, by omega⟩ ?_
            refine zs_iadd_r rfl ⟨by omega, by omega⟩ ?_
            refine zs_putfield (f := 8) (k := 3) (x := (g 8 0 3) + 1) rfl rfl (rfl) ?_
            refine zs_bipush (n := 10) rfl ⟨by omega, by omega⟩ ?_
            refine zs_iload_n (j := 1) (i := 1) rfl rfl rfl ?_
            refine zs_imul_r rfl ⟨by omega, by omega⟩ ?_
            refine zs_iload_n (j := 2) (i := 2) rfl rfl rfl ?_
            show ZVV _ _ _ 80 _ _ _
            refine zs_iadd_r rfl ⟨by omega, by omega⟩ ?_
            exact zs_ireturn rfl rfl (by
        have hg9 := goM1 hm hh hz_25 (k := k) (H := tGoes (mT g) k) (by omega) (by omega) h3 (by omega)
        have hhow : tHow (mT g) k = tGoes (mT g) k := if_neg (zif0 hc_15)
        have hne : ¬ tHow (mT g) k = -5 := by omega
        have hx := hq _ hg9.1 hg9.2.1 hg9.2.2.1 (by rw [hg9.2.2.2.1]; omega)
        rw [tStepF_s, if_neg hne, hhow] at hx
        exact hx hg9.2.2.2.2)
          · refine zs_aload_n (j := 0) (i := 0) rfl rfl rfl ?_
            refine zs_getfield (f := 8) (k := 7) rfl rfl (trivial) ?_
            show ZVV _ _ _ _ _ (ZR 33 0 :: _) _
            refine zs_iload_n (j := 3) (i := 3) rfl rfl rfl ?_
            refine zs_aload_n (j := 0) (i := 0) rfl rfl rfl ?_
            refine zs_getfield (f := 8) (k := 7) rfl rfl (trivial) ?_
            show ZVV _ _ _ _ _ (ZR 33 0 :: _) _
            refine zs_iload_n (j := 1) (i := 1) rfl rfl rfl ?_
            refine zs_iald (n := 6) rfl rfl (by omega) (by omega) ?_
            show ZVV _ _ _ _ _ (ZI (g_25 33 0 k) :: _) _
            rw [e33_25]
            show ZVV _ _ _ 57 _ _ _
            refine zs_iast (n := 6) rfl rfl (by omega) (by omega) ?_
            refine zs_aload_n (j := 0) (i := 0) rfl rfl rfl ?_
            refine zs_getfield (f := 8) (k := 7) rfl rfl (trivial) ?_
            show ZVV _ _ _ _ _ (ZR 33 0 :: _) _
            refine zs_iload_n (j := 1) (i := 1) rfl rfl rfl ?_
            refine zs_iload_n (j := 2) (i := 2) rfl rfl rfl ?_
            refine zs_iast (n := 6) rfl rfl (by omega) (by omega) ?_
            show ZVV _ _ _ _ _ _ (zup (zup g_25 33 0 ((zwho (g 8 0 2) (g 33 0) (tGoes (mT g) k)).toNat) (g 33 0 k)) 33 0 k (tGoes (mT g) k))
            refine zs_aload_n (j := 0) (i := 0) rfl rfl rfl ?_
            refine zs_dup rfl (by intro x z; cases z) ?_
            show ZVV _ _ _ 67 _ _ _
            refine zs_getfield (f := 8) (k := 3) rfl rfl (trivial) ?_
            show ZVV _ _ _ _ _ (ZI (g_25 8 0 3) :: _) _
            rw [e8_25]
            refine zs_iconst (n := 1) rfl ⟨by omega, by omega⟩ ?_
            refine zs_iadd_r rfl ⟨by omega, by omega⟩ ?_
            refine zs_putfield (f := 8) (k := 3) (x := (g 8 0 3) + 1) rfl rfl (rfl) ?_
            refine zs_bipush (n := 10) rfl ⟨by omega, by omega⟩ ?_
            refine zs_iload_n (j := 1) (i := 1) rfl rfl rfl ?_
            refine zs_imul_r rfl ⟨by omega, by omega⟩ ?_
            refine zs_iload_n (j := 2) (i := 2) rfl rfl rfl ?_
            show ZVV _ _ _ 80 _ _ _
            refine zs_iadd_r rfl ⟨by omega, by omega⟩ ?_
            exact zs_ireturn rfl rfl (by
        have hg9 := goM2 hm hh hz_25 (k := k) (H := tGoes (mT g) k) (by omega) (by omega) h3 (by omega)
        have hhow : tHow (mT g) k = tGoes (mT g) k := if_neg (zif0 hc_15)
        have hne : ¬ tHow (mT g) k = -5 := by omega
        have hx := hq _ hg9.1 hg9.2.1 hg9.2.2.1 (by rw [hg9.2.2.2.1]; omega)
        rw [tStepF_s, if_neg hne, hhow] at hx
        exact hx hg9.2.2.2.2)
        · refine zs_goto 82 rfl (by omega) ?_
          refine zs_iinc_r (i := 1) rfl rfl (by intro r x hr; have hr2 : r = 0 := (by omega); subst hr2; intro z; cases z) ⟨by omega, by omega⟩ ?_
          show ZVV _ _ _ _ [ZR 8 0, ZI ((k : Int) + 1), ZI (tGoes (mT g) k), z3] _ _
          refine zs_goto 2 rfl (by omega) ?_
          have hhow : tHow (mT g) k = -5 := by
            unfold tHow
            rw [if_neg (show ¬ tSu (mT g) k (tho (mT g) k) = true from zif0 hc_15)]
            omega
          refine ih (k + 1) _ _ g_25 (by intro y h; cases h) hz3 (by omega) hz_25 (fun M a1 a2 a3 a4 a5 => ?_)
          have hx := hq M a1 a2 a3 a4
          rw [tStepF_s, if_pos hhow] at hx
          exact hx a5
      · refine zs_bipush (n := (-5)) rfl ⟨by omega, by omega⟩ ?_
        refine zs_goto 28 rfl (by omega) ?_
        refine zs_istore_n (j := 2) (i := 2) rfl rfl (by decide) (by intro r x hr; have hr2 : r = 1 := (by omega); subst hr2; intro z; cases z) ?_
        show ZVV _ _ _ _ [ZR 8 0, ZI (k : Int), ZI (-5), z3] _ _
        refine zs_iload_n (j := 2) (i := 2) rfl rfl rfl ?_
        refine zs_if_ge 36 rfl (by omega) (fun hc_30 => ?_) (fun hc_30 => ?_)
        · exfalso; omega
        · refine zs_goto 82 rfl (by omega) ?_
          refine zs_iinc_r (i := 1) rfl rfl (by intro r x hr; have hr2 : r = 0 := (by omega); subst hr2; intro z; cases z) ⟨by omega, by omega⟩ ?_
          show ZVV _ _ _ _ [ZR 8 0, ZI ((k : Int) + 1), ZI (-5), z3] _ _
          refine zs_goto 2 rfl (by omega) ?_
          have hhow : tHow (mT g) k = -5 := by
            unfold tHow
            rw [if_pos (show tSu (mT g) k (tho (mT g) k) = true from zif1 hc_15)]
          refine ih (k + 1) _ _ g_12 (by intro y h; cases h) hz3 (by omega) hz_12 (fun M a1 a2 a3 a4 a5 => ?_)
          have hx := hq M a1 a2 a3 a4
          rw [tStepF_s, if_pos hhow] at hx
          exact hx a5
theorem c_X8_goMove  : ZC mX8_goMove 10 (fun av g => av = [ZR 8 0] ∧ MOK g ∧ MHH g ∧ g 8 0 3 < 100000) (fun _ g r g' => r = some (ZI (tStep (mT g)).1) ∧ mT g' = (tStep (mT g)).2 ∧ zGM g g' ∧ MOK g' ∧ MHH g' ∧ g' 8 0 3 ≤ g 8 0 3 + 1) := by
  refine zc_of gX8_goMove (fun av g hp => by obtain ⟨rfl, -⟩ := hp; exact Nat.le_of_ble_eq_true rfl) (fun Y av g hwf hrg hp hok => ?_)
  obtain ⟨rfl, hp⟩ := hp
  show ZVV _ _ _ 0 [ZR 8 0, ZX 99, ZX 99, ZX 99] [] _
  have hn6 := hp.1.2.2.1
  refine zs_iconst (n := 0) rfl ⟨by omega, by omega⟩ ?_
  refine zs_istore_n (j := 1) (i := 1) rfl rfl (by decide) (by intro r x hr; have hr2 : r = 0 := (by omega); subst hr2; intro z; cases z) ?_
  show ZVV _ _ _ _ [ZR 8 0, ZI 0, ZX 99, ZX 99] _ _
  exact l_X8_goMove hp.1 hp.2.1 hp.2.2 (g 8 0 2).toNat 0 _ _ g (by intro y h; cases h) (by intro y h; cases h) (by omega) (zP.rf g) (fun M a1 a2 a3 a4 a5 => ⟨rfl, a5, a1, a2, a3, a4⟩)

theorem l_X8_goMoves {Y : ZW} {Q : Option ZV → ZG → Prop} {g : ZG} {n : Nat} (hn : g 8 0 3 + n ≤ 100000) (hn2 : n ≤ 1000) : ∀ (m k : Nat) (G : ZG), k + m = n → zGM g G → MOK G → MHH G → G 8 0 3 ≤ g 8 0 3 + k → (∀ M, zGM g M → MOK M → MHH M → M 8 0 3 ≤ g 8 0 3 + n → mT M = (tRun m k (mT G)).2 → Q (some (ZI (((tRun m k (mT G)).1 : Nat) : Int))) M) → ZVV Y mX8_goMoves (zcx Y 11 Q) 2 [ZR 8 0, ZI (n : Int), ZI (k : Int)] [] G := by
  intro m
  induction m with
  | zero =>
    intro k G hk hGM hM hH hs hq
    refine zs_iload_n (j := 2) (i := 2) rfl rfl rfl ?_
    refine zs_iload_n (j := 1) (i := 1) rfl rfl rfl ?_
    refine zs_icmp_ge 20 rfl (by omega) (fun hc_4 => ?_) (fun hc_4 => ?_)
    · refine zs_iload_n (j := 2) (i := 2) rfl rfl rfl ?_
      exact zs_ireturn rfl rfl (hq G hGM hM hH (by omega) rfl)
    · exfalso; omega
  | succ m ih =>
    intro k G hk hGM hM hH hs hq
    refine zs_iload_n (j := 2) (i := 2) rfl rfl rfl ?_
    refine zs_iload_n (j := 1) (i := 1) rfl rfl rfl ?_
    refine zs_icmp_ge 20 rfl (by omega) (fun hc_4 => ?_) (fun hc_4 => ?_)
    · exfalso; omega
    · refine zs_aload_n (j := 0) (i := 0) rfl rfl rfl ?_
      refine zs_callV (host := "") rfl kX8_310 vX8_goMove c_X8_goMove [] [] rfl (zroom_of (by omega)) rfl (Nat.le_of_ble_eq_true rfl) ⟨rfl, hM, hH, (by omega)⟩ (fun r_8 g_8 hq_8 => ?_)
      obtain ⟨hr_8, hT_8, hGM_8, hM_8, hH_8, hs_8⟩ := hq_8
      rw [hr_8]
      show ZVV _ _ _ 11 _ [ZI ((tStep (mT G)).1)] g_8
      refine zs_if_lt 20 rfl (by omega) (fun hc_11 => ?_) (fun hc_11 => ?_)
      · refine zs_iload_n (j := 2) (i := 2) rfl rfl rfl ?_
        exact zs_ireturn rfl rfl (by
        have hx := hq g_8 (hGM.tr hGM_8) hM_8 hH_8 (by omega)
        rw [show tRun (m + 1) k (mT G) = (k, (tStep (mT G)).2) from if_pos (by omega)] at hx
        exact hx hT_8)
      · refine zs_iinc_r (i := 2) rfl rfl (by intro r x hr; have hr2 : r = 1 := (by omega); subst hr2; intro z; cases z) ⟨by omega, by omega⟩ ?_
        show ZVV _ _ _ _ [ZR 8 0, ZI (n : Int), ZI ((k : Int) + 1)] _ _
        refine zs_goto 2 rfl (by omega) ?_
        refine ih (k + 1) g_8 (by omega) (hGM.tr hGM_8) hM_8 hH_8 (by omega) (fun M a1 a2 a3 a4 a5 => ?_)
        have hx := hq M a1 a2 a3 a4
        rw [show tRun (m + 1) k (mT G) = tRun m (k + 1) (tStep (mT G)).2 from if_neg (by omega), ← hT_8] at hx
        exact hx a5
theorem c_X8_goMoves (n : Nat) : ZC mX8_goMoves 11 (fun av g => av = [ZR 8 0, ZI (n : Int)] ∧ MOK g ∧ MHH g ∧ g 8 0 3 + n ≤ 100000 ∧ n ≤ 1000) (fun _ g r g' => r = some (ZI (((tRun n 0 (mT g)).1 : Nat) : Int)) ∧ mT g' = (tRun n 0 (mT g)).2 ∧ zGM g g' ∧ MOK g' ∧ MHH g' ∧ g' 8 0 3 ≤ g 8 0 3 + n) := by
  refine zc_of gX8_goMoves (fun av g hp => by obtain ⟨rfl, -⟩ := hp; exact Nat.le_of_ble_eq_true rfl) (fun Y av g hwf hrg hp hok => ?_)
  obtain ⟨rfl, hp⟩ := hp
  show ZVV _ _ _ 0 [ZR 8 0, ZI (n : Int), ZX 99] [] _
  refine zs_iconst (n := 0) rfl ⟨by omega, by omega⟩ ?_
  refine zs_istore_n (j := 2) (i := 2) rfl rfl (by decide) (by intro r x hr; have hr2 : r = 1 := (by omega); subst hr2; intro z; cases z) ?_
  show ZVV _ _ _ _ [ZR 8 0, ZI (n : Int), ZI 0] _ _
  exact l_X8_goMoves hp.2.2.1 hp.2.2.2 n 0 g (by omega) (zGM.rf g) hp.1 hp.2.1 (by omega) (fun M a1 a2 a3 a4 a5 => ⟨rfl, a5, a1, a2, a3, a4⟩)

