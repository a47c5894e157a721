def tMove (t : ZT) (k : Nat) (h : Int) : ZT := ((tn t, tsh t, tnp t, tmv t + 1), (tkd t, tv t, tsr t, if zwho (tnp t) (tho t) h = -1 then (fun c => if c = k then h else tho t c) else tho (tswap t k (zwho (tnp t) (tho t) h).toNat)), t.2.2)
def tHow (t : ZT) (k : Nat) : Int := if tSu t k (tho t k) = true then -5 else tGoes t k
def tStepF (t : ZT) (n k : Nat) : Int × ZT := match n with
  | 0 => (-5, t)
  | n + 1 => if tHow t k = -5 then tStepF t n (k + 1) else (10 * (k : Int) + tHow t k, tMove t k (tHow t k))
theorem tStepF_s (t : ZT) (n k : Nat) : tStepF t (n + 1) k = if tHow t k = -5 then tStepF t n (k + 1) else (10 * (k : Int) + tHow t k, tMove t k (tHow t k)) := rfl
def tStep (t : ZT) : Int × ZT := tStepF t (tnp t).toNat 0
/-- what a move may touch -/
def zST (g g' : ZG) : Prop := (∀ f, f ≠ 1 → f ≠ 2 → f ≠ 11 → f ≠ 12 → f ≠ 13 → f ≠ 18 → g' f = g f) ∧ (∀ i k, k ≠ 3 → k ≠ 4 → k ≠ 5 → k ≠ 8 → g' 1 i k = g 1 i k) ∧ (∀ i k, ¬ (i = 2 ∧ k = 8) → g' 2 i k = g 2 i k) ∧ ∀ i k, ¬ (i = 2 ∧ k < 6) → g' 18 i k = g 18 i k
theorem zST.rf (g : ZG) : zST g g := ⟨fun _ _ _ _ _ _ _ => rfl, fun _ _ _ _ _ _ => rfl, fun _ _ _ => rfl, fun _ _ _ => rfl⟩
theorem zST.tr {a b c : ZG} (h : zST a b) (k : zST b c) : zST a c := ⟨fun f h1 h2 h3 h4 h5 h6 => (k.1 f h1 h2 h3 h4 h5 h6).trans (h.1 f h1 h2 h3 h4 h5 h6), fun i q h1 h2 h3 h4 => (k.2.1 i q h1 h2 h3 h4).trans (h.2.1 i q h1 h2 h3 h4), fun i q h1 => (k.2.2.1 i q h1).trans (h.2.2.1 i q h1), fun i q h1 => (k.2.2.2 i q h1).trans (h.2.2.2 i q h1)⟩
theorem zSL.st {a b : ZG} (h : zSL a b) : zST a b := ⟨fun f h1 _ h3 h4 h5 _ => h.1 f h1 h3 h4 h5, fun i q h1 h2 h3 _ => h.2 i q h1 h2 h3, fun i q _ => by rw [h.1 2 (by decide) (by decide) (by decide) (by decide)], fun i q _ => by rw [h.1 18 (by decide) (by decide) (by decide) (by decide)]⟩
theorem step_end {g G M : ZG} (hS : zSL g G) (hL : LOK G) (hmv : g 2 2 8 < 100000) (hsn : g 1 0 8 < 1000000000)
    (h0 : ∀ f, f ≠ 1 → f ≠ 2 → f ≠ 18 → M f = G f) (h1 : ∀ i c, c ≠ 8 → M 1 i c = G 1 i c) (h18 : M 1 0 8 = G 1 0 8 + 1)
    (h2 : ∀ i c, ¬ (i = 2 ∧ c = 8) → M 2 i c = G 2 i c) (h28 : M 2 2 8 = G 2 2 8 + 1) (hh : ∀ i c, ¬ (i = 2 ∧ c < 6) → M 18 i c = G 18 i c)
    (hb : ∀ p : Nat, (p : Int) < g 2 2 3 → 0 ≤ M 18 2 p ∧ M 18 2 p < g 2 2 0) :
    zTL M = ((tn (zTL g), tsh (zTL g), tnp (zTL g), tmv (zTL g) + 1), (tkd (zTL g), tv (zTL g), tsr (zTL g), M 18 2), (zTL g).2.2) ∧ LOK M ∧ LHH M ∧ zST g M ∧ M 1 0 8 ≤ g 1 0 8 + 1 := by
  have e2 : G 2 = g 2 := hS.1 2 (by decide) (by decide) (by decide) (by decide)
  have m20 : M 2 2 0 = g 2 2 0 := by rw [h2 _ _ (by decide), e2]
  have m21 : M 2 2 1 = g 2 2 1 := by rw [h2 _ _ (by decide), e2]
  have m23 : M 2 2 3 = g 2 2 3 := by rw [h2 _ _ (by decide), e2]
  have m28 : M 2 2 8 = g 2 2 8 + 1 := by rw [h28, e2]
  have m2b : M 2 2 11 = g 2 2 11 := by rw [h2 _ _ (by decide), e2]
  have g8 : G 1 0 8 = g 1 0 8 := hS.2 0 8 (by decide) (by decide) (by decide)
  have mf : ∀ f, f ≠ 1 → f ≠ 2 → f ≠ 11 → f ≠ 12 → f ≠ 13 → f ≠ 18 → M f = g f := fun f a1 a2 a3 a4 a5 a6 => (h0 f a1 a2 a6).trans (hS.1 f a1 a3 a4 a5)
  have m3 := mf 3 (by decide) (by decide) (by decide) (by decide) (by decide) (by decide)
  have m20' := mf 20 (by decide) (by decide) (by decide) (by decide) (by decide) (by decide)
  have m14 := mf 14 (by decide) (by decide) (by decide) (by decide) (by decide) (by decide)
  have m15 := mf 15 (by decide) (by decide) (by decide) (by decide) (by decide) (by decide)
  have m16 := mf 16 (by decide) (by decide) (by decide) (by decide) (by decide) (by decide)
  have m17 := mf 17 (by decide) (by decide) (by decide) (by decide) (by decide) (by decide)
  obtain ⟨k1, k2, k3, k4, k5⟩ := hL
  obtain ⟨a1, a2, a3, a4, a5, a6⟩ := k1
  have m101 : M 1 0 1 = g 1 0 1 := by rw [h1 _ _ (by decide), hS.2 0 1 (by decide) (by decide) (by decide)]
  refine ⟨?_, ⟨⟨?_, ?_, ?_, ?_, ?_, ?_⟩, ?_, ?_, ?_, ?_⟩, ?_, ?_, ?_⟩
  · show zTC M 2 (M 1 0 1) = _
    unfold zTC zwC
    rw [m20, m21, m23, m28, m2b, m3, m20', m15, m16, m17, m101]
    rfl
  · rw [m20, ← e2]; exact a1
  · rw [m21, ← e2]; exact a2
  · rw [m23, ← e2]; exact a3
  · rw [m28]; rw [e2] at a4; omega
  · intro h hh2
    rw [m20] at hh2
    rw [m20, m21, m14, ← hS.1 14 (by decide) (by decide) (by decide) (by decide), ← e2]
    exact a5 h (by rw [e2]; exact hh2)
  · intro p hp
    rw [m23] at hp
    rw [m20, m15, m16, m17]
    have := a6 p (by rw [e2]; exact hp)
    rw [hS.1 15 (by decide) (by decide) (by decide) (by decide), hS.1 16 (by decide) (by decide) (by decide) (by decide), hS.1 17 (by decide) (by decide) (by decide) (by decide)] at this
    exact ⟨⟨by have := hb p hp; omega, (hb p hp).2⟩, this.2⟩
  · unfold HOLD; rw [m2b, m3, m20', ← e2, ← hS.1 3 (by decide) (by decide) (by decide) (by decide), ← hS.1 20 (by decide) (by decide) (by decide) (by decide)]; exact k2
  · refine ⟨fun s hs => ?_, fun p h f hp hh2 hf hq => ?_⟩
    · rw [h0 13 (by decide) (by decide) (by decide), h18]
      have := k3.1 s hs; omega
    · exfalso
      rw [h0 13 (by decide) (by decide) (by decide), h18] at hq
      rw [m23] at hp
      rw [e2] at a3
      have := k3.1 ((p * 8 + h) * 6 + f) (by omega)
      omega
  · rw [m101, ← hS.2 0 1 (by decide) (by decide) (by decide)]; exact k4
  · rw [h18, g8]; rw [g8] at k5; omega
  · intro p hp; rw [m23] at hp; exact (hb p hp).1
  · refine ⟨mf, fun i c c3 c4 c5 c8 => ?_, fun i c hc => ?_, fun i c hc => ?_⟩
    · rw [h1 i c c8, hS.2 i c c3 c4 c5]
    · rw [h2 i c hc, e2]
    · rw [hh i c hc, hS.1 18 (by decide) (by decide) (by decide) (by decide)]
  · rw [h18, g8]; exact Int.le_refl _
theorem l_X1_step {Y : ZW} {Q : Option ZV → ZG → Prop} {g : ZG} (hg : LOK g) (hh : LHH g) (hmv : g 2 2 8 < 100000) (hsn : g 1 0 8 < 1000000000) : ∀ (n k : Nat) (z2 z3 : ZV) (G : ZG), (∀ y, z2 ≠ ZJ y) → (∀ y, z3 ≠ ZJ y) → (k : Int) + n = g 2 2 3 → zSL g G → LOK G → (∀ (M : ZG) (r : Int), (r = (tStepF (zTL g) n k).1 ∧ zTL M = (tStepF (zTL g) n k).2) → LOK M → LHH M → zST g M → M 1 0 8 ≤ g 1 0 8 + 1 → Q (some (ZI r)) M) → ZVV Y mX1_step (zcx Y 6 Q) 2 [ZR 1 0, ZI (k : Int), z2, z3] [] G := by
  have hn6 := hg.1.2.2.1
  have hn8 := hg.1.1
  have hm0 := hg.1.2.2.2.1
  have hs0 := hg.2.2.2.2
  have h6all : ∀ p : Nat, (p : Int) < g 2 2 3 → 0 ≤ g 18 2 p ∧ g 18 2 p < g 2 2 0 := fun p hp => ⟨hh p hp, (hg.1.2.2.2.2.2 p hp).1.2⟩
  intro n
  induction n with
  | zero =>
    intro k z2 z3 G hz2 hz3 hk hS hL hq
    have e2 : G 2 = g 2 := hS.1 2 (by decide) (by decide) (by decide) (by decide)
    have e15 : G 15 = g 15 := hS.1 15 (by decide) (by decide) (by decide) (by decide)
    have e16 : G 16 = g 16 := hS.1 16 (by decide) (by decide) (by decide) (by decide)
    have e17 : G 17 = g 17 := hS.1 17 (by decide) (by decide) (by decide) (by decide)
    have e18 : G 18 = g 18 := hS.1 18 (by decide) (by decide) (by decide) (by decide)
    refine zs_iload_n (j := 1) (i := 1) rfl rfl rfl ?_
    refine zs_aload_n (j := 0) (i := 0) rfl rfl rfl ?_
    refine zs_getfield (f := 1) (k := 0) rfl rfl (trivial) ?_
    show ZVV _ _ _ _ _ (ZR 2 2 :: _) _
    refine zs_getfield (f := 2) (k := 3) rfl rfl (trivial) ?_
    show ZVV _ _ _ _ _ (ZI (G 2 2 3) :: _) _
    rw [e2]
    refine zs_icmp_ge 116 rfl (by omega) (fun hc_10 => ?_) (fun hc_10 => ?_)
    · refine zs_bipush (n := (-5)) rfl ⟨by omega, by omega⟩ ?_
      exact zs_ireturn rfl rfl (hq G (-5) ⟨rfl, hS.townL⟩ hL (fun p hp => by rw [e2] at hp; rw [e18]; exact hh p hp) hS.st (by rw [hS.2 0 8 (by decide) (by decide) (by decide)]; omega))
    · exfalso; omega
  | succ n ih =>
    intro k z2 z3 G hz2 hz3 hk hS hL hq
    have e2 : G 2 = g 2 := hS.1 2 (by decide) (by decide) (by decide) (by decide)
    have e15 : G 15 = g 15 := hS.1 15 (by decide) (by decide) (by decide) (by decide)
    have e16 : G 16 = g 16 := hS.1 16 (by decide) (by decide) (by decide) (by decide)
    have e17 : G 17 = g 17 := hS.1 17 (by decide) (by decide) (by decide) (by decide)
    have e18 : G 18 = g 18 := hS.1 18 (by decide) (by decide) (by decide) (by decide)
    have hhk := h6all k (by omega)
    have h6k := hg.1.2.2.2.2.2 k (by omega)
    refine zs_iload_n (j := 1) (i := 1) rfl rfl rfl ?_
    refine zs_aload_n (j := 0) (i := 0) rfl rfl rfl ?_
    refine zs_getfield (f := 1) (k := 0) rfl rfl (trivial) ?_
    show ZVV _ _ _ _ _ (ZR 2 2 :: _) _
    refine zs_getfield (f := 2) (k := 3) rfl rfl (trivial) ?_
    show ZVV _ _ _ _ _ (ZI (G 2 2 3) :: _) _
    rw [e2]
    refine zs_icmp_ge 116 rfl (by omega) (fun hc_10 => ?_) (fun hc_10 => ?_)
    · exfalso; omega
    · refine zs_aload_n (j := 0) (i := 0) rfl rfl rfl ?_
      refine zs_iload_n (j := 1) (i := 1) rfl rfl rfl ?_
      refine zs_aload_n (j := 0) (i := 0) rfl rfl rfl ?_
      refine zs_getfield (f := 1) (k := 0) rfl rfl (trivial) ?_
      show ZVV _ _ _ _ _ (ZR 2 2 :: _) _
      refine zs_getfield (f := 2) (k := 7) rfl rfl (trivial) ?_
      show ZVV _ _ _ _ _ (ZR 18 2 :: _) _
      refine zs_iload_n (j := 1) (i := 1) rfl rfl rfl ?_
      refine zs_iald (n := 6) rfl rfl (by omega) (by omega) ?_
      show ZVV _ _ _ _ _ (ZI (G 18 2 k) :: _) _
      rw [e18]
      show ZVV _ _ _ 24 _ _ _
      refine zs_callV (host := "") rfl kX1_82 vX1_suits (c_X1_suits (k : Int) (g 18 2 k)) [ZI (k : Int), ZI (g 18 2 k)] [] rfl (zroom_of (by omega)) rfl (Nat.le_of_ble_eq_true rfl) ⟨rfl, hL, (⟨by omega, by rw [e2]; omega⟩ : 0 ≤ (k : Int) ∧ (k : Int) < G 2 2 3), (by rw [e2]; exact hhk : 0 ≤ g 18 2 k ∧ g 18 2 k < G 2 2 0)⟩ (fun r_24 g_24 hq_24 => ?_)
      obtain ⟨hr_24, hS1_24, hL_24, hw_24, hk_24⟩ := hq_24
      rw [hr_24, hS.townL]
      have hS_24 := hS.tr hS1_24
      have e2_24 : g_24 2 = g 2 := hS_24.1 2 (by decide) (by decide) (by decide) (by decide)
      have e15_24 : g_24 15 = g 15 := hS_24.1 15 (by decide) (by decide) (by decide) (by decide)
      have e16_24 : g_24 16 = g 16 := hS_24.1 16 (by decide) (by decide) (by decide) (by decide)
      have e17_24 : g_24 17 = g 17 := hS_24.1 17 (by decide) (by decide) (by decide) (by decide)
      have e18_24 : g_24 18 = g 18 := hS_24.1 18 (by decide) (by decide) (by decide) (by decide)
      show ZVV _ _ _ 27 _ [ZI (if tSu (zTL g) k (g 18 2 k) = true then 1 else 0)] g_24
      refine zs_if_eq 35 rfl (by omega) (fun hc_27 => ?_) (fun hc_27 => ?_)
      · refine zs_aload_n (j := 0) (i := 0) rfl rfl rfl ?_
        refine zs_iload_n (j := 1) (i := 1) rfl rfl rfl ?_
        refine zs_callV (host := "") rfl kX1_116 vX1_goesTo (c_X1_goesTo (k : Int)) [ZI (k : Int)] [] rfl (zroom_of (by omega)) rfl (Nat.le_of_ble_eq_true rfl) ⟨rfl, hL_24, (fun p hp => by rw [e2_24] at hp; rw [e18_24]; exact hh p hp), (by rw [e2_24]; exact ⟨by omega, by omega⟩)⟩ (fun r_37 g_37 hq_37 => ?_)
        obtain ⟨hr_37, hS1_37, hL_37⟩ := hq_37
        rw [hr_37, hS_24.townL]
        have hS_37 := hS_24.tr hS1_37
        have e2_37 : g_37 2 = g 2 := hS_37.1 2 (by decide) (by decide) (by decide) (by decide)
        have e15_37 : g_37 15 = g 15 := hS_37.1 15 (by decide) (by decide) (by decide) (by decide)
        have e16_37 : g_37 16 = g 16 := hS_37.1 16 (by decide) (by decide) (by decide) (by decide)
        have e17_37 : g_37 17 = g 17 := hS_37.1 17 (by decide) (by decide) (by decide) (by decide)
        have e18_37 : g_37 18 = g 18 := hS_37.1 18 (by decide) (by decide) (by decide) (by decide)
        show ZVV _ _ _ 40 _ [ZI (tGoes (zTL g) k)] g_37
        refine zs_istore_n (j := 2) (i := 2) rfl rfl (by decide) (by intro r x hr; have hr2 : r = 1 := (by omega); subst hr2; intro z; cases z) ?_
        show ZVV _ _ _ _ [ZR 1 0, ZI (k : Int), ZI (tGoes (zTL g) k), z3] _ _
        skip
        refine zs_iload_n (j := 2) (i := 2) rfl rfl rfl ?_
        refine zs_bipush (n := (-5)) rfl ⟨by omega, by omega⟩ ?_
        refine zs_icmp_eq 110 rfl (by omega) (fun hc_44 => ?_) (fun hc_44 => ?_)
        · refine zs_iinc_r (i := 1) rfl rfl (by intro r x hr; have hr2 : r = 0 := (by omega); subst hr2; intro z; cases z) ⟨by omega, by omega⟩ ?_
          show ZVV _ _ _ _ [ZR 1 0, ZI ((k : Int) + 1), ZI (tGoes (zTL g) k), z3] _ _
          refine zs_goto 2 rfl (by omega) ?_
          refine ih (k + 1) _ _ g_37 (by intro y h; cases h) hz3 (by omega) hS_37 hL_37 (fun M r a b c d e => hq M r ?_ b c d e)
          rw [tStepF_s, if_pos (show tHow (zTL g) k = -5 from (if_neg (zif0 hc_27)).trans hc_44)]
          exact a
        · refine zs_aload_n (j := 0) (i := 0) rfl rfl rfl ?_
          refine zs_getfield (f := 1) (k := 0) rfl rfl (trivial) ?_
          show ZVV _ _ _ _ _ (ZR 2 2 :: _) _
          refine zs_iload_n (j := 2) (i := 2) rfl rfl rfl ?_
          refine zs_callV (host := "") rfl kX1_99 vX2_whoIn (c_X2_whoIn 2 (tGoes (zTL g) k)) [ZI (tGoes (zTL g) k)] [] rfl (zroom_of (by omega)) rfl (Nat.le_of_ble_eq_true rfl) ⟨rfl, (by rw [e2_37]; exact hn6)⟩ (fun r_52 g_52 hq_52 => ?_)
          obtain ⟨hr_52, hg_52⟩ := hq_52
          rw [hr_52, hg_52, e2_37, e18_37]
          have hgr := tGoes_rng (t := zTL g) (p := k) hn8.1 hhk.1 h6k.2.2.2.1 (fun q hq => ⟨hh q hq, (hg.1.2.2.2.2.2 q hq).1.2⟩)
          have hwr : zwho (g 2 2 3) (g 18 2) (tGoes (zTL g) k) = -1 ∨ (0 ≤ zwho (g 2 2 3) (g 18 2) (tGoes (zTL g) k) ∧ zwho (g 2 2 3) (g 18 2) (tGoes (zTL g) k) < g 2 2 3) := by
            rcases zfst_rng (fun p => decide (g 18 2 p = tGoes (zTL g) k)) (g 2 2 3).toNat 0 with q | q
            · exact Or.inl q
            · exact Or.inr ⟨q.1, by have h7 := q.2.1; show zfst (fun p => decide (g 18 2 p = tGoes (zTL g) k)) (g 2 2 3).toNat 0 < _; omega⟩
          have htn : tn (zTL g) = g 2 2 0 := rfl
          rw [htn] at hgr
          show ZVV _ _ _ 55 _ [ZI (zwho (g 2 2 3) (g 18 2) (tGoes (zTL g) k))] _
          refine zs_istore_n (j := 3) (i := 3) rfl rfl (by decide) (by intro r x hr; have hr2 : r = 2 := (by omega); subst hr2; intro z; cases z) ?_
          show ZVV _ _ _ _ [ZR 1 0, ZI (k : Int), ZI (tGoes (zTL g) k), ZI (zwho (g 2 2 3) (g 18 2) (tGoes (zTL g) k))] _ _
          refine zs_iload_n (j := 3) (i := 3) rfl rfl rfl ?_
          refine zs_iconst (n := (-1)) rfl ⟨by omega, by omega⟩ ?_
          show ZVV _ _ _ 58 _ _ _
          refine zs_icmp_ne 74 rfl (by omega) (fun hc_58 => ?_) (fun hc_58 => ?_)
          · refine zs_aload_n (j := 0) (i := 0) rfl rfl rfl ?_
            refine zs_iload_n (j := 1) (i := 1) rfl rfl rfl ?_
            refine zs_iload_n (j := 3) (i := 3) rfl rfl rfl ?_
            refine zs_callV (host := "") rfl kX1_113 vX1_changeHouses (c_X1_changeHouses (k : Int) (zwho (g 2 2 3) (g 18 2) (tGoes (zTL g) k))) [ZI (k : Int), ZI (zwho (g 2 2 3) (g 18 2) (tGoes (zTL g) k))] [] rfl (zroom_of (by omega)) rfl (Nat.le_of_ble_eq_true rfl) ⟨rfl, ⟨by omega, by omega⟩, ⟨by omega, by omega⟩⟩ (fun r_77 g_77 hq_77 => ?_)
            obtain ⟨hr_77, hg_77⟩ := hq_77
            rw [hr_77, hg_77]
            show ZVV _ _ _ 80 _ [] (zup (zup g_37 18 2 k (g_37 18 2 (zwho (g 2 2 3) (g 18 2) (tGoes (zTL g) k)).toNat)) 18 2 ((zwho (g 2 2 3) (g 18 2) (tGoes (zTL g) k)).toNat) (g_37 18 2 k))
            refine zs_aload_n (j := 0) (i := 0) rfl rfl rfl ?_
            refine zs_getfield (f := 1) (k := 0) rfl rfl (trivial) ?_
            show ZVV _ _ _ _ _ (ZR 2 2 :: _) _
            refine zs_dup rfl (by intro x z; cases z) ?_
            show ZVV _ _ _ 85 _ _ _
            refine zs_getfield (f := 2) (k := 8) rfl rfl (trivial) ?_
            show ZVV _ _ _ _ _ (ZI (g_37 2 2 8) :: _) _
            rw [e2_37]
            refine zs_iconst (n := 1) rfl ⟨by omega, by omega⟩ ?_
            refine zs_iadd_r rfl ⟨by omega, by omega⟩ ?_
            refine zs_putfield (f := 2) (k := 8) (x := (g 2 2 8) + 1) rfl rfl (rfl) ?_
            refine zs_aload_n (j := 0) (i := 0) rfl rfl rfl ?_
            refine zs_dup rfl (by intro x z; cases z) ?_
            refine zs_getfield (f := 1) (k := 8) rfl rfl (trivial) ?_
            show ZVV _ _ _ _ _ (ZI (g_37 1 0 8) :: _) _
            refine zs_iconst (n := 1) rfl ⟨by omega, by omega⟩ ?_
            show ZVV _ _ _ 99 _ _ _
            refine zs_iadd_r rfl ⟨by rw [hS_37.2 0 8 (by decide) (by decide) (by decide)]; omega, by rw [hS_37.2 0 8 (by decide) (by decide) (by decide)]; omega⟩ ?_
            refine zs_putfield (f := 1) (k := 8) (x := (g_37 1 0 8) + 1) rfl rfl (rfl) ?_
            refine zs_bipush (n := 10) rfl ⟨by omega, by omega⟩ ?_
            refine zs_iload_n (j := 1) (i := 1) rfl rfl rfl ?_
            refine zs_imul_r rfl ⟨by omega, by omega⟩ ?_
            refine zs_iload_n (j := 2) (i := 2) rfl rfl rfl ?_
            refine zs_iadd_r rfl ⟨by omega, by omega⟩ ?_
            exact zs_ireturn rfl rfl (by
      have hE := step_end (M := zup (zup (zup (zup g_37 18 2 k (g_37 18 2 (zwho (g 2 2 3) (g 18 2) (tGoes (zTL g) k)).toNat)) 18 2 ((zwho (g 2 2 3) (g 18 2) (tGoes (zTL g) k)).toNat) (g_37 18 2 k)) 2 2 8 ((g 2 2 8) + 1)) 1 0 8 ((g_37 1 0 8) + 1)) hS_37 hL_37 hmv hsn (fun f a1 a2 a3 => by rw [zup_nf _ _ _ _ a1, zup_nf _ _ _ _ a2]; exact mswap_nf _ _ _ a3) (fun i c a1 => by simp [zup, a1]) (by simp [zup]) (fun i c a1 => by unfold zup; simp; intro a2 a3; exact absurd ⟨a3, a2⟩ a1) (by simp [zup, e2_37]) (fun i c a1 => by
        rw [zup_nf _ _ _ _ (by decide), zup_nf _ _ _ _ (by decide)]
        show mswap g_37 k (zwho (g 2 2 3) (g 18 2) (tGoes (zTL g) k)).toNat 18 i c = _
        by_cases hi : i = 2
        · subst hi
          rw [mswap_18]
          have c6 : ¬ c < 6 := fun z => a1 ⟨rfl, z⟩
          dsimp only
          rw [if_neg (by omega), if_neg (by omega)]
        · rw [mswap_ni _ _ _ hi]) (fun p hp => by
        rw [zup_nf _ _ _ _ (by decide), zup_nf _ _ _ _ (by decide)]
        show 0 ≤ mswap g_37 k (zwho (g 2 2 3) (g 18 2) (tGoes (zTL g) k)).toNat 18 2 p ∧ mswap g_37 k (zwho (g 2 2 3) (g 18 2) (tGoes (zTL g) k)).toNat 18 2 p < _
        rw [mswap_18, e18_37]
        dsimp only
        split
        · exact h6all k (by omega)
        · split
          · exact h6all _ (by omega)
          · exact h6all p hp)
      have hf : (zup (zup (zup (zup g_37 18 2 k (g_37 18 2 (zwho (g 2 2 3) (g 18 2) (tGoes (zTL g) k)).toNat)) 18 2 ((zwho (g 2 2 3) (g 18 2) (tGoes (zTL g) k)).toNat) (g_37 18 2 k)) 2 2 8 ((g 2 2 8) + 1)) 1 0 8 ((g_37 1 0 8) + 1)) 18 2 = tho (tswap (zTL g) k (zwho (g 2 2 3) (g 18 2) (tGoes (zTL g) k)).toNat) := by
        rw [zup_nf _ _ _ _ (by decide), zup_nf _ _ _ _ (by decide)]
        show mswap g_37 k (zwho (g 2 2 3) (g 18 2) (tGoes (zTL g) k)).toNat 18 2 = _
        rw [mswap_18, e18_37]; rfl
      have hH : tHow (zTL g) k = tGoes (zTL g) k := if_neg (zif0 hc_27)
      have hT : tStepF (zTL g) (n + 1) k = (10 * (k : Int) + tGoes (zTL g) k, tMove (zTL g) k (tGoes (zTL g) k)) := by
        rw [tStepF_s, hH, if_neg hc_44]
      refine hq _ _ ?_ hE.2.1 hE.2.2.1 hE.2.2.2.1 hE.2.2.2.2
      rw [hT]
      refine ⟨rfl, ?_⟩
      rw [hE.1, hf]
      unfold tMove
      rw [if_neg (show ¬ zwho (tnp (zTL g)) (tho (zTL g)) (tGoes (zTL g) k) = -1 from hc_58)]
      rfl)
          · refine zs_aload_n (j := 0) (i := 0) rfl rfl rfl ?_
            refine zs_getfield (f := 1) (k := 0) rfl rfl (trivial) ?_
            show ZVV _ _ _ _ _ (ZR 2 2 :: _) _
            refine zs_getfield (f := 2) (k := 7) rfl rfl (trivial) ?_
            show ZVV _ _ _ _ _ (ZR 18 2 :: _) _
            refine zs_iload_n (j := 1) (i := 1) rfl rfl rfl ?_
            refine zs_iload_n (j := 2) (i := 2) rfl rfl rfl ?_
            refine zs_iast (n := 6) rfl rfl (by omega) (by omega) ?_
            show ZVV _ _ _ _ _ _ (zup g_37 18 2 k (tGoes (zTL g) k))
            refine zs_goto 80 rfl (by omega) ?_
            show ZVV _ _ _ 80 _ _ _
            refine zs_aload_n (j := 0) (i := 0) rfl rfl rfl ?_
            refine zs_getfield (f := 1) (k := 0) rfl rfl (trivial) ?_
            show ZVV _ _ _ _ _ (ZR 2 2 :: _) _
            refine zs_dup rfl (by intro x z; cases z) ?_
            refine zs_getfield (f := 2) (k := 8) rfl rfl (trivial) ?_
            show ZVV _ _ _ _ _ (ZI (g_37 2 2 8) :: _) _
            rw [e2_37]
            refine zs_iconst (n := 1) rfl ⟨by omega, by omega⟩ ?_
            refine zs_iadd_r rfl ⟨by omega, by omega⟩ ?_
            refine zs_putfield (f := 2) (k := 8) (x := (g 2 2 8) + 1) rfl rfl (rfl) ?_
            refine zs_aload_n (j := 0) (i := 0) rfl rfl rfl ?_
            show ZVV _ _ _ 94 _ _ _
            refine zs_dup rfl (by intro x z; cases z) ?_
            refine zs_getfield (f := 1) (k := 8) rfl rfl (trivial) ?_
            show ZVV _ _ _ _ _ (ZI (g_37 1 0 8) :: _) _
            refine zs_iconst (n := 1) rfl ⟨by omega, by omega⟩ ?_
            refine zs_iadd_r rfl ⟨by rw [hS_37.2 0 8 (by decide) (by decide) (by decide)]; omega, by rw [hS_37.2 0 8 (by decide) (by decide) (by decide)]; omega⟩ ?_
            refine zs_putfield (f := 1) (k := 8) (x := (g_37 1 0 8) + 1) rfl rfl (rfl) ?_
            refine zs_bipush (n := 10) rfl ⟨by omega, by omega⟩ ?_
            refine zs_iload_n (j := 1) (i := 1) rfl rfl rfl ?_
            refine zs_imul_r rfl ⟨by omega, by omega⟩ ?_
            show ZVV _ _ _ 107 _ _ _
            refine zs_iload_n (j := 2) (i := 2) rfl rfl rfl ?_
            refine zs_iadd_r rfl ⟨by omega, by omega⟩ ?_
            exact zs_ireturn rfl rfl (by
      have hE := step_end (M := zup (zup (zup g_37 18 2 k (tGoes (zTL g) k)) 2 2 8 ((g 2 2 8) + 1)) 1 0 8 ((g_37 1 0 8) + 1)) hS_37 hL_37 hmv hsn (fun f a1 a2 a3 => by rw [zup_nf _ _ _ _ a1, zup_nf _ _ _ _ a2, zup_nf _ _ _ _ a3]) (fun i c a1 => by simp [zup, a1]) (by simp [zup]) (fun i c a1 => by unfold zup; simp; intro a2 a3; exact absurd ⟨a3, a2⟩ a1) (by simp [zup, e2_37]) (fun i c a1 => by unfold zup; simp; intro a2 a3; exact absurd ⟨a3, by omega⟩ a1) (fun p hp => by
        have h8 := h6all p hp
        unfold zup; simp; split
        · omega
        · rw [e18_37]; exact h8)
      have hf : (zup (zup (zup g_37 18 2 k (tGoes (zTL g) k)) 2 2 8 ((g 2 2 8) + 1)) 1 0 8 ((g_37 1 0 8) + 1)) 18 2 = (fun c => if c = k then tGoes (zTL g) k else g 18 2 c) := by funext c; unfold zup; simp [e18_37]
      have hH : tHow (zTL g) k = tGoes (zTL g) k := if_neg (zif0 hc_27)
      have hT : tStepF (zTL g) (n + 1) k = (10 * (k : Int) + tGoes (zTL g) k, tMove (zTL g) k (tGoes (zTL g) k)) := by
        rw [tStepF_s, hH, if_neg hc_44]
      refine hq _ _ ?_ hE.2.1 hE.2.2.1 hE.2.2.2.1 hE.2.2.2.2
      rw [hT]
      refine ⟨rfl, ?_⟩
      rw [hE.1, hf]
      unfold tMove
      rw [if_pos (show zwho (tnp (zTL g)) (tho (zTL g)) (tGoes (zTL g) k) = -1 from Classical.not_not.mp hc_58)]
      rfl)
      · refine zs_bipush (n := (-5)) rfl ⟨by omega, by omega⟩ ?_
        refine zs_goto 40 rfl (by omega) ?_
        refine zs_istore_n (j := 2) (i := 2) rfl rfl (by decide) (by intro r x hr; have hr2 : r = 1 := (by omega); subst hr2; intro z; cases z) ?_
        show ZVV _ _ _ _ [ZR 1 0, ZI (k : Int), ZI (-5), z3] _ _
        skip
        refine zs_iload_n (j := 2) (i := 2) rfl rfl rfl ?_
        refine zs_bipush (n := (-5)) rfl ⟨by omega, by omega⟩ ?_
        refine zs_icmp_eq 110 rfl (by omega) (fun hc_44 => ?_) (fun hc_44 => ?_)
        · refine zs_iinc_r (i := 1) rfl rfl (by intro r x hr; have hr2 : r = 0 := (by omega); subst hr2; intro z; cases z) ⟨by omega, by omega⟩ ?_
          show ZVV _ _ _ _ [ZR 1 0, ZI ((k : Int) + 1), ZI (-5), z3] _ _
          refine zs_goto 2 rfl (by omega) ?_
          refine ih (k + 1) _ _ g_24 (by intro y h; cases h) hz3 (by omega) hS_24 hL_24 (fun M r a b c d e => hq M r ?_ b c d e)
          rw [tStepF_s, if_pos (show tHow (zTL g) k = -5 from if_pos (zif1 hc_27))]
          exact a
        · exact absurd rfl hc_44
theorem c_X1_step  : ZC mX1_step 6 (fun av g => av = [ZR 1 0] ∧ LOK g ∧ LHH g ∧ g 2 2 8 < 100000 ∧ g 1 0 8 < 1000000000) (fun _ g r g' => r = some (ZI (tStep (zTL g)).1) ∧ zTL g' = (tStep (zTL g)).2 ∧ LOK g' ∧ LHH g' ∧ zST g g' ∧ g' 1 0 8 ≤ g 1 0 8 + 1) := by
  refine zc_of gX1_step (fun av g hp => by obtain ⟨rfl, -⟩ := hp; exact Nat.le_of_ble_eq_true rfl) (fun Y av g hwf hrg hp hok => ?_)
  obtain ⟨rfl, hp⟩ := hp
  show ZVV _ _ _ 0 [ZR 1 0, ZX 99, ZX 99, ZX 99] [] _
  refine zs_iconst (n := 0) rfl ⟨by omega, by omega⟩ ?_
  refine zs_istore_n (j := 1) (i := 1) rfl rfl (by decide) (by intro r x hr; have hr2 : r = 0 := (by omega); subst hr2; intro z; cases z) ?_
  show ZVV _ _ _ _ [ZR 1 0, ZI 0, ZX 99, ZX 99] _ _
  exact l_X1_step hp.1 hp.2.1 hp.2.2.1 hp.2.2.2 (g 2 2 3).toNat 0 _ _ g (by intro y h; cases h) (by intro y h; cases h) (by have := hp.1.1.2.2.1; omega) (zSL.rf g) hp.1 (fun M r a b c d e => ⟨by rw [a.1]; rfl, a.2, b, c, d, e⟩)

