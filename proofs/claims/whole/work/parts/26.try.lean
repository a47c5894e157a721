/-- what trying may touch, from the p-th on -/
def zWF (g : ZG) (p : Nat) (G : ZG) : Prop := (∀ f, f ≠ 1 → f ≠ 6 → f ≠ 11 → f ≠ 12 → f ≠ 13 → f ≠ 18 → f ≠ 23 → G f = g f) ∧ (∀ i k, k ≠ 3 → k ≠ 4 → k ≠ 5 → G 1 i k = g 1 i k) ∧ (∀ i k, ¬ (i = 2 ∧ p ≤ k ∧ k < 6) → G 18 i k = g 18 i k) ∧ (∀ i k, ¬ (i = 0 ∧ k = 3) → G 6 i k = g 6 i k)
theorem zWF.rf (g : ZG) (p : Nat) : zWF g p g := ⟨fun _ _ _ _ _ _ _ _ => rfl, fun _ _ _ _ _ => rfl, fun _ _ _ => rfl, fun _ _ _ => rfl⟩
theorem zWF.tr {a b c : ZG} {p q : Nat} (h : zWF a p b) (k : zWF b q c) (hq : p ≤ q) : zWF a p c := ⟨fun f h1 h2 h3 h4 h5 h6 h7 => (k.1 f h1 h2 h3 h4 h5 h6 h7).trans (h.1 f h1 h2 h3 h4 h5 h6 h7), fun i j h1 h2 h3 => (k.2.1 i j h1 h2 h3).trans (h.2.1 i j h1 h2 h3), fun i j hj => (k.2.2.1 i j (fun z => hj ⟨z.1, by omega, z.2.2⟩)).trans (h.2.2.1 i j hj), fun i j hj => (k.2.2.2 i j hj).trans (h.2.2.2 i j hj)⟩
theorem zSL.wf {g G : ZG} (h : zSL g G) (p : Nat) : zWF g p G := ⟨fun f h1 _ h3 h4 h5 _ _ => h.1 f h1 h3 h4 h5, h.2, fun i k _ => by rw [h.1 18 (by decide) (by decide) (by decide) (by decide)], fun i k _ => by rw [h.1 6 (by decide) (by decide) (by decide) (by decide)]⟩
theorem zWF.put {g G : ZG} {p : Nat} (h : zWF g p G) (x : Int) (hp : p < 6) : zWF g p (mput G p x) := ⟨fun f h1 h2 h3 h4 h5 h6 h7 => by rw [mput_nf _ _ _ h6]; exact h.1 f h1 h2 h3 h4 h5 h6 h7, fun i k h1 h2 h3 => by rw [mput_nf _ _ _ (by decide)]; exact h.2.1 i k h1 h2 h3, fun i k hk => by
  unfold mput zup
  rw [if_neg (fun z => hk ⟨z.2.2, by omega, by omega⟩)]
  exact h.2.2.1 i k hk, fun i k hk => by rw [mput_nf _ _ _ (by decide)]; exact h.2.2.2 i k hk⟩
/-- what has been found so far -/
def AW (g : ZG) : Int × (Nat → Int) := (g 6 0 3, tCut (g 2 2 3) (g 23 0))
theorem AW_of {g G : ZG} (h2 : G 2 2 3 = g 2 2 3) (h6 : G 6 0 3 = g 6 0 3) (h23 : G 23 = g 23) : AW G = AW g := by unfold AW; rw [h2, h6, h23]
theorem zWF.town {g G : ZG} {p : Nat} (h : zWF g p G) : zTL G = tSetH (zTL g) (G 18 2) := by
  unfold tSetH zTL zTC zwC
  rw [h.1 2 (by decide) (by decide) (by decide) (by decide) (by decide) (by decide) (by decide), h.1 3 (by decide) (by decide) (by decide) (by decide) (by decide) (by decide) (by decide), h.1 15 (by decide) (by decide) (by decide) (by decide) (by decide) (by decide) (by decide), h.1 16 (by decide) (by decide) (by decide) (by decide) (by decide) (by decide) (by decide), h.1 17 (by decide) (by decide) (by decide) (by decide) (by decide) (by decide) (by decide), h.1 20 (by decide) (by decide) (by decide) (by decide) (by decide) (by decide) (by decide), h.2.1 0 1 (by decide) (by decide) (by decide)]
def TPRE (g : ZG) (p lv : Nat) (sf : Int) : Prop := (LOK g ∧ LHH g) ∧ (0 ≤ sf ∧ sf ≤ 30 * p) ∧ lv < 256 ∧ (0 ≤ g 6 0 3 ∧ g 6 0 3 ≤ 1000) ∧ (0 ≤ g 6 0 2 ∧ g 6 0 2 ≤ 1)
def TPOST (g : ZG) (rem p lv : Nat) (sf : Int) (r : Option ZV) (g' : ZG) : Prop := r = none ∧ zWF g p g' ∧ (LOK g' ∧ LHH g') ∧ AW g' = tTry (zTL g) (g 6 0 2) (g 24 0) rem p (g 18 2) lv sf (AW g)
theorem lok_same {G M : ZG} (hL : LOK G) (h : ∀ f, f ≠ 6 → f ≠ 23 → M f = G f) : LOK M := by
  unfold LOK SOK HOLD CK zwC at *
  rw [h 1 (by decide) (by decide), h 2 (by decide) (by decide), h 3 (by decide) (by decide), h 20 (by decide) (by decide), h 12 (by decide) (by decide), h 13 (by decide) (by decide), h 14 (by decide) (by decide), h 15 (by decide) (by decide), h 16 (by decide) (by decide), h 17 (by decide) (by decide), h 18 (by decide) (by decide)]
  exact hL
theorem c_X6_try0 (p lv : Nat) (sf : Int) : ZC mX6_tryFrom (5 + 0) (fun av g => av = [ZR 6 0, ZR 1 0, ZI (p : Int), ZI (lv : Int), ZI sf] ∧ TPRE g p lv sf ∧ (p : Int) = g 2 2 3) (fun _ g r g' => TPOST g 0 p lv sf r g') := by
  refine zc_of gX6_tryFrom (fun av g hp => by obtain ⟨rfl, -⟩ := hp; exact Nat.le_of_ble_eq_true rfl) (fun Y av g hwf hrg hp hok => ?_)
  obtain ⟨rfl, hp⟩ := hp
  show ZVV _ _ _ 0 [ZR 6 0, ZR 1 0, ZI (p : Int), ZI (lv : Int), ZI sf, ZX 99, ZX 99, ZX 99] [] _
  have hn6 := hp.1.1.1.1.2.2.1
  have hn8 := hp.1.1.1.1.1
  have hpp := hp.2
  refine zs_aload_n (j := 1) (i := 1) rfl rfl rfl ?_
  refine zs_getfield (f := 1) (k := 0) rfl rfl (trivial) ?_
  show ZVV _ _ _ _ _ (ZR 2 2 :: _) _
  refine zs_astore (i := 5) rfl (by decide) (by intro r x hr; have hr2 : r = 4 := (by omega); subst hr2; intro z; cases z) ?_
  show ZVV _ _ _ _ [ZR 6 0, ZR 1 0, ZI (p : Int), ZI (lv : Int), ZI sf, ZR 2 2, ZX 99, ZX 99] _ _
  refine zs_iload (i := 4) rfl rfl ?_
  refine zs_aload_n (j := 0) (i := 0) rfl rfl rfl ?_
  refine zs_getfield (f := 6) (k := 3) rfl rfl (trivial) ?_
  show ZVV _ _ _ _ _ (ZI (g 6 0 3) :: _) _
  refine zs_icmp_lt 16 rfl (by omega) (fun hc_12 => ?_) (fun hc_12 => ?_)
  · refine zs_iload_n (j := 2) (i := 2) rfl rfl rfl ?_
    refine zs_aload (i := 5) rfl rfl ?_
    refine zs_getfield (f := 2) (k := 3) rfl rfl (trivial) ?_
    show ZVV _ _ _ _ _ (ZI (g 2 2 3) :: _) _
    refine zs_icmp_ge 31 rfl (by omega) (fun hc_22 => ?_) (fun hc_22 => ?_)
    · refine zs_aload_n (j := 1) (i := 1) rfl rfl rfl ?_
      refine zs_callV (host := "") rfl kX6_50 vX1_allSuit c_X1_allSuit [] [] rfl (zroom_of (by omega)) rfl (Nat.le_of_ble_eq_true rfl) ⟨rfl, hp.1.1⟩ (fun r_32 g_32 hq_32 => ?_)
      obtain ⟨hr_32, hS_32, hL_32⟩ := hq_32
      rw [hr_32]
      have e2 : g_32 2 = g 2 := hS_32.1 2 (by decide) (by decide) (by decide) (by decide)
      have e18 : g_32 18 = g 18 := hS_32.1 18 (by decide) (by decide) (by decide) (by decide)
      have e6 : g_32 6 = g 6 := hS_32.1 6 (by decide) (by decide) (by decide) (by decide)
      have e23 : g_32 23 = g 23 := hS_32.1 23 (by decide) (by decide) (by decide) (by decide)
      have hH : LHH g_32 := fun p hp2 => by rw [e2] at hp2; rw [e18]; exact hp.1.1.2 p hp2
      have hset : tSetH (zTL g) (g 18 2) = zTL g := rfl
      show ZVV _ _ _ 35 _ [ZI (if tAll (zTL g) = true then 1 else 0)] g_32
      refine zs_if_eq 60 rfl (by omega) (fun hc_35 => ?_) (fun hc_35 => ?_)
      · exact zs_return rfl rfl (⟨rfl, hS_32.wf p, ⟨hL_32, hH⟩, by rw [AW_of (by rw [e2]) (by rw [e6]) e23]; unfold tTry; rw [if_neg (show ¬ (AW g).1 ≤ sf from by show ¬ g 6 0 3 ≤ sf; omega), hset, if_neg (zif0 hc_35)]⟩)
      · refine zs_aload_n (j := 0) (i := 0) rfl rfl rfl ?_
        refine zs_iload (i := 4) rfl rfl ?_
        refine zs_putfield (f := 6) (k := 3) (x := sf) rfl rfl (rfl) ?_
        refine zs_aload (i := 5) rfl rfl ?_
        refine zs_getfield (f := 2) (k := 7) rfl rfl (trivial) ?_
        show ZVV _ _ _ _ _ (ZR 18 2 :: _) _
        refine zs_iconst (n := 0) rfl ⟨by omega, by omega⟩ ?_
        refine zs_aload_n (j := 0) (i := 0) rfl rfl rfl ?_
        show ZVV _ _ _ 51 _ _ _
        refine zs_getfield (f := 6) (k := 0) rfl rfl (trivial) ?_
        show ZVV _ _ _ _ _ (ZR 23 0 :: _) _
        refine zs_iconst (n := 0) rfl ⟨by omega, by omega⟩ ?_
        refine zs_bipush (n := 6) rfl ⟨by omega, by omega⟩ ?_
        refine zs_cpi (n0 := 6) (n1 := 6) rfl kX6_37 (zroom_of (by omega)) (Nat.le_of_ble_eq_true rfl) rfl rfl (by omega) (by omega) (by omega) (by omega) (by omega) ?_
        show ZVV _ _ _ _ _ _ (zcpy (zup g_32 6 0 3 sf) 18 2 23 0 0 0 6)
        exact zs_return rfl rfl (by
        have hW : zWF g p (zcpy (zup g_32 6 0 3 sf) 18 2 23 0 0 0 6) := by
          refine ⟨fun f h1 h2 h3 h4 h5 h6 h7 => ?_, fun i k h1 h2 h3 => ?_, fun i k hk => ?_, fun i k hk => ?_⟩
          · funext i; rw [zcpy_off _ _ _ _ _ _ _ _ _ _ (fun z => h7 z.1), zup_nf _ _ _ _ h2]; exact congrFun (hS_32.1 f h1 h3 h4 h5) i
          · rw [zcpy_off _ _ _ _ _ _ _ _ _ _ (fun z => absurd z.1 (by decide)), zup_nf _ _ _ _ (by decide)]; exact hS_32.2 i k h1 h2 h3
          · rw [zcpy_off _ _ _ _ _ _ _ _ _ _ (fun z => absurd z.1 (by decide)), zup_nf _ _ _ _ (by decide), e18]
          · rw [zcpy_off _ _ _ _ _ _ _ _ _ _ (fun z => absurd z.1 (by decide))]
            unfold zup; rw [if_neg (fun z => hk ⟨z.2.2, z.2.1⟩), e6]
        have hL3 : LOK (zcpy (zup g_32 6 0 3 sf) 18 2 23 0 0 0 6) := lok_same hL_32 (fun f h6 h23 => by
          funext i; rw [zcpy_off _ _ _ _ _ _ _ _ _ _ (fun z => h23 z.1), zup_nf _ _ _ _ h6])
        refine ⟨rfl, hW, ⟨hL3, fun q hq2 => hH q hq2⟩, ?_⟩
        unfold tTry
        rw [if_neg (show ¬ (AW g).1 ≤ sf from by show ¬ g 6 0 3 ≤ sf; omega), hset, if_pos (zif1 hc_35)]
        show (_, _) = (_, _)
        have e1 : (zcpy (zup g_32 6 0 3 sf) 18 2 23 0 0 0 6) 6 0 3 = sf := by
          rw [zcpy_off _ _ _ _ _ _ _ _ _ _ (fun z => absurd z.1 (by decide)), zup_eq]
        have e3 : (zcpy (zup g_32 6 0 3 sf) 18 2 23 0 0 0 6) 2 2 3 = g 2 2 3 := by
          rw [zcpy_off _ _ _ _ _ _ _ _ _ _ (fun z => absurd z.1 (by decide)), zup_nf _ _ _ _ (by decide), e2]
        rw [e1, e3]
        congr 1
        funext c
        unfold tCut
        show (if (c : Int) < g 2 2 3 then _ else 0) = if (c : Int) < g 2 2 3 then _ else 0
        by_cases hc : (c : Int) < g 2 2 3
        · rw [if_pos hc, if_pos hc]
          unfold zcpy
          rw [if_pos ⟨rfl, rfl, by omega, by omega⟩, zup_nf _ _ _ _ (by decide), e18]
          show g 18 2 (0 + (c - 0)) = g 18 2 c
          congr 1; omega
        · rw [if_neg hc, if_neg hc])
    · exfalso; omega
  · exact zs_return rfl rfl (⟨rfl, zWF.rf g p, hp.1.1, by show AW g = _; unfold tTry; rw [if_pos (show (AW g).1 ≤ sf from by show g 6 0 3 ≤ sf; omega)]⟩)

theorem tTry_set {t : ZT} {f : Nat → Int} {byp : Int} {start : Nat → Int} : ∀ (rem p : Nat) (ho : Nat → Int) (lv : Nat) (sf : Int) (st : Int × (Nat → Int)), tTry (tSetH t f) byp start rem p ho lv sf st = tTry t byp start rem p ho lv sf st := by
  intro rem
  induction rem with
  | zero => intro p ho lv sf st; rfl
  | succ rem ih =>
    intro p ho lv sf st
    unfold tTry
    simp only [ih]
    rfl
set_option maxHeartbeats 4000000 in
theorem l_X6_try {Y : ZW} {Q : Option ZV → ZG → Prop} {g : ZG} {rem p lv : Nat} {sf : Int} (hg : LOK g ∧ LHH g) (hsf : 0 ≤ sf ∧ sf ≤ 30 * p) (hlv : lv < 256) (hb : 0 ≤ g 6 0 2 ∧ g 6 0 2 ≤ 1) (hp : (p : Int) + ((rem + 1 : Nat) : Int) = g 2 2 3)
    (hrec : ∀ (p lv : Nat) (sf : Int), ZC mX6_tryFrom (5 + rem) (fun av g => av = [ZR 6 0, ZR 1 0, ZI (p : Int), ZI (lv : Int), ZI sf] ∧ TPRE g p lv sf ∧ (p : Int) + rem = g 2 2 3) (fun _ g r g' => TPOST g rem p lv sf r g')) : ∀ (n j : Nat) (G : ZG) (z7 : ZV), (∀ y, z7 ≠ ZJ y) → (j : Int) + n = g 2 2 0 → zWF g p G → (LOK G ∧ LHH G) → (0 ≤ G 6 0 3 ∧ G 6 0 3 ≤ 1000) → (∀ G', zWF g p G' → (LOK G' ∧ LHH G') → AW G' = zfold (fun (h : Nat) s => if lv.testBit h = true then s else tTry (zTL g) (g 6 0 2) (g 24 0) rem (p + 1) (fun c => if c = p then (h : Int) else g 18 2 c) (lv ||| 1 <<< h) (sf + tMore (zTL g) (g 6 0 2) (g 24 0) (fun c => if c = p then (h : Int) else g 18 2 c) p h) s) n j (AW G) → Q none G') → ZVV Y mX6_tryFrom (zcx Y (6 + rem) Q) 64 [ZR 6 0, ZR 1 0, ZI (p : Int), ZI (lv : Int), ZI sf, ZR 2 2, ZI (j : Int), z7] [] G := by
  have hn6 := hg.1.1.2.2.1
  have hn8 := hg.1.1.1
  intro n
  induction n with
  | zero =>
    intro j G z7 hz7 hj hS hL hA0 hq
    have e2 : G 2 = g 2 := hS.1 2 (by decide) (by decide) (by decide) (by decide) (by decide) (by decide) (by decide)
    refine zs_iload (i := 6) rfl rfl ?_
    refine zs_aload (i := 5) rfl rfl ?_
    refine zs_getfield (f := 2) (k := 0) rfl rfl (trivial) ?_
    show ZVV _ _ _ _ _ (ZI (G 2 2 0) :: _) _
    rw [e2]
    refine zs_icmp_ge 151 rfl (by omega) (fun hc_71 => ?_) (fun hc_71 => ?_)
    · exact zs_return rfl rfl (hq G hS hL rfl)
    · exfalso; omega
  | succ n ih =>
    intro j G z7 hz7 hj hS hL hA0 hq
    have e2 : G 2 = g 2 := hS.1 2 (by decide) (by decide) (by decide) (by decide) (by decide) (by decide) (by decide)
    have e17 : G 17 = g 17 := hS.1 17 (by decide) (by decide) (by decide) (by decide) (by decide) (by decide) (by decide)
    have e24 : G 24 = g 24 := hS.1 24 (by decide) (by decide) (by decide) (by decide) (by decide) (by decide) (by decide)
    have e62 : G 6 0 2 = g 6 0 2 := hS.2.2.2 0 2 (by decide)
    refine zs_iload (i := 6) rfl rfl ?_
    refine zs_aload (i := 5) rfl rfl ?_
    refine zs_getfield (f := 2) (k := 0) rfl rfl (trivial) ?_
    show ZVV _ _ _ _ _ (ZI (G 2 2 0) :: _) _
    rw [e2]
    refine zs_icmp_ge 151 rfl (by omega) (fun hc_71 => ?_) (fun hc_71 => ?_)
    · exfalso; omega
    · refine zs_iload_n (j := 3) (i := 3) rfl rfl rfl ?_
      refine zs_iload (i := 6) rfl rfl ?_
      refine zs_ishr rfl ?_
      refine zs_iconst (n := 1) rfl ⟨by omega, by omega⟩ ?_
      refine zs_iand rfl ?_
      have hbit := zand1 (a := lv) (k := j) (by omega) (by omega)
      refine zs_if_ne 145 rfl (by omega) (fun hc_80 => ?_) (fun hc_80 => ?_)
      · refine zs_iinc_r (i := 6) rfl rfl (by intro r x hr; have hr2 : r = 5 := (by omega); subst hr2; intro z; cases z) ⟨by omega, by omega⟩ ?_
        show ZVV _ _ _ _ [ZR 6 0, ZR 1 0, ZI (p : Int), ZI (lv : Int), ZI sf, ZR 2 2, ZI ((j : Int) + 1), z7] _ _
        refine zs_goto 64 rfl (by omega) ?_
        have hz : lv.testBit j = true := by
          rw [hbit] at hc_80
          by_cases z : lv.testBit j = true
          · exact z
          · rw [if_neg z] at hc_80; omega
        refine ih (j + 1) G _ hz7 (by omega) hS hL hA0 (fun G' a b c => hq G' a b ?_)
        rw [zfold_s, if_pos hz]
        exact c
      · skip
        refine zs_aload (i := 5) rfl rfl ?_
        refine zs_getfield (f := 2) (k := 7) rfl rfl (trivial) ?_
        show ZVV _ _ _ _ _ (ZR 18 2 :: _) _
        refine zs_iload_n (j := 2) (i := 2) rfl rfl rfl ?_
        refine zs_iload (i := 6) rfl rfl ?_
        refine zs_iast (n := 6) rfl rfl (by omega) (by omega) ?_
        show ZVV _ _ _ _ _ _ (zup G 18 2 p (j : Int))
        have hL2 : LOK (mput G p j) := mput_lok hL.1 (by rw [e2]; omega)
        have hH2 : LHH (mput G p j) := by
          intro q hq2
          rw [mput_nf _ _ _ (by decide), e2] at hq2
          rw [mput_18]
          dsimp only
          split
          · omega
          · exact hL.2 q (by rw [e2]; exact hq2)
        have hf2 : 0 ≤ (mput G p j) 6 0 3 ∧ (mput G p j) 6 0 3 ≤ 1000 := by rw [mput_nf _ _ _ (by decide)]; exact hA0
        have hb2 : 0 ≤ (mput G p j) 6 0 2 ∧ (mput G p j) 6 0 2 ≤ 1 := by rw [mput_nf _ _ _ (by decide), e62]; exact hb
        have hho : ∀ c, c ≤ p → (fun c => if c = p then (j : Int) else G 18 2 c) c = (fun c => if c = p then (j : Int) else g 18 2 c) c := by
          intro c hc
          dsimp only
          by_cases hcp : c = p
          · rw [if_pos hcp, if_pos hcp]
          · rw [if_neg hcp, if_neg hcp, hS.2.2.1 2 c (by omega)]
        show ZVV _ _ _ _ _ _ (mput G p (j : Int))
        refine zs_aload_n (j := 0) (i := 0) rfl rfl rfl ?_
        refine zs_getfield (f := 6) (k := 2) rfl rfl (trivial) ?_
        show ZVV _ _ _ _ _ (ZI (G 6 0 2) :: _) _
        show ZVV _ _ _ _ _ [ZI (G 6 0 2)] _
        rw [e62]
        have hmr : 0 ≤ tMore (zTL g) (g 6 0 2) (g 24 0) (fun c => if c = p then (j : Int) else g 18 2 c) p j ∧ tMore (zTL g) (g 6 0 2) (g 24 0) (fun c => if c = p then (j : Int) else g 18 2 c) p j ≤ 6 := by
          unfold tMore
          split
          · split <;> decide
          · have := zlpb_rng (tn (zTL g)) (tsh (zTL g)) (tsr (zTL g)) (fun c => if c = p then (j : Int) else g 18 2 c) p; omega
        show ZVV _ _ _ 96 _ _ _
        refine zs_if_eq 108 rfl (by omega) (fun hc_96 => ?_) (fun hc_96 => ?_)
        · refine zs_iload (i := 6) rfl rfl ?_
          refine zs_aload_n (j := 0) (i := 0) rfl rfl rfl ?_
          refine zs_getfield (f := 6) (k := 1) rfl rfl (trivial) ?_
          show ZVV _ _ _ _ _ (ZR 24 0 :: _) _
          refine zs_iload_n (j := 2) (i := 2) rfl rfl rfl ?_
          refine zs_iald (n := 6) rfl rfl (by omega) (by omega) ?_
          show ZVV _ _ _ _ _ (ZI (G 24 0 p) :: _) _
          rw [e24]
          refine zs_icmp_ne 123 rfl (by omega) (fun hc_116 => ?_) (fun hc_116 => ?_)
          · refine zs_iconst (n := 1) rfl ⟨by omega, by omega⟩ ?_
            have hmore : tMore (zTL g) (g 6 0 2) (g 24 0) (fun c => if c = p then (j : Int) else g 18 2 c) p j = 1 := by unfold tMore; rw [if_pos (by omega), if_neg (by omega)]
            rw [← hmore]
            show ZVV _ _ _ _ _ [ZI (tMore (zTL g) (g 6 0 2) (g 24 0) (fun c => if c = p then (j : Int) else g 18 2 c) p j)] _
            refine zs_istore (i := 7) rfl (by decide) (by intro r x hr; have hr2 : r = 6 := (by omega); subst hr2; intro z; cases z) ?_
            show ZVV _ _ _ _ [ZR 6 0, ZR 1 0, ZI (p : Int), ZI (lv : Int), ZI sf, ZR 2 2, ZI (j : Int), ZI (tMore (zTL g) (g 6 0 2) (g 24 0) (fun c => if c = p then (j : Int) else g 18 2 c) p j)] _ _
            refine zs_aload_n (j := 0) (i := 0) rfl rfl rfl ?_
            refine zs_aload_n (j := 1) (i := 1) rfl rfl rfl ?_
            refine zs_iload_n (j := 2) (i := 2) rfl rfl rfl ?_
            refine zs_iconst (n := 1) rfl ⟨by omega, by omega⟩ ?_
            refine zs_iadd_r rfl ⟨by omega, by omega⟩ ?_
            show ZVV _ _ _ 131 _ _ _
            refine zs_iload_n (j := 3) (i := 3) rfl rfl rfl ?_
            refine zs_iconst (n := 1) rfl ⟨by omega, by omega⟩ ?_
            refine zs_iload (i := 6) rfl rfl ?_
            refine zs_ishl rfl ?_
            refine zs_ior rfl ?_
            refine zs_iload (i := 4) rfl rfl ?_
            refine zs_iload (i := 7) rfl rfl ?_
            refine zs_iadd_r rfl ⟨by omega, by omega⟩ ?_
            show ZVV _ _ _ 142 _ _ _
            have hbit2 : zor (lv : Int) (zshl 1 (j : Int)) = ((lv ||| 1 <<< j : Nat) : Int) := by
              rw [zshl_1 (by omega), zor_n (by omega) (zone_lt (by omega))]
            rw [hbit2]
            have hlv2 : lv ||| 1 <<< j < 256 := Nat.or_lt_two_pow (n := 8) hlv (by rw [Nat.one_shiftLeft]; exact Nat.pow_lt_pow_right (by decide) (by omega))
            have hm4 : zWF g p (mput G p j) := hS.put j (by omega)
            refine zs_callS (host := "") rfl kX6_43 sX6_tryFrom (hrec (p + 1) (lv ||| 1 <<< j) (sf + tMore (zTL g) (g 6 0 2) (g 24 0) (fun c => if c = p then (j : Int) else g 18 2 c) p j)) [ZR 6 0, ZR 1 0, ZI ((p + 1 : Nat) : Int), ZI ((lv ||| 1 <<< j : Nat) : Int), ZI (sf + tMore (zTL g) (g 6 0 2) (g 24 0) (fun c => if c = p then (j : Int) else g 18 2 c) p j)] [] rfl (zroom_of (by omega)) rfl (Nat.le_of_ble_eq_true rfl) ⟨rfl, ⟨⟨hL2, hH2⟩, by omega, hlv2, hf2, hb2⟩, by rw [hm4.1 2 (by decide) (by decide) (by decide) (by decide) (by decide) (by decide) (by decide)]; omega⟩ (fun r_142 g_142 hq_142 => ?_)
            obtain ⟨hr_142, hW_142, hLH_142, hA_142⟩ := hq_142
            rw [hr_142]
            have hW2 := hm4.tr hW_142 (Nat.le_succ p)
            show ZVV _ _ _ 145 _ [] g_142
            refine zs_iinc_r (i := 6) rfl rfl (by intro r x hr; have hr2 : r = 5 := (by omega); subst hr2; intro z; cases z) ⟨by omega, by omega⟩ ?_
            show ZVV _ _ _ _ [ZR 6 0, ZR 1 0, ZI (p : Int), ZI (lv : Int), ZI sf, ZR 2 2, ZI ((j : Int) + 1), ZI (tMore (zTL g) (g 6 0 2) (g 24 0) (fun c => if c = p then (j : Int) else g 18 2 c) p j)] _ _
            refine zs_goto 64 rfl (by omega) ?_
            have hz : ¬ lv.testBit j = true := by
              intro z
              rw [hbit, if_pos z] at hc_80; omega
            refine ih (j + 1) g_142 _ (by intro y h; cases h) (by omega) hW2 hLH_142 ?_ (fun G' a b c => hq G' a b ?_)
            · have := congrArg (fun z => z.1) hA_142
              have h7 := tTry_rng (t := zTL (mput G p j)) (byp := (mput G p j) 6 0 2) (start := (mput G p j) 24 0) rem (p + 1) ((mput G p j) 18 2) (lv ||| 1 <<< j) (sf + tMore (zTL g) (g 6 0 2) (g 24 0) (fun c => if c = p then (j : Int) else g 18 2 c) p j) (AW (mput G p j)) (by omega) hf2.1
              have h8 : g_142 6 0 3 = (tTry (zTL (mput G p j)) ((mput G p j) 6 0 2) ((mput G p j) 24 0) rem (p + 1) ((mput G p j) 18 2) (lv ||| 1 <<< j) (sf + tMore (zTL g) (g 6 0 2) (g 24 0) (fun c => if c = p then (j : Int) else g 18 2 c) p j) (AW (mput G p j))).1 := this
              have h9 : (AW (mput G p j)).1 ≤ 1000 := hf2.2
              rw [h8]
              exact ⟨h7.1, Int.le_trans h7.2 h9⟩
            · rw [zfold_s, if_neg hz]
              have e4 : tTry (zTL (mput G p j)) ((mput G p j) 6 0 2) ((mput G p j) 24 0) rem (p + 1) ((mput G p j) 18 2) (lv ||| 1 <<< j) (sf + tMore (zTL g) (g 6 0 2) (g 24 0) (fun c => if c = p then (j : Int) else g 18 2 c) p j) (AW (mput G p j)) = tTry (zTL g) (g 6 0 2) (g 24 0) rem (p + 1) (fun c => if c = p then (j : Int) else g 18 2 c) (lv ||| 1 <<< j) (sf + tMore (zTL g) (g 6 0 2) (g 24 0) (fun c => if c = p then (j : Int) else g 18 2 c) p j) (AW G) := by
                rw [hm4.town, hm4.2.2.2 0 2 (by decide), hm4.1 24 (by decide) (by decide) (by decide) (by decide) (by decide) (by decide) (by decide), tTry_set, mput_18, AW_of (g := G) (by rw [mput_nf _ _ _ (by decide)]) (by rw [mput_nf _ _ _ (by decide)]) (mput_nf _ _ _ (by decide))]
                exact tTry_cong rem (p + 1) _ _ _ _ _ (by show g 2 2 3 ≤ _; omega) (fun c hc => hho c (by omega))
              rw [← e4, ← hA_142]
              exact c
          · refine zs_iconst (n := 0) rfl ⟨by omega, by omega⟩ ?_
            refine zs_goto 124 rfl (by omega) ?_
            have hmore : tMore (zTL g) (g 6 0 2) (g 24 0) (fun c => if c = p then (j : Int) else g 18 2 c) p j = 0 := by unfold tMore; rw [if_pos (by omega), if_pos (by omega)]
            rw [← hmore]
            show ZVV _ _ _ _ _ [ZI (tMore (zTL g) (g 6 0 2) (g 24 0) (fun c => if c = p then (j : Int) else g 18 2 c) p j)] _
            refine zs_istore (i := 7) rfl (by decide) (by intro r x hr; have hr2 : r = 6 := (by omega); subst hr2; intro z; cases z) ?_
            show ZVV _ _ _ _ [ZR 6 0, ZR 1 0, ZI (p : Int), ZI (lv : Int), ZI sf, ZR 2 2, ZI (j : Int), ZI (tMore (zTL g) (g 6 0 2) (g 24 0) (fun c => if c = p then (j : Int) else g 18 2 c) p j)] _ _
            refine zs_aload_n (j := 0) (i := 0) rfl rfl rfl ?_
            refine zs_aload_n (j := 1) (i := 1) rfl rfl rfl ?_
            refine zs_iload_n (j := 2) (i := 2) rfl rfl rfl ?_
            refine zs_iconst (n := 1) rfl ⟨by omega, by omega⟩ ?_
            show ZVV _ _ _ 130 _ _ _
            refine zs_iadd_r rfl ⟨by omega, by omega⟩ ?_
            refine zs_iload_n (j := 3) (i := 3) rfl rfl rfl ?_
            refine zs_iconst (n := 1) rfl ⟨by omega, by omega⟩ ?_
            refine zs_iload (i := 6) rfl rfl ?_
            refine zs_ishl rfl ?_
            refine zs_ior rfl ?_
            refine zs_iload (i := 4) rfl rfl ?_
            refine zs_iload (i := 7) rfl rfl ?_
            show ZVV _ _ _ 141 _ _ _
            refine zs_iadd_r rfl ⟨by omega, by omega⟩ ?_
            have hbit2 : zor (lv : Int) (zshl 1 (j : Int)) = ((lv ||| 1 <<< j : Nat) : Int) := by
              rw [zshl_1 (by omega), zor_n (by omega) (zone_lt (by omega))]
            rw [hbit2]
            have hlv2 : lv ||| 1 <<< j < 256 := Nat.or_lt_two_pow (n := 8) hlv (by rw [Nat.one_shiftLeft]; exact Nat.pow_lt_pow_right (by decide) (by omega))
            have hm4 : zWF g p (mput G p j) := hS.put j (by omega)
            refine zs_callS (host := "") rfl kX6_43 sX6_tryFrom (hrec (p + 1) (lv ||| 1 <<< j) (sf + tMore (zTL g) (g 6 0 2) (g 24 0) (fun c => if c = p then (j : Int) else g 18 2 c) p j)) [ZR 6 0, ZR 1 0, ZI ((p + 1 : Nat) : Int), ZI ((lv ||| 1 <<< j : Nat) : Int), ZI (sf + tMore (zTL g) (g 6 0 2) (g 24 0) (fun c => if c = p then (j : Int) else g 18 2 c) p j)] [] rfl (zroom_of (by omega)) rfl (Nat.le_of_ble_eq_true rfl) ⟨rfl, ⟨⟨hL2, hH2⟩, by omega, hlv2, hf2, hb2⟩, by rw [hm4.1 2 (by decide) (by decide) (by decide) (by decide) (by decide) (by decide) (by decide)]; omega⟩ (fun r_142 g_142 hq_142 => ?_)
            obtain ⟨hr_142, hW_142, hLH_142, hA_142⟩ := hq_142
            rw [hr_142]
            have hW2 := hm4.tr hW_142 (Nat.le_succ p)
            show ZVV _ _ _ 145 _ [] g_142
            refine zs_iinc_r (i := 6) rfl rfl (by intro r x hr; have hr2 : r = 5 := (by omega); subst hr2; intro z; cases z) ⟨by omega, by omega⟩ ?_
            show ZVV _ _ _ _ [ZR 6 0, ZR 1 0, ZI (p : Int), ZI (lv : Int), ZI sf, ZR 2 2, ZI ((j : Int) + 1), ZI (tMore (zTL g) (g 6 0 2) (g 24 0) (fun c => if c = p then (j : Int) else g 18 2 c) p j)] _ _
            refine zs_goto 64 rfl (by omega) ?_
            have hz : ¬ lv.testBit j = true := by
              intro z
              rw [hbit, if_pos z] at hc_80; omega
            refine ih (j + 1) g_142 _ (by intro y h; cases h) (by omega) hW2 hLH_142 ?_ (fun G' a b c => hq G' a b ?_)
            · have := congrArg (fun z => z.1) hA_142
              have h7 := tTry_rng (t := zTL (mput G p j)) (byp := (mput G p j) 6 0 2) (start := (mput G p j) 24 0) rem (p + 1) ((mput G p j) 18 2) (lv ||| 1 <<< j) (sf + tMore (zTL g) (g 6 0 2) (g 24 0) (fun c => if c = p then (j : Int) else g 18 2 c) p j) (AW (mput G p j)) (by omega) hf2.1
              have h8 : g_142 6 0 3 = (tTry (zTL (mput G p j)) ((mput G p j) 6 0 2) ((mput G p j) 24 0) rem (p + 1) ((mput G p j) 18 2) (lv ||| 1 <<< j) (sf + tMore (zTL g) (g 6 0 2) (g 24 0) (fun c => if c = p then (j : Int) else g 18 2 c) p j) (AW (mput G p j))).1 := this
              have h9 : (AW (mput G p j)).1 ≤ 1000 := hf2.2
              rw [h8]
              exact ⟨h7.1, Int.le_trans h7.2 h9⟩
            · rw [zfold_s, if_neg hz]
              have e4 : tTry (zTL (mput G p j)) ((mput G p j) 6 0 2) ((mput G p j) 24 0) rem (p + 1) ((mput G p j) 18 2) (lv ||| 1 <<< j) (sf + tMore (zTL g) (g 6 0 2) (g 24 0) (fun c => if c = p then (j : Int) else g 18 2 c) p j) (AW (mput G p j)) = tTry (zTL g) (g 6 0 2) (g 24 0) rem (p + 1) (fun c => if c = p then (j : Int) else g 18 2 c) (lv ||| 1 <<< j) (sf + tMore (zTL g) (g 6 0 2) (g 24 0) (fun c => if c = p then (j : Int) else g 18 2 c) p j) (AW G) := by
                rw [hm4.town, hm4.2.2.2 0 2 (by decide), hm4.1 24 (by decide) (by decide) (by decide) (by decide) (by decide) (by decide) (by decide), tTry_set, mput_18, AW_of (g := G) (by rw [mput_nf _ _ _ (by decide)]) (by rw [mput_nf _ _ _ (by decide)]) (mput_nf _ _ _ (by decide))]
                exact tTry_cong rem (p + 1) _ _ _ _ _ (by show g 2 2 3 ≤ _; omega) (fun c hc => hho c (by omega))
              rw [← e4, ← hA_142]
              exact c
        · refine zs_aload (i := 5) rfl rfl ?_
          refine zs_iload_n (j := 2) (i := 2) rfl rfl rfl ?_
          refine zs_callV (host := "") rfl kX6_57 vX2_likePairsBelow (c_X2_likePairsBelow 2 (p : Int)) [ZI (p : Int)] [] rfl (zroom_of (by omega)) rfl (Nat.le_of_ble_eq_true rfl) ⟨rfl, hL2.1, (by rw [mput_nf _ _ _ (by decide), e2]; exact ⟨by omega, by omega⟩ : 0 ≤ (p : Int) ∧ (p : Int) < (mput G p j) 2 2 3), (by rw [mput_18]; show 0 ≤ (if p = p then (j : Int) else _); rw [if_pos rfl]; omega)⟩ (fun r_102 g_102 hq_102 => ?_)
          obtain ⟨hr_102, hg_102⟩ := hq_102
          have hval : zlpb ((mput G p j) 2 2 0) ((mput G p j) 2 2 1) ((mput G p j) 17 2) ((mput G p j) 18 2) ((p : Int)).toNat = zlpb (tn (zTL g)) (tsh (zTL g)) (tsr (zTL g)) (fun c => if c = p then (j : Int) else g 18 2 c) p := by
            rw [mput_nf _ _ _ (show 2 ≠ 18 by decide), mput_nf _ _ _ (show 17 ≠ 18 by decide), e2, e17, mput_18]
            exact zlpb_cong (fun c hc => hho c hc)
          have hmore : tMore (zTL g) (g 6 0 2) (g 24 0) (fun c => if c = p then (j : Int) else g 18 2 c) p j = zlpb (tn (zTL g)) (tsh (zTL g)) (tsr (zTL g)) (fun c => if c = p then (j : Int) else g 18 2 c) p := by
            unfold tMore; rw [if_neg hc_96]
          rw [hr_102, hval, ← hmore, hg_102]
          show ZVV _ _ _ 105 _ [ZI (tMore (zTL g) (g 6 0 2) (g 24 0) (fun c => if c = p then (j : Int) else g 18 2 c) p j)] (mput G p (j : Int))
          refine zs_goto 124 rfl (by omega) ?_
          skip
          refine zs_istore (i := 7) rfl (by decide) (by intro r x hr; have hr2 : r = 6 := (by omega); subst hr2; intro z; cases z) ?_
          show ZVV _ _ _ _ [ZR 6 0, ZR 1 0, ZI (p : Int), ZI (lv : Int), ZI sf, ZR 2 2, ZI (j : Int), ZI (tMore (zTL g) (g 6 0 2) (g 24 0) (fun c => if c = p then (j : Int) else g 18 2 c) p j)] _ _
          refine zs_aload_n (j := 0) (i := 0) rfl rfl rfl ?_
          refine zs_aload_n (j := 1) (i := 1) rfl rfl rfl ?_
          show ZVV _ _ _ 128 _ _ _
          refine zs_iload_n (j := 2) (i := 2) rfl rfl rfl ?_
          refine zs_iconst (n := 1) rfl ⟨by omega, by omega⟩ ?_
          refine zs_iadd_r rfl ⟨by omega, by omega⟩ ?_
          refine zs_iload_n (j := 3) (i := 3) rfl rfl rfl ?_
          refine zs_iconst (n := 1) rfl ⟨by omega, by omega⟩ ?_
          refine zs_iload (i := 6) rfl rfl ?_
          refine zs_ishl rfl ?_
          refine zs_ior rfl ?_
          show ZVV _ _ _ 137 _ _ _
          refine zs_iload (i := 4) rfl rfl ?_
          refine zs_iload (i := 7) rfl rfl ?_
          refine zs_iadd_r rfl ⟨by omega, by omega⟩ ?_
          have hbit2 : zor (lv : Int) (zshl 1 (j : Int)) = ((lv ||| 1 <<< j : Nat) : Int) := by
            rw [zshl_1 (by omega), zor_n (by omega) (zone_lt (by omega))]
          rw [hbit2]
          have hlv2 : lv ||| 1 <<< j < 256 := Nat.or_lt_two_pow (n := 8) hlv (by rw [Nat.one_shiftLeft]; exact Nat.pow_lt_pow_right (by decide) (by omega))
          have hm4 : zWF g p (mput G p j) := hS.put j (by omega)
          refine zs_callS (host := "") rfl kX6_43 sX6_tryFrom (hrec (p + 1) (lv ||| 1 <<< j) (sf + tMore (zTL g) (g 6 0 2) (g 24 0) (fun c => if c = p then (j : Int) else g 18 2 c) p j)) [ZR 6 0, ZR 1 0, ZI ((p + 1 : Nat) : Int), ZI ((lv ||| 1 <<< j : Nat) : Int), ZI (sf + tMore (zTL g) (g 6 0 2) (g 24 0) (fun c => if c = p then (j : Int) else g 18 2 c) p j)] [] rfl (zroom_of (by omega)) rfl (Nat.le_of_ble_eq_true rfl) ⟨rfl, ⟨⟨hL2, hH2⟩, by omega, hlv2, hf2, hb2⟩, by rw [hm4.1 2 (by decide) (by decide) (by decide) (by decide) (by decide) (by decide) (by decide)]; omega⟩ (fun r_142 g_142 hq_142 => ?_)
          obtain ⟨hr_142, hW_142, hLH_142, hA_142⟩ := hq_142
          rw [hr_142]
          have hW2 := hm4.tr hW_142 (Nat.le_succ p)
          show ZVV _ _ _ 145 _ [] g_142
          refine zs_iinc_r (i := 6) rfl rfl (by intro r x hr; have hr2 : r = 5 := (by omega); subst hr2; intro z; cases z) ⟨by omega, by omega⟩ ?_
          show ZVV _ _ _ _ [ZR 6 0, ZR 1 0, ZI (p : Int), ZI (lv : Int), ZI sf, ZR 2 2, ZI ((j : Int) + 1), ZI (tMore (zTL g) (g 6 0 2) (g 24 0) (fun c => if c = p then (j : Int) else g 18 2 c) p j)] _ _
          refine zs_goto 64 rfl (by omega) ?_
          have hz : ¬ lv.testBit j = true := by
            intro z
            rw [hbit, if_pos z] at hc_80; omega
          refine ih (j + 1) g_142 _ (by intro y h; cases h) (by omega) hW2 hLH_142 ?_ (fun G' a b c => hq G' a b ?_)
          · have := congrArg (fun z => z.1) hA_142
            have h7 := tTry_rng (t := zTL (mput G p j)) (byp := (mput G p j) 6 0 2) (start := (mput G p j) 24 0) rem (p + 1) ((mput G p j) 18 2) (lv ||| 1 <<< j) (sf + tMore (zTL g) (g 6 0 2) (g 24 0) (fun c => if c = p then (j : Int) else g 18 2 c) p j) (AW (mput G p j)) (by omega) hf2.1
            have h8 : g_142 6 0 3 = (tTry (zTL (mput G p j)) ((mput G p j) 6 0 2) ((mput G p j) 24 0) rem (p + 1) ((mput G p j) 18 2) (lv ||| 1 <<< j) (sf + tMore (zTL g) (g 6 0 2) (g 24 0) (fun c => if c = p then (j : Int) else g 18 2 c) p j) (AW (mput G p j))).1 := this
            have h9 : (AW (mput G p j)).1 ≤ 1000 := hf2.2
            rw [h8]
            exact ⟨h7.1, Int.le_trans h7.2 h9⟩
          · rw [zfold_s, if_neg hz]
            have e4 : tTry (zTL (mput G p j)) ((mput G p j) 6 0 2) ((mput G p j) 24 0) rem (p + 1) ((mput G p j) 18 2) (lv ||| 1 <<< j) (sf + tMore (zTL g) (g 6 0 2) (g 24 0) (fun c => if c = p then (j : Int) else g 18 2 c) p j) (AW (mput G p j)) = tTry (zTL g) (g 6 0 2) (g 24 0) rem (p + 1) (fun c => if c = p then (j : Int) else g 18 2 c) (lv ||| 1 <<< j) (sf + tMore (zTL g) (g 6 0 2) (g 24 0) (fun c => if c = p then (j : Int) else g 18 2 c) p j) (AW G) := by
              rw [hm4.town, hm4.2.2.2 0 2 (by decide), hm4.1 24 (by decide) (by decide) (by decide) (by decide) (by decide) (by decide) (by decide), tTry_set, mput_18, AW_of (g := G) (by rw [mput_nf _ _ _ (by decide)]) (by rw [mput_nf _ _ _ (by decide)]) (mput_nf _ _ _ (by decide))]
              exact tTry_cong rem (p + 1) _ _ _ _ _ (by show g 2 2 3 ≤ _; omega) (fun c hc => hho c (by omega))
            rw [← e4, ← hA_142]
            exact c
theorem c_X6_trys (rem : Nat) (hrec : ∀ (p lv : Nat) (sf : Int), ZC mX6_tryFrom (5 + rem) (fun av g => av = [ZR 6 0, ZR 1 0, ZI (p : Int), ZI (lv : Int), ZI sf] ∧ TPRE g p lv sf ∧ (p : Int) + rem = g 2 2 3) (fun _ g r g' => TPOST g rem p lv sf r g')) (p lv : Nat) (sf : Int) : ZC mX6_tryFrom (5 + (rem + 1)) (fun av g => av = [ZR 6 0, ZR 1 0, ZI (p : Int), ZI (lv : Int), ZI sf] ∧ TPRE g p lv sf ∧ (p : Int) + ((rem + 1 : Nat) : Int) = g 2 2 3) (fun _ g r g' => TPOST g (rem + 1) p lv sf r g') := by
  refine zc_of gX6_tryFrom (fun av g hp => by obtain ⟨rfl, -⟩ := hp; exact Nat.le_of_ble_eq_true rfl) (fun Y av g hwf hrg hp hok => ?_)
  obtain ⟨rfl, hp⟩ := hp
  show ZVV _ _ _ 0 [ZR 6 0, ZR 1 0, ZI (p : Int), ZI (lv : Int), ZI sf, ZX 99, ZX 99, ZX 99] [] _
  rw [show 5 + (rem + 1) = 6 + rem by omega]
  have hn6 := hp.1.1.1.1.2.2.1
  have hn8 := hp.1.1.1.1.1
  have hpp := hp.2
  refine zs_aload_n (j := 1) (i := 1) rfl rfl rfl ?_
  refine zs_getfield (f := 1) (k := 0) rfl rfl (trivial) ?_
  show ZVV _ _ _ _ _ (ZR 2 2 :: _) _
  refine zs_astore (i := 5) rfl (by decide) (by intro r x hr; have hr2 : r = 4 := (by omega); subst hr2; intro z; cases z) ?_
  show ZVV _ _ _ _ [ZR 6 0, ZR 1 0, ZI (p : Int), ZI (lv : Int), ZI sf, ZR 2 2, ZX 99, ZX 99] _ _
  refine zs_iload (i := 4) rfl rfl ?_
  refine zs_aload_n (j := 0) (i := 0) rfl rfl rfl ?_
  refine zs_getfield (f := 6) (k := 3) rfl rfl (trivial) ?_
  show ZVV _ _ _ _ _ (ZI (g 6 0 3) :: _) _
  refine zs_icmp_lt 16 rfl (by omega) (fun hc_12 => ?_) (fun hc_12 => ?_)
  · refine zs_iload_n (j := 2) (i := 2) rfl rfl rfl ?_
    refine zs_aload (i := 5) rfl rfl ?_
    refine zs_getfield (f := 2) (k := 3) rfl rfl (trivial) ?_
    show ZVV _ _ _ _ _ (ZI (g 2 2 3) :: _) _
    refine zs_icmp_ge 31 rfl (by omega) (fun hc_22 => ?_) (fun hc_22 => ?_)
    · exfalso; omega
    · refine zs_iload_n (j := 2) (i := 2) rfl rfl rfl ?_
      refine zs_bipush (n := 6) rfl ⟨by omega, by omega⟩ ?_
      refine zs_icmp_lt 61 rfl (by omega) (fun hc_28 => ?_) (fun hc_28 => ?_)
      · refine zs_iconst (n := 0) rfl ⟨by omega, by omega⟩ ?_
        refine zs_istore (i := 6) rfl (by decide) (by intro r x hr; have hr2 : r = 5 := (by omega); subst hr2; intro z; cases z) ?_
        show ZVV _ _ _ _ [ZR 6 0, ZR 1 0, ZI (p : Int), ZI (lv : Int), ZI sf, ZR 2 2, ZI 0, ZX 99] _ _
        refine l_X6_try hp.1.1 hp.1.2.1 hp.1.2.2.1 hp.1.2.2.2.2 hp.2 hrec (g 2 2 0).toNat 0 g _ (by intro y h; cases h) (by omega) (zWF.rf g p) hp.1.1 hp.1.2.2.2.1 (fun G' a b c => ⟨rfl, a, b, ?_⟩)
        rw [c]
        show _ = tTry _ _ _ (rem + 1) _ _ _ _ _
        rw [tTry_s, if_neg (show ¬ (AW g).1 ≤ sf from by show ¬ g 6 0 3 ≤ sf; omega)]
        rfl
      · exfalso; omega
  · exact zs_return rfl rfl (⟨rfl, zWF.rf g p, hp.1.1, by show AW g = _; unfold tTry; rw [if_pos (show (AW g).1 ≤ sf from by show g 6 0 3 ≤ sf; omega)]⟩)

theorem c_X6_try : ∀ (rem p lv : Nat) (sf : Int), ZC mX6_tryFrom (5 + rem) (fun av g => av = [ZR 6 0, ZR 1 0, ZI (p : Int), ZI (lv : Int), ZI sf] ∧ TPRE g p lv sf ∧ (p : Int) + rem = g 2 2 3) (fun _ g r g' => TPOST g rem p lv sf r g') := by
  intro rem
  induction rem with
  | zero => intro p lv sf; exact zc_weaken (c_X6_try0 p lv sf) (fun av g h => ⟨h.1, h.2.1, by have := h.2.2; omega⟩) (fun av g r g' _ h => h)
  | succ rem ih => intro p lv sf; exact c_X6_trys rem ih p lv sf
theorem lok_same24 {G M : ZG} (hL : LOK G) (h : ∀ f, f ≠ 6 → f ≠ 24 → M f = G f) : LOK M := by
  unfold LOK SOK HOLD CK zwC at *
  rw [h 1 (by decide) (by decide), h 2 (by decide) (by decide), h 3 (by decide) (by decide), h 20 (by decide) (by decide), h 12 (by decide) (by decide), h 13 (by decide) (by decide), h 14 (by decide) (by decide), h 15 (by decide) (by decide), h 16 (by decide) (by decide), h 17 (by decide) (by decide), h 18 (by decide) (by decide)]
  exact hL
/-- the memory with which the trying begins -/
def mway (g : ZG) (b : Int) : ZG := zcpy (zup (zup g 6 0 2 b) 6 0 3 1000) 18 2 24 0 0 0 6
def zWG (g G : ZG) : Prop := (∀ f, f ≠ 1 → f ≠ 6 → f ≠ 11 → f ≠ 12 → f ≠ 13 → f ≠ 18 → f ≠ 23 → f ≠ 24 → G f = g f) ∧ (∀ i k, k ≠ 3 → k ≠ 4 → k ≠ 5 → G 1 i k = g 1 i k) ∧ ∀ i k, ¬ (i = 2 ∧ k < 6) → G 18 i k = g 18 i k
theorem zWG.of {g G : ZG} {b : Int} (h : zWF (mway g b) 0 G) : zWG g G := ⟨fun f h1 h2 h3 h4 h5 h6 h7 h8 => by
  rw [h.1 f h1 h2 h3 h4 h5 h6 h7]; unfold mway
  funext i; rw [zcpy_off _ _ _ _ _ _ _ _ _ _ (fun z => h8 z.1), zup_nf _ _ _ _ h2, zup_nf _ _ _ _ h2], fun i k h1 h2 h3 => by
  rw [h.2.1 i k h1 h2 h3]; unfold mway
  rw [zcpy_off _ _ _ _ _ _ _ _ _ _ (fun z => absurd z.1 (by decide)), zup_nf _ _ _ _ (by decide), zup_nf _ _ _ _ (by decide)], fun i k hk => by
  rw [h.2.2.1 i k (fun z => hk ⟨z.1, z.2.2⟩)]; unfold mway
  rw [zcpy_off _ _ _ _ _ _ _ _ _ _ (fun z => absurd z.1 (by decide)), zup_nf _ _ _ _ (by decide), zup_nf _ _ _ _ (by decide)]⟩
theorem c_X6_find (b : Int) : ZC mX6_find 12 (fun av g => av = [ZR 6 0, ZR 1 0, ZI b] ∧ (LOK g ∧ LHH g) ∧ (0 ≤ b ∧ b ≤ 1)) (fun _ g r g' => r = some (ZI (if g' 6 0 3 = 1000 then -5 else g' 6 0 3)) ∧ zWG g g' ∧ (LOK g' ∧ LHH g') ∧ AW g' = tTry (zTL (mway g b)) ((mway g b) 6 0 2) ((mway g b) 24 0) (g 2 2 3).toNat 0 ((mway g b) 18 2) 0 0 (AW (mway g b))) := by
  refine zc_of gX6_find (fun av g hp => by obtain ⟨rfl, -⟩ := hp; exact Nat.le_of_ble_eq_true rfl) (fun Y av g hwf hrg hp hok => ?_)
  obtain ⟨rfl, hp⟩ := hp
  show ZVV _ _ _ 0 [ZR 6 0, ZR 1 0, ZI b] [] _
  have hn6 := hp.1.1.1.2.2.1
  refine zs_aload_n (j := 0) (i := 0) rfl rfl rfl ?_
  refine zs_iload_n (j := 2) (i := 2) rfl rfl rfl ?_
  refine zs_putfield (f := 6) (k := 2) (x := b) rfl rfl (zpvZ (x := b) ⟨by omega, by omega⟩) ?_
  refine zs_aload_n (j := 0) (i := 0) rfl rfl rfl ?_
  refine zs_sipush (n := 1000) rfl ⟨by omega, by omega⟩ ?_
  refine zs_putfield (f := 6) (k := 3) (x := 1000) rfl rfl (rfl) ?_
  refine zs_aload_n (j := 1) (i := 1) rfl rfl rfl ?_
  show ZVV _ _ _ 13 _ _ _
  refine zs_getfield (f := 1) (k := 0) rfl rfl (trivial) ?_
  show ZVV _ _ _ _ _ (ZR 2 2 :: _) _
  refine zs_getfield (f := 2) (k := 7) rfl rfl (trivial) ?_
  show ZVV _ _ _ _ _ (ZR 18 2 :: _) _
  refine zs_iconst (n := 0) rfl ⟨by omega, by omega⟩ ?_
  refine zs_aload_n (j := 0) (i := 0) rfl rfl rfl ?_
  refine zs_getfield (f := 6) (k := 1) rfl rfl (trivial) ?_
  show ZVV _ _ _ _ _ (ZR 24 0 :: _) _
  refine zs_iconst (n := 0) rfl ⟨by omega, by omega⟩ ?_
  refine zs_bipush (n := 6) rfl ⟨by omega, by omega⟩ ?_
  refine zs_cpi (n0 := 6) (n1 := 6) rfl kX6_37 (zroom_of (by omega)) (Nat.le_of_ble_eq_true rfl) rfl rfl (by omega) (by omega) (by omega) (by omega) (by omega) ?_
  show ZVV _ _ _ _ _ _ (zcpy (zup (zup g 6 0 2 b) 6 0 3 1000) 18 2 24 0 0 0 6)
  show ZVV _ _ _ 30 _ _ _
  refine zs_aload_n (j := 0) (i := 0) rfl rfl rfl ?_
  refine zs_aload_n (j := 1) (i := 1) rfl rfl rfl ?_
  refine zs_iconst (n := 0) rfl ⟨by omega, by omega⟩ ?_
  refine zs_iconst (n := 0) rfl ⟨by omega, by omega⟩ ?_
  refine zs_iconst (n := 0) rfl ⟨by omega, by omega⟩ ?_
  have hL1 : LOK (zcpy (zup (zup g 6 0 2 b) 6 0 3 1000) 18 2 24 0 0 0 6) := lok_same24 hp.1.1 (fun f h6 h24 => by
    funext i; rw [zcpy_off _ _ _ _ _ _ _ _ _ _ (fun z => h24 z.1), zup_nf _ _ _ _ h6, zup_nf _ _ _ _ h6])
  have e2 : (zcpy (zup (zup g 6 0 2 b) 6 0 3 1000) 18 2 24 0 0 0 6) 2 = g 2 := by funext i; rw [zcpy_off _ _ _ _ _ _ _ _ _ _ (fun z => absurd z.1 (by decide)), zup_nf _ _ _ _ (by decide), zup_nf _ _ _ _ (by decide)]
  have e18 : (zcpy (zup (zup g 6 0 2 b) 6 0 3 1000) 18 2 24 0 0 0 6) 18 = g 18 := by funext i; rw [zcpy_off _ _ _ _ _ _ _ _ _ _ (fun z => absurd z.1 (by decide)), zup_nf _ _ _ _ (by decide), zup_nf _ _ _ _ (by decide)]
  have e63 : (zcpy (zup (zup g 6 0 2 b) 6 0 3 1000) 18 2 24 0 0 0 6) 6 0 3 = 1000 := by rw [zcpy_off _ _ _ _ _ _ _ _ _ _ (fun z => absurd z.1 (by decide)), zup_eq]
  have e62 : (zcpy (zup (zup g 6 0 2 b) 6 0 3 1000) 18 2 24 0 0 0 6) 6 0 2 = b := by rw [zcpy_off _ _ _ _ _ _ _ _ _ _ (fun z => absurd z.1 (by decide)), zup_nk _ _ _ _ _ _ (by decide), zup_eq]
  have hr : ((0 : Nat) : Int) + ((g 2 2 3).toNat : Int) = (zcpy (zup (zup g 6 0 2 b) 6 0 3 1000) 18 2 24 0 0 0 6) 2 2 3 := by rw [e2]; omega
  refine zs_callS (host := "") rfl kX6_43 sX6_tryFrom (c_X6_try (g 2 2 3).toNat 0 0 0) [ZR 6 0, ZR 1 0, ZI ((0 : Nat) : Int), ZI ((0 : Nat) : Int), ZI 0] [] rfl (zroom_of (by omega)) rfl (Nat.le_of_ble_eq_true rfl) ⟨rfl, ⟨⟨hL1, fun q hq => by rw [e2] at hq; rw [e18]; exact hp.1.2 q hq⟩, by omega, by decide, by rw [e63]; omega, by rw [e62]; omega⟩, hr⟩ (fun r_35 g_35 hq_35 => ?_)
  obtain ⟨hr_35, hW_35, hLH_35, hA_35⟩ := hq_35
  rw [hr_35]
  have hrg := tTry_rng (t := zTL (zcpy (zup (zup g 6 0 2 b) 6 0 3 1000) 18 2 24 0 0 0 6)) (byp := (zcpy (zup (zup g 6 0 2 b) 6 0 3 1000) 18 2 24 0 0 0 6) 6 0 2) (start := (zcpy (zup (zup g 6 0 2 b) 6 0 3 1000) 18 2 24 0 0 0 6) 24 0) (g 2 2 3).toNat 0 ((zcpy (zup (zup g 6 0 2 b) 6 0 3 1000) 18 2 24 0 0 0 6) 18 2) 0 0 (AW (zcpy (zup (zup g 6 0 2 b) 6 0 3 1000) 18 2 24 0 0 0 6)) (by omega) (by show 0 ≤ (zcpy (zup (zup g 6 0 2 b) 6 0 3 1000) 18 2 24 0 0 0 6) 6 0 3; rw [e63]; omega)
  have hf : g_35 6 0 3 = (tTry (zTL (zcpy (zup (zup g 6 0 2 b) 6 0 3 1000) 18 2 24 0 0 0 6)) ((zcpy (zup (zup g 6 0 2 b) 6 0 3 1000) 18 2 24 0 0 0 6) 6 0 2) ((zcpy (zup (zup g 6 0 2 b) 6 0 3 1000) 18 2 24 0 0 0 6) 24 0) (g 2 2 3).toNat 0 ((zcpy (zup (zup g 6 0 2 b) 6 0 3 1000) 18 2 24 0 0 0 6) 18 2) 0 0 (AW (zcpy (zup (zup g 6 0 2 b) 6 0 3 1000) 18 2 24 0 0 0 6))).1 := congrArg (fun z => z.1) hA_35
  show ZVV _ _ _ 38 _ [] g_35
  refine zs_aload_n (j := 0) (i := 0) rfl rfl rfl ?_
  refine zs_getfield (f := 6) (k := 3) rfl rfl (trivial) ?_
  show ZVV _ _ _ _ _ (ZI (g_35 6 0 3) :: _) _
  show ZVV _ _ _ 42 _ _ _
  refine zs_sipush (n := 1000) rfl ⟨by omega, by omega⟩ ?_
  refine zs_icmp_ne 53 rfl (by omega) (fun hc_45 => ?_) (fun hc_45 => ?_)
  · refine zs_aload_n (j := 0) (i := 0) rfl rfl rfl ?_
    refine zs_getfield (f := 6) (k := 3) rfl rfl (trivial) ?_
    show ZVV _ _ _ _ _ (ZI (g_35 6 0 3) :: _) _
    exact zs_ireturn rfl rfl (⟨by rw [if_neg hc_45], zWG.of hW_35, hLH_35, hA_35⟩)
  · refine zs_bipush (n := (-5)) rfl ⟨by omega, by omega⟩ ?_
    refine zs_goto 57 rfl (by omega) ?_
    exact zs_ireturn rfl rfl (⟨by rw [if_pos (Classical.not_not.mp hc_45)], zWG.of hW_35, hLH_35, hA_35⟩)

