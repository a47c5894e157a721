def zQ3 (g G : ZG) : Prop := ∀ f, f ≠ 43 → f ≠ 33 → G f = g f
theorem zQ3.rf (g : ZG) : zQ3 g g := fun _ _ _ => rfl
theorem zQ3.tr {a b c : ZG} (h : zQ3 a b) (k : zQ3 b c) : zQ3 a c := fun f h1 h2 => (k f h1 h2).trans (h f h1 h2)
theorem zP.q3 {g G : ZG} (h : zP g G) : zQ3 g G := fun f h1 _ => h f h1
theorem zQ3.up {g G : ZG} (h : zQ3 g G) (k : Nat) (v : Int) : zQ3 g (zup G 33 0 k v) := fun f h1 h2 => (zup_nf _ _ _ _ h2).trans (h f h1 h2)
theorem mfc_q {g G : ZG} (h : zQ3 g G) : mfc G = mfc g := by unfold mfc; rw [h 8 (by decide) (by decide)]
theorem mbh_q {g G : ZG} (h : zQ3 g G) : mbh G = mbh g := by unfold mbh; rw [h 8 (by decide) (by decide), h 35 (by decide) (by decide)]
theorem MCL.q {g G : ZG} (k : MCL g) (h : zQ3 g G) : MCL G := by
  unfold MCL
  rw [mfc_q h, mbh_q h, h 8 (by decide) (by decide), h 35 (by decide) (by decide), h 36 (by decide) (by decide), h 37 (by decide) (by decide), h 38 (by decide) (by decide), h 39 (by decide) (by decide), h 40 (by decide) (by decide)]
  exact k
theorem mSo_q {g G : ZG} (k : zQ3 g G) (fa : Nat → Int) (c : Nat) : mSo G fa c = mSo g fa c := by unfold mSo; rw [k 38 (by decide) (by decide), k 39 (by decide) (by decide), k 40 (by decide) (by decide)]
theorem mWs_q {g G : ZG} (k : zQ3 g G) (w : Int) (fa : Nat → Int) : mWs G w fa = mWs g w fa := by
  unfold mWs
  rw [mfc_q k, mbh_q k, k 36 (by decide) (by decide), k 37 (by decide) (by decide)]
  exact congrArg (fun z => zsum z _ _) (funext fun c => by rw [mSo_q k])
theorem mMin_q {g G : ZG} (h : zQ3 g G) (fa : Nat → Int) : ∀ (n k : Nat) (a : Int), mMin G fa n k a = mMin g fa n k a := by
  intro n
  induction n with
  | zero => intro k a; rfl
  | succ n ih => intro k a; unfold mMin; rw [ih, mSo_q h, h 36 (by decide) (by decide), h 37 (by decide) (by decide)]
theorem mWh_q {g G : ZG} (k : zQ3 g G) : mWh G = mWh g := by unfold mWh; rw [mfc_q k, mbh_q k, k 36 (by decide) (by decide)]
theorem mW_q {g G : ZG} (h : zQ3 g G) : mW G = mW g := by
  funext p s k hh f m
  unfold mW mWw
  rw [mWs_q h, mWs_q h, mMin_q h, mWh_q h, mfc_q h, mbh_q h]
theorem mT_q {g G : ZG} (h : zQ3 g G) : mT G = tSetH (mT g) (G 33 0) := by
  unfold mT
  rw [mW_q h, h 8 (by decide) (by decide), h 30 (by decide) (by decide), h 31 (by decide) (by decide), h 32 (by decide) (by decide)]
  rfl
theorem MOK.q {g G : ZG} (k : MOK g) (h : zQ3 g G) (hh : ∀ p : Nat, (p : Int) < g 8 0 2 → -1 ≤ G 33 0 p ∧ G 33 0 p < g 8 0 0) : MOK G := by
  obtain ⟨k1, k2, k3, k4, k5, k6, k7⟩ := k
  refine ⟨?_, ?_, ?_, ?_, ?_, k6.q h, ?_⟩
  · rw [h 8 (by decide) (by decide)]; exact k1
  · rw [h 8 (by decide) (by decide)]; exact k2
  · rw [h 8 (by decide) (by decide)]; exact k3
  · rw [h 8 (by decide) (by decide)]; exact k4
  · rw [h 8 (by decide) (by decide)]; exact k5
  · rw [h 8 (by decide) (by decide), h 32 (by decide) (by decide), h 30 (by decide) (by decide), h 31 (by decide) (by decide)]; exact fun p hp => ⟨hh p hp, (k7 p hp).2⟩
def mswp (G : ZG) (p q : Nat) : ZG := zup (zup G 33 0 p (G 33 0 q)) 33 0 q (G 33 0 p)
theorem mswp_f (G : ZG) (p q : Nat) {f : Nat} (h : f ≠ 33) : mswp G p q f = G f := by unfold mswp; rw [zup_nf _ _ _ _ h, zup_nf _ _ _ _ h]
theorem mswp_i (G : ZG) (p q : Nat) {i : Nat} (h : i ≠ 0) : mswp G p q 33 i = G 33 i := by unfold mswp; rw [zup_ni _ _ _ _ h, zup_ni _ _ _ _ h]
theorem mswp_33 (G : ZG) (p q : Nat) : mswp G p q 33 0 = fun c => if c = q then G 33 0 p else if c = p then G 33 0 q else G 33 0 c := by
  funext c
  unfold mswp zup
  by_cases h1 : c = q
  · subst h1; simp
  · by_cases h2 : c = p
    · subst h2; simp [h1]
    · simp [h1, h2]
theorem mswp_q (G : ZG) (p q : Nat) : zQ3 G (mswp G p q) := fun f _ h => mswp_f G p q h
theorem mswp_z {g G : ZG} (h : zP g G) (p q : Nat) : zP (mswp g p q) (mswp G p q) := by
  intro f hf
  by_cases h3 : f = 33
  · subst h3
    funext i
    by_cases hi : i = 0
    · subst hi; rw [mswp_33, mswp_33, h 33 (by decide)]
    · rw [mswp_i _ _ _ hi, mswp_i _ _ _ hi, h 33 (by decide)]
  · rw [mswp_f _ _ _ h3, mswp_f _ _ _ h3, h f hf]
theorem mswp_inv (g : ZG) (p q : Nat) : mswp (mswp g p q) p q = g := by
  funext f
  by_cases h3 : f = 33
  · subst h3
    funext i
    by_cases hi : i = 0
    · subst hi
      rw [mswp_33, mswp_33]
      funext c
      dsimp only
      by_cases c1 : c = q
      · subst c1
        by_cases c2 : p = c
        · subst c2; simp
        · simp [c2]
      · by_cases c2 : c = p
        · subst c2; simp [c1]
        · simp [c1, c2]
    · rw [mswp_i _ _ _ hi, mswp_i _ _ _ hi]
  · rw [mswp_f _ _ _ h3, mswp_f _ _ _ h3]
theorem mswp_T (g : ZG) (p q : Nat) : mT (mswp g p q) = tswap (mT g) p q := by rw [mT_q (mswp_q g p q), mswp_33]; rfl
theorem mswp_ok {g : ZG} (hm : MOK g) {p q : Nat} (hp : (p : Int) < g 8 0 2) (hq : (q : Int) < g 8 0 2) : MOK (mswp g p q) := hm.q (mswp_q g p q) (fun c hc => by
  rw [mswp_33]
  dsimp only
  split
  · exact (hm.2.2.2.2.2.2 p hp).1
  · split
    · exact (hm.2.2.2.2.2.2 q hq).1
    · exact (hm.2.2.2.2.2.2 c hc).1)
theorem c_X8_changes (p q : Int) : ZC mX8_changes 1 (fun av g => av = [ZR 8 0, ZI p, ZI q] ∧ (0 ≤ p ∧ p < 6) ∧ (0 ≤ q ∧ q < 6)) (fun _ g r g' => r = none ∧ g' = mswp g p.toNat q.toNat) := by
  refine zc_of gX8_changes (fun av g hp => by obtain ⟨rfl, -⟩ := hp; exact Nat.le_of_ble_eq_true rfl) (fun Y av g hwf hrg hp hok => ?_)
  obtain ⟨rfl, hp⟩ := hp
  show ZVV _ _ _ 0 [ZR 8 0, ZI p, ZI q, ZX 99] [] _
  refine zs_aload_n (j := 0) (i := 0) rfl rfl rfl ?_
  refine zs_getfield (f := 8) (k := 7) rfl rfl (trivial) ?_
  show ZVV _ _ _ _ _ (ZR 33 0 :: _) _
  refine zs_iload_n (j := 1) (i := 1) rfl rfl rfl ?_
  refine zs_iald (n := 6) rfl rfl (by omega) (by omega) ?_
  refine zs_istore_n (j := 3) (i := 3) rfl rfl (by decide) (by intro r x hr; have hr2 : r = 2 := (by omega); subst hr2; intro z; cases z) ?_
  show ZVV _ _ _ _ [ZR 8 0, ZI p, ZI q, ZI (g 33 0 p.toNat)] _ _
  refine zs_aload_n (j := 0) (i := 0) rfl rfl rfl ?_
  refine zs_getfield (f := 8) (k := 7) rfl rfl (trivial) ?_
  show ZVV _ _ _ _ _ (ZR 33 0 :: _) _
  show ZVV _ _ _ 11 _ _ _
  refine zs_iload_n (j := 1) (i := 1) rfl rfl rfl ?_
  refine zs_aload_n (j := 0) (i := 0) rfl rfl rfl ?_
  refine zs_getfield (f := 8) (k := 7) rfl rfl (trivial) ?_
  show ZVV _ _ _ _ _ (ZR 33 0 :: _) _
  refine zs_iload_n (j := 2) (i := 2) rfl rfl rfl ?_
  refine zs_iald (n := 6) rfl rfl (by omega) (by omega) ?_
  refine zs_iast (n := 6) rfl rfl (by omega) (by omega) ?_
  refine zs_aload_n (j := 0) (i := 0) rfl rfl rfl ?_
  refine zs_getfield (f := 8) (k := 7) rfl rfl (trivial) ?_
  show ZVV _ _ _ _ _ (ZR 33 0 :: _) _
  show ZVV _ _ _ 23 _ _ _
  refine zs_iload_n (j := 2) (i := 2) rfl rfl rfl ?_
  refine zs_iload_n (j := 3) (i := 3) rfl rfl rfl ?_
  refine zs_iast (n := 6) rfl rfl (by omega) (by omega) ?_
  exact zs_return rfl rfl (⟨rfl, rfl⟩)

theorem l_X8_partner {Y : ZW} {Q : Option ZV → ZG → Prop} {g : ZG} {p : Int} (hm : MOK g) (hh : MHH g) (hpp : 0 ≤ p ∧ p < g 8 0 2) : ∀ (n k : Nat) (z3 : ZV) (G : ZG), (∀ y, z3 ≠ ZJ y) → (k : Int) + n = g 8 0 2 → zP g G → (∀ M, zP g M → Q (some (ZI (tPart (mT g) p.toNat n k))) M) → ZVV Y mX8_partner (zcx Y 7 Q) 2 [ZR 8 0, ZI p, ZI (k : Int), z3] [] G := by
  have hn8 := hm.1
  have hn6 := hm.2.2.1
  have hhp := hh p.toNat (by omega)
  intro n
  induction n with
  | zero =>
    intro k z3 G hz3 hk hz hq
    have e8_G : G 8 = g 8 := hz 8 (by decide)
    have e30_G : G 30 = g 30 := hz 30 (by decide)
    have e31_G : G 31 = g 31 := hz 31 (by decide)
    have e32_G : G 32 = g 32 := hz 32 (by decide)
    have e33_G : G 33 = g 33 := hz 33 (by decide)
    have e35_G : G 35 = g 35 := hz 35 (by decide)
    have e36_G : G 36 = g 36 := hz 36 (by decide)
    have e37_G : G 37 = g 37 := hz 37 (by decide)
    have e38_G : G 38 = g 38 := hz 38 (by decide)
    have e39_G : G 39 = g 39 := hz 39 (by decide)
    have e40_G : G 40 = g 40 := hz 40 (by decide)
    have e44_G : G 44 = g 44 := hz 44 (by decide)
    refine zs_iload_n (j := 2) (i := 2) rfl rfl rfl ?_
    refine zs_aload_n (j := 0) (i := 0) rfl rfl rfl ?_
    refine zs_getfield (f := 8) (k := 2) rfl rfl (trivial) ?_
    show ZVV _ _ _ _ _ (ZI (G 8 0 2) :: _) _
    rw [e8_G]
    refine zs_icmp_ge 74 rfl (by omega) (fun hc_7 => ?_) (fun hc_7 => ?_)
    · refine zs_iconst (n := (-1)) rfl ⟨by omega, by omega⟩ ?_
      exact zs_ireturn rfl rfl (hq G hz)
    · exfalso; omega
  | succ n ih =>
    intro k z3 G hz3 hk hz hq
    have e8_G : G 8 = g 8 := hz 8 (by decide)
    have e30_G : G 30 = g 30 := hz 30 (by decide)
    have e31_G : G 31 = g 31 := hz 31 (by decide)
    have e32_G : G 32 = g 32 := hz 32 (by decide)
    have e33_G : G 33 = g 33 := hz 33 (by decide)
    have e35_G : G 35 = g 35 := hz 35 (by decide)
    have e36_G : G 36 = g 36 := hz 36 (by decide)
    have e37_G : G 37 = g 37 := hz 37 (by decide)
    have e38_G : G 38 = g 38 := hz 38 (by decide)
    have e39_G : G 39 = g 39 := hz 39 (by decide)
    have e40_G : G 40 = g 40 := hz 40 (by decide)
    have e44_G : G 44 = g 44 := hz 44 (by decide)
    have hhk := hh k (by omega)
    simp only [tPart_s] at hq
    refine zs_iload_n (j := 2) (i := 2) rfl rfl rfl ?_
    refine zs_aload_n (j := 0) (i := 0) rfl rfl rfl ?_
    refine zs_getfield (f := 8) (k := 2) rfl rfl (trivial) ?_
    show ZVV _ _ _ _ _ (ZI (G 8 0 2) :: _) _
    rw [e8_G]
    refine zs_icmp_ge 74 rfl (by omega) (fun hc_7 => ?_) (fun hc_7 => ?_)
    · exfalso; omega
    · refine zs_aload_n (j := 0) (i := 0) rfl rfl rfl ?_
      refine zs_getfield (f := 8) (k := 6) rfl rfl (trivial) ?_
      show ZVV _ _ _ _ _ (ZR 32 0 :: _) _
      refine zs_iload_n (j := 2) (i := 2) rfl rfl rfl ?_
      refine zs_iald (n := 6) rfl rfl (by omega) (by omega) ?_
      show ZVV _ _ _ _ _ (ZI (G 32 0 k) :: _) _
      rw [e32_G]
      refine zs_aload_n (j := 0) (i := 0) rfl rfl rfl ?_
      refine zs_getfield (f := 8) (k := 6) rfl rfl (trivial) ?_
      show ZVV _ _ _ _ _ (ZR 32 0 :: _) _
      refine zs_iload_n (j := 1) (i := 1) rfl rfl rfl ?_
      show ZVV _ _ _ 21 _ _ _
      refine zs_iald (n := 6) rfl rfl (by omega) (by omega) ?_
      show ZVV _ _ _ _ _ (ZI (G 32 0 p.toNat) :: _) _
      rw [e32_G]
      refine zs_icmp_ne 28 rfl (by omega) (fun hc_22 => ?_) (fun hc_22 => ?_)
      · refine zs_aload_n (j := 0) (i := 0) rfl rfl rfl ?_
        refine zs_iload_n (j := 1) (i := 1) rfl rfl rfl ?_
        refine zs_iload_n (j := 2) (i := 2) rfl rfl rfl ?_
        refine zs_callV (host := "") rfl kX8_274 vX8_changes (c_X8_changes p (k : Int)) [ZI p, ZI (k : Int)] [] rfl (zroom_of (by omega)) rfl (Nat.le_of_ble_eq_true rfl) ⟨rfl, ⟨by omega, by omega⟩, ⟨by omega, by omega⟩⟩ (fun r_31 g_31 hq_31 => ?_)
        obtain ⟨hr_31, hg_31⟩ := hq_31
        rw [hr_31]
        have hz_31 : zP (mswp g p.toNat k) g_31 := by rw [hg_31]; exact mswp_z hz p.toNat k
        have hMB : MOK (mswp g p.toNat k) := mswp_ok hm (by omega) (by omega)
        have hpk : p.toNat ≠ k := fun z => by rw [z] at hc_22; exact hc_22 rfl
        have bp : (mswp g p.toNat k) 33 0 p.toNat = g 33 0 k := by rw [mswp_33]; simp [hpk]
        have bk : (mswp g p.toNat k) 33 0 k = g 33 0 p.toNat := by rw [mswp_33]; simp
        have b8 : (mswp g p.toNat k) 8 = g 8 := mswp_f _ _ _ (by decide)
        show ZVV _ _ _ 34 _ [] g_31
        refine zs_aload_n (j := 0) (i := 0) rfl rfl rfl ?_
        refine zs_iload_n (j := 1) (i := 1) rfl rfl rfl ?_
        refine zs_callV (host := "") rfl kX8_265 vX8_isContent (c_X8_isContent p) [ZI p] [] rfl (zroom_of (by omega)) rfl (Nat.le_of_ble_eq_true rfl) ⟨rfl, hMB.z hz_31, ⟨by omega, by rw [hz_31 8 (by decide), b8]; omega⟩, by rw [hz_31 33 (by decide)]; show 0 ≤ (mswp g p.toNat k) 33 0 p.toNat; rw [bp]; omega⟩ (fun r_36 g_36 hq_36 => ?_)
        obtain ⟨hr_36, hz1_36⟩ := hq_36
        rw [hr_36, mT_z hz_31, mswp_T, hz_31 33 (by decide), show (mswp g p.toNat k) 33 0 p.toNat = g 33 0 k from bp]
        have hz_36 := hz_31.tr hz1_36
        show ZVV _ _ _ 39 _ [ZI (if tSu (tswap (mT g) p.toNat k) p.toNat (g 33 0 k) = true then 1 else 0)] g_36
        show ZVV _ _ _ 39 _ _ _
        refine zs_if_eq 54 rfl (by omega) (fun hc_39 => ?_) (fun hc_39 => ?_)
        · refine zs_iconst (n := 0) rfl ⟨by omega, by omega⟩ ?_
          refine zs_istore_n (j := 3) (i := 3) rfl rfl (by decide) (by intro r x hr; have hr2 : r = 2 := (by omega); subst hr2; intro z; cases z) ?_
          show ZVV _ _ _ _ [ZR 8 0, ZI p, ZI (k : Int), ZI 0] _ _
          refine zs_aload_n (j := 0) (i := 0) rfl rfl rfl ?_
          refine zs_iload_n (j := 1) (i := 1) rfl rfl rfl ?_
          refine zs_iload_n (j := 2) (i := 2) rfl rfl rfl ?_
          refine zs_callV (host := "") rfl kX8_274 vX8_changes (c_X8_changes p (k : Int)) [ZI p, ZI (k : Int)] [] rfl (zroom_of (by omega)) rfl (Nat.le_of_ble_eq_true rfl) ⟨rfl, ⟨by omega, by omega⟩, ⟨by omega, by omega⟩⟩ (fun r_59 g_59 hq_59 => ?_)
          obtain ⟨hr_59, hg_59⟩ := hq_59
          rw [hr_59]
          have hz_59 : zP g g_59 := by rw [hg_59, ← mswp_inv g p.toNat k]; exact mswp_z hz_36 p.toNat k
          show ZVV _ _ _ 62 _ [] g_59
          refine zs_iload_n (j := 3) (i := 3) rfl rfl rfl ?_
          show ZVV _ _ _ 63 _ _ _
          refine zs_if_eq 68 rfl (by omega) (fun hc_63 => ?_) (fun hc_63 => ?_)
          · refine zs_iinc_r (i := 2) rfl rfl (by intro r x hr; have hr2 : r = 1 := (by omega); subst hr2; intro z; cases z) ⟨by omega, by omega⟩ ?_
            show ZVV _ _ _ _ [ZR 8 0, ZI p, ZI ((k : Int) + 1), ZI 0] _ _
            refine zs_goto 2 rfl (by omega) ?_
            refine ih (k + 1) _ g_59 (by intro y h; cases h) (by omega) hz_59 (fun M hM => ?_)
            have hx := hq M hM
            rw [if_neg (fun z => by
              have z1 := z.2.1
              have z2 := z.2.2
              first | exact zif0 hc_39 z1 | exact zif0 hc_47 z2 | omega)] at hx
            exact hx
          · refine zs_iload_n (j := 2) (i := 2) rfl rfl rfl ?_
            exact zs_ireturn rfl rfl (by
        have hx := hq g_59 hz_59
        first
        | (exfalso; omega)
        | (rw [if_pos ⟨hc_22, zif1 hc_39, zif1 hc_47⟩] at hx; exact hx))
        · refine zs_aload_n (j := 0) (i := 0) rfl rfl rfl ?_
          refine zs_iload_n (j := 2) (i := 2) rfl rfl rfl ?_
          refine zs_callV (host := "") rfl kX8_265 vX8_isContent (c_X8_isContent (k : Int)) [ZI (k : Int)] [] rfl (zroom_of (by omega)) rfl (Nat.le_of_ble_eq_true rfl) ⟨rfl, hMB.z hz_36, ⟨by omega, by rw [hz_36 8 (by decide), b8]; omega⟩, by rw [hz_36 33 (by decide)]; show 0 ≤ (mswp g p.toNat k) 33 0 k; rw [bk]; omega⟩ (fun r_44 g_44 hq_44 => ?_)
          obtain ⟨hr_44, hz1_44⟩ := hq_44
          rw [hr_44, mT_z hz_36, mswp_T, hz_36 33 (by decide), show (mswp g p.toNat k) 33 0 ((k : Int)).toNat = g 33 0 p.toNat from bk]
          have hz_44 := hz_36.tr hz1_44
          show ZVV _ _ _ 47 _ [ZI (if tSu (tswap (mT g) p.toNat k) k (g 33 0 p.toNat) = true then 1 else 0)] g_44
          refine zs_if_eq 54 rfl (by omega) (fun hc_47 => ?_) (fun hc_47 => ?_)
          · refine zs_iconst (n := 0) rfl ⟨by omega, by omega⟩ ?_
            refine zs_istore_n (j := 3) (i := 3) rfl rfl (by decide) (by intro r x hr; have hr2 : r = 2 := (by omega); subst hr2; intro z; cases z) ?_
            show ZVV _ _ _ _ [ZR 8 0, ZI p, ZI (k : Int), ZI 0] _ _
            refine zs_aload_n (j := 0) (i := 0) rfl rfl rfl ?_
            refine zs_iload_n (j := 1) (i := 1) rfl rfl rfl ?_
            refine zs_iload_n (j := 2) (i := 2) rfl rfl rfl ?_
            refine zs_callV (host := "") rfl kX8_274 vX8_changes (c_X8_changes p (k : Int)) [ZI p, ZI (k : Int)] [] rfl (zroom_of (by omega)) rfl (Nat.le_of_ble_eq_true rfl) ⟨rfl, ⟨by omega, by omega⟩, ⟨by omega, by omega⟩⟩ (fun r_59 g_59 hq_59 => ?_)
            obtain ⟨hr_59, hg_59⟩ := hq_59
            rw [hr_59]
            have hz_59 : zP g g_59 := by rw [hg_59, ← mswp_inv g p.toNat k]; exact mswp_z hz_44 p.toNat k
            show ZVV _ _ _ 62 _ [] g_59
            refine zs_iload_n (j := 3) (i := 3) rfl rfl rfl ?_
            show ZVV _ _ _ 63 _ _ _
            refine zs_if_eq 68 rfl (by omega) (fun hc_63 => ?_) (fun hc_63 => ?_)
            · refine zs_iinc_r (i := 2) rfl rfl (by intro r x hr; have hr2 : r = 1 := (by omega); subst hr2; intro z; cases z) ⟨by omega, by omega⟩ ?_
              show ZVV _ _ _ _ [ZR 8 0, ZI p, ZI ((k : Int) + 1), ZI 0] _ _
              refine zs_goto 2 rfl (by omega) ?_
              refine ih (k + 1) _ g_59 (by intro y h; cases h) (by omega) hz_59 (fun M hM => ?_)
              have hx := hq M hM
              rw [if_neg (fun z => by
                have z1 := z.2.1
                have z2 := z.2.2
                first | exact zif0 hc_39 z1 | exact zif0 hc_47 z2 | omega)] at hx
              exact hx
            · refine zs_iload_n (j := 2) (i := 2) rfl rfl rfl ?_
              exact zs_ireturn rfl rfl (by
        have hx := hq g_59 hz_59
        first
        | (exfalso; omega)
        | (rw [if_pos ⟨hc_22, zif1 hc_39, zif1 hc_47⟩] at hx; exact hx))
          · refine zs_iconst (n := 1) rfl ⟨by omega, by omega⟩ ?_
            refine zs_goto 55 rfl (by omega) ?_
            refine zs_istore_n (j := 3) (i := 3) rfl rfl (by decide) (by intro r x hr; have hr2 : r = 2 := (by omega); subst hr2; intro z; cases z) ?_
            show ZVV _ _ _ _ [ZR 8 0, ZI p, ZI (k : Int), ZI 1] _ _
            refine zs_aload_n (j := 0) (i := 0) rfl rfl rfl ?_
            refine zs_iload_n (j := 1) (i := 1) rfl rfl rfl ?_
            refine zs_iload_n (j := 2) (i := 2) rfl rfl rfl ?_
            refine zs_callV (host := "") rfl kX8_274 vX8_changes (c_X8_changes p (k : Int)) [ZI p, ZI (k : Int)] [] rfl (zroom_of (by omega)) rfl (Nat.le_of_ble_eq_true rfl) ⟨rfl, ⟨by omega, by omega⟩, ⟨by omega, by omega⟩⟩ (fun r_59 g_59 hq_59 => ?_)
            obtain ⟨hr_59, hg_59⟩ := hq_59
            rw [hr_59]
            have hz_59 : zP g g_59 := by rw [hg_59, ← mswp_inv g p.toNat k]; exact mswp_z hz_44 p.toNat k
            show ZVV _ _ _ 62 _ [] g_59
            show ZVV _ _ _ 62 _ _ _
            refine zs_iload_n (j := 3) (i := 3) rfl rfl rfl ?_
            refine zs_if_eq 68 rfl (by omega) (fun hc_63 => ?_) (fun hc_63 => ?_)
            · refine zs_iinc_r (i := 2) rfl rfl (by intro r x hr; have hr2 : r = 1 := (by omega); subst hr2; intro z; cases z) ⟨by omega, by omega⟩ ?_
              show ZVV _ _ _ _ [ZR 8 0, ZI p, ZI ((k : Int) + 1), ZI 1] _ _
              refine zs_goto 2 rfl (by omega) ?_
              refine ih (k + 1) _ g_59 (by intro y h; cases h) (by omega) hz_59 (fun M hM => ?_)
              have hx := hq M hM
              rw [if_neg (fun z => by
                have z1 := z.2.1
                have z2 := z.2.2
                first | exact zif0 hc_39 z1 | exact zif0 hc_47 z2 | omega)] at hx
              exact hx
            · refine zs_iload_n (j := 2) (i := 2) rfl rfl rfl ?_
              exact zs_ireturn rfl rfl (by
        have hx := hq g_59 hz_59
        first
        | (exfalso; omega)
        | (rw [if_pos ⟨hc_22, zif1 hc_39, zif1 hc_47⟩] at hx; exact hx))
      · refine zs_goto 68 rfl (by omega) ?_
        refine zs_iinc_r (i := 2) rfl rfl (by intro r x hr; have hr2 : r = 1 := (by omega); subst hr2; intro z; cases z) ⟨by omega, by omega⟩ ?_
        show ZVV _ _ _ _ [ZR 8 0, ZI p, ZI ((k : Int) + 1), z3] _ _
        refine zs_goto 2 rfl (by omega) ?_
        refine ih (k + 1) _ G hz3 (by omega) hz (fun M hM => ?_)
        have hx := hq M hM
        rw [if_neg (fun z => z.1 (Classical.not_not.mp hc_22))] at hx
        exact hx
theorem c_X8_partner (p : Int) : ZC mX8_partner 7 (fun av g => av = [ZR 8 0, ZI p] ∧ MOK g ∧ MHH g ∧ (0 ≤ p ∧ p < g 8 0 2)) (fun _ g r g' => r = some (ZI (tPart (mT g) p.toNat (g 8 0 2).toNat 0)) ∧ zP g g') := by
  refine zc_of gX8_partner (fun av g hp => by obtain ⟨rfl, -⟩ := hp; exact Nat.le_of_ble_eq_true rfl) (fun Y av g hwf hrg hp hok => ?_)
  obtain ⟨rfl, hp⟩ := hp
  show ZVV _ _ _ 0 [ZR 8 0, ZI p, ZX 99, ZX 99] [] _
  have hn6 := hp.1.2.2.1
  refine zs_iconst (n := 0) rfl ⟨by omega, by omega⟩ ?_
  refine zs_istore_n (j := 2) (i := 2) rfl rfl (by decide) (by intro r x hr; have hr2 : r = 1 := (by omega); subst hr2; intro z; cases z) ?_
  show ZVV _ _ _ _ [ZR 8 0, ZI p, ZI 0, ZX 99] _ _
  exact l_X8_partner hp.1 hp.2.1 hp.2.2 (g 8 0 2).toNat 0 _ g (by intro y h; cases h) (by omega) (zP.rf g) (fun M hM => ⟨rfl, hM⟩)

theorem tPart_r (t : ZT) (p : Nat) : ∀ n k : Nat, tPart t p n k = -1 ∨ ((k : Int) ≤ tPart t p n k ∧ tPart t p n k < k + n) := by
  intro n
  induction n with
  | zero => intro k; exact Or.inl rfl
  | succ n ih =>
    intro k
    rw [tPart_s]
    split
    · exact Or.inr ⟨Int.le_refl _, by omega⟩
    · have := ih (k + 1); omega
def tSwp (t : ZT) (p : Nat) : Int := if tPart t p (tnp t).toNat 0 = -1 then tLeast t p else tho t (tPart t p (tnp t).toNat 0).toNat
theorem c_X8_swapsTo (p : Int) : ZC mX8_swapsTo 8 (fun av g => av = [ZR 8 0, ZI p] ∧ MOK g ∧ MHH g ∧ (0 ≤ p ∧ p < g 8 0 2)) (fun _ g r g' => r = some (ZI (tSwp (mT g) p.toNat)) ∧ zP g g') := by
  refine zc_of gX8_swapsTo (fun av g hp => by obtain ⟨rfl, -⟩ := hp; exact Nat.le_of_ble_eq_true rfl) (fun Y av g hwf hrg hp hok => ?_)
  obtain ⟨rfl, hp⟩ := hp
  show ZVV _ _ _ 0 [ZR 8 0, ZI p, ZX 99] [] _
  obtain ⟨hm, hh, hpp⟩ := hp
  have hn8 := hm.1
  have hn6 := hm.2.2.1
  have hhp := hh p.toNat (by omega)
  have hhp2 := (hm.2.2.2.2.2.2 p.toNat (by omega)).1.2
  have hPr := tPart_r (mT g) p.toNat (g 8 0 2).toNat 0
  refine zs_aload_n (j := 0) (i := 0) rfl rfl rfl ?_
  refine zs_iload_n (j := 1) (i := 1) rfl rfl rfl ?_
  refine zs_callV (host := "") rfl kX8_278 vX8_partner (c_X8_partner p) [ZI p] [] rfl (zroom_of (by omega)) rfl (Nat.le_of_ble_eq_true rfl) ⟨rfl, hm, hh, hpp⟩ (fun r_2 g_2 hq_2 => ?_)
  obtain ⟨hr_2, hz1_2⟩ := hq_2
  rw [hr_2]
  have hz_2 := (show zP g g from (zP.rf g)).tr hz1_2
  have e8_2 : g_2 8 = g 8 := hz_2 8 (by decide)
  have e30_2 : g_2 30 = g 30 := hz_2 30 (by decide)
  have e31_2 : g_2 31 = g 31 := hz_2 31 (by decide)
  have e32_2 : g_2 32 = g 32 := hz_2 32 (by decide)
  have e33_2 : g_2 33 = g 33 := hz_2 33 (by decide)
  have e35_2 : g_2 35 = g 35 := hz_2 35 (by decide)
  have e36_2 : g_2 36 = g 36 := hz_2 36 (by decide)
  have e37_2 : g_2 37 = g 37 := hz_2 37 (by decide)
  have e38_2 : g_2 38 = g 38 := hz_2 38 (by decide)
  have e39_2 : g_2 39 = g 39 := hz_2 39 (by decide)
  have e40_2 : g_2 40 = g 40 := hz_2 40 (by decide)
  have e44_2 : g_2 44 = g 44 := hz_2 44 (by decide)
  show ZVV _ _ _ 5 _ [ZI (tPart (mT g) p.toNat (g 8 0 2).toNat 0)] g_2
  refine zs_istore_n (j := 2) (i := 2) rfl rfl (by decide) (by intro r x hr; have hr2 : r = 1 := (by omega); subst hr2; intro z; cases z) ?_
  show ZVV _ _ _ _ [ZR 8 0, ZI p, ZI (tPart (mT g) p.toNat (g 8 0 2).toNat 0)] _ _
  refine zs_iload_n (j := 2) (i := 2) rfl rfl rfl ?_
  refine zs_if_ge 22 rfl (by omega) (fun hc_7 => ?_) (fun hc_7 => ?_)
  · refine zs_aload_n (j := 0) (i := 0) rfl rfl rfl ?_
    refine zs_getfield (f := 8) (k := 7) rfl rfl (trivial) ?_
    show ZVV _ _ _ _ _ (ZR 33 0 :: _) _
    refine zs_iload_n (j := 2) (i := 2) rfl rfl rfl ?_
    refine zs_iald (n := 6) rfl rfl (by omega) (by omega) ?_
    show ZVV _ _ _ _ _ (ZI (g_2 33 0 (tPart (mT g) p.toNat (g 8 0 2).toNat 0).toNat) :: _) _
    rw [e33_2]
    exact zs_ireturn rfl rfl (⟨by show _ = some (ZI (if tPart (mT g) p.toNat (g 8 0 2).toNat 0 = -1 then tLeast (mT g) p.toNat else g 33 0 (tPart (mT g) p.toNat (g 8 0 2).toNat 0).toNat)); first | rw [if_pos (by omega)] | rw [if_neg (by omega)], hz_2⟩)
  · refine zs_aload_n (j := 0) (i := 0) rfl rfl rfl ?_
    refine zs_aload_n (j := 0) (i := 0) rfl rfl rfl ?_
    refine zs_iload_n (j := 1) (i := 1) rfl rfl rfl ?_
    refine zs_callV (host := "") rfl kX8_281 vX8_wanted (c_X8_wanted p) [ZI p] [ZR 8 0] rfl (zroom_of (by omega)) rfl (Nat.le_of_ble_eq_true rfl) ⟨rfl, hm.z hz_2, ⟨hpp.1, by rw [hz_2 8 (by decide)]; exact hpp.2⟩⟩ (fun r_13 g_13 hq_13 => ?_)
    obtain ⟨hr_13, hz1_13⟩ := hq_13
    rw [hr_13, mT_z hz_2]
    have hz_13 := (show zP g g_2 from hz_2).tr hz1_13
    have e8_13 : g_13 8 = g 8 := hz_13 8 (by decide)
    have e30_13 : g_13 30 = g 30 := hz_13 30 (by decide)
    have e31_13 : g_13 31 = g 31 := hz_13 31 (by decide)
    have e32_13 : g_13 32 = g 32 := hz_13 32 (by decide)
    have e33_13 : g_13 33 = g 33 := hz_13 33 (by decide)
    have e35_13 : g_13 35 = g 35 := hz_13 35 (by decide)
    have e36_13 : g_13 36 = g 36 := hz_13 36 (by decide)
    have e37_13 : g_13 37 = g 37 := hz_13 37 (by decide)
    have e38_13 : g_13 38 = g 38 := hz_13 38 (by decide)
    have e39_13 : g_13 39 = g 39 := hz_13 39 (by decide)
    have e40_13 : g_13 40 = g 40 := hz_13 40 (by decide)
    have e44_13 : g_13 44 = g 44 := hz_13 44 (by decide)
    show ZVV _ _ _ 16 _ [ZI ((tWan (mT g) p.toNat : Nat) : Int), ZR 8 0] g_13
    refine zs_callV (host := "") rfl kX8_284 vX8_leastOf (c_X8_leastOf (tWan (mT g) p.toNat)) [ZI ((tWan (mT g) p.toNat : Nat) : Int)] [] rfl (zroom_of (by omega)) rfl (Nat.le_of_ble_eq_true rfl) ⟨rfl, by rw [hz_13 8 (by decide)]; exact hm.1, zmk_lt31 _ (by show (g 8 0 0).toNat ≤ 31; omega)⟩ (fun r_16 g_16 hq_16 => ?_)
    obtain ⟨hr_16, hg_16⟩ := hq_16
    rw [hr_16, hg_16, hz_13 8 (by decide), show mLeast (g 8 0 0) (tWan (mT g) p.toNat) = tLeast (mT g) p.toNat from least_mask (mT g) p.toNat]
    show ZVV _ _ _ 19 _ [ZI (tLeast (mT g) p.toNat)] g_13
    refine zs_goto 28 rfl (by omega) ?_
    exact zs_ireturn rfl rfl (⟨by show _ = some (ZI (if tPart (mT g) p.toNat (g 8 0 2).toNat 0 = -1 then tLeast (mT g) p.toNat else g 33 0 (tPart (mT g) p.toNat (g 8 0 2).toNat 0).toNat)); first | rw [if_pos (by omega)] | rw [if_neg (by omega)], hz_13⟩)

set_option maxHeartbeats 4000000 in
theorem c_X8_goesTo (p : Int) : ZC mX8_goesTo 9 (fun av g => av = [ZR 8 0, ZI p] ∧ MOK g ∧ MHH g ∧ (0 ≤ p ∧ p < g 8 0 2)) (fun _ g r g' => r = some (ZI (tGoes (mT g) p.toNat)) ∧ zP g g') := by
  refine zc_of gX8_goesTo (fun av g hp => by obtain ⟨rfl, -⟩ := hp; exact Nat.le_of_ble_eq_true rfl) (fun Y av g hwf hrg hp hok => ?_)
  obtain ⟨rfl, hp⟩ := hp
  show ZVV _ _ _ 0 [ZR 8 0, ZI p] [] _
  obtain ⟨hm, hh, hpp⟩ := hp
  have hn8 := hm.1
  have hn6 := hm.2.2.1
  have hhp := hh p.toNat (by omega)
  have hhp2 := (hm.2.2.2.2.2.2 p.toNat (by omega)).1.2
  have hPr := tPart_r (mT g) p.toNat (g 8 0 2).toNat 0
  have hof : tFr (mT g) (g 33 0 p.toNat) = false := own_free (mT g) (p := p.toNat) (by show p.toNat < (g 8 0 2).toNat; omega)
  have hnear : mNear (g 8 0 0) (g 33 0 p.toNat) (tWan (mT g) p.toNat) ((g 8 0 0).toNat - 1) 1 = tNear (mT g) p.toNat 1000 (g 8 0 0).toNat 0 (-5) 8 := by
    rw [tNear_z]
    refine (near_mask (fun h => tFr (mT g) (h : Int) && tSu (mT g) p.toNat (h : Int)) hm.1 ⟨hhp, hhp2⟩ ?_).symm.trans ?_
    · show (tFr (mT g) (((g 33 0 p.toNat).toNat : Nat) : Int) && _) = false
      rw [Int.toNat_of_nonneg hhp, hof]; rfl
    · refine zNear_cong _ _ _ _ (fun j h1 h2 => ?_)
      rw [decide_eq_true (show (tWt (mT g) p.toNat (j : Int)).2.2 ≤ 1000 from Int.le_trans (mW_r hm.2.2.2.2.2.1).2.2.2 (by decide)), Bool.and_true]
  have hnearc : mNear (g 8 0 0) (g 33 0 p.toNat) (tChe (mT g) p.toNat (tWan (mT g) p.toNat)) ((g 8 0 0).toNat - 1) 1 = tNear (mT g) p.toNat (10 * g 31 0 p.toNat) (g 8 0 0).toNat 0 (-5) 8 := by
    rw [tNear_z]
    refine (near_mask (fun h => Nat.testBit (tWan (mT g) p.toNat) h && decide ((tWt (mT g) p.toNat (h : Int)).2.2 ≤ 10 * g 31 0 p.toNat)) hm.1 ⟨hhp, hhp2⟩ ?_).symm.trans ?_
    · show (Nat.testBit (zmk _ _) (g 33 0 p.toNat).toNat && _) = false
      rw [zmk_eq_lt (show (g 33 0 p.toNat).toNat < (tn (mT g)).toNat by show _ < (g 8 0 0).toNat; omega), Int.toNat_of_nonneg hhp, hof]; rfl
    · refine zNear_cong _ _ _ _ (fun j h1 h2 => ?_)
      show (Nat.testBit (zmk _ _) j && _) = _
      rw [zmk_eq_lt (show j < (tn (mT g)).toNat by show _ < (g 8 0 0).toNat; omega)]
  have hnext : mBeh (g 8 0 0) (g 33 0 p.toNat) (tWan (mT g) p.toNat) ((g 8 0 0).toNat - 1) 1 = tNext (mT g) p.toNat ((g 8 0 0).toNat - 1) (g 33 0 p.toNat) := (next_mask (mT g) p.toNat hm.1 ⟨hhp, hhp2⟩ _ 1 _ (Nat.le_refl 1) (by show g 33 0 p.toNat = (g 33 0 p.toNat + (1 - 1)) % g 8 0 0; rw [show (1 : Int) - 1 = 0 from rfl, Int.add_zero, Int.emod_eq_of_lt hhp hhp2])).symm
  have hvv := (hm.2.2.2.2.2.2 p.toNat (by omega)).2
  have hgo := hm.2.2.2.1
  refine zs_aload_n (j := 0) (i := 0) rfl rfl rfl ?_
  refine zs_getfield (f := 8) (k := 4) rfl rfl (trivial) ?_
  show ZVV _ _ _ _ _ (ZR 30 0 :: _) _
  refine zs_iload_n (j := 1) (i := 1) rfl rfl rfl ?_
  refine zs_iald (n := 6) rfl rfl (by omega) (by omega) ?_
  by_cases hs_6_1 : g 30 0 p.toNat = 1
  · refine zs_tsIn 44 rfl (by omega) (by omega) (off := 38) (by rw [hs_6_1]; rfl) (by omega) ?_
    refine zs_aload_n (j := 0) (i := 0) rfl rfl rfl ?_
    refine zs_iload_n (j := 1) (i := 1) rfl rfl rfl ?_
    refine zs_aload_n (j := 0) (i := 0) rfl rfl rfl ?_
    refine zs_iload_n (j := 1) (i := 1) rfl rfl rfl ?_
    refine zs_callV (host := "") rfl kX8_281 vX8_wanted (c_X8_wanted p) [ZI p] [ZI p, ZR 8 0] rfl (zroom_of (by omega)) rfl (Nat.le_of_ble_eq_true rfl) ⟨rfl, hm.z (zP.rf g), ⟨hpp.1, by rw [(zP.rf g) 8 (by decide)]; exact hpp.2⟩⟩ (fun r_48 g_48 hq_48 => ?_)
    obtain ⟨hr_48, hz1_48⟩ := hq_48
    rw [hr_48]
    have hz_48 := (show zP g g from (zP.rf g)).tr hz1_48
    have e8_48 : g_48 8 = g 8 := hz_48 8 (by decide)
    have e30_48 : g_48 30 = g 30 := hz_48 30 (by decide)
    have e31_48 : g_48 31 = g 31 := hz_48 31 (by decide)
    have e32_48 : g_48 32 = g 32 := hz_48 32 (by decide)
    have e33_48 : g_48 33 = g 33 := hz_48 33 (by decide)
    have e35_48 : g_48 35 = g 35 := hz_48 35 (by decide)
    have e36_48 : g_48 36 = g 36 := hz_48 36 (by decide)
    have e37_48 : g_48 37 = g 37 := hz_48 37 (by decide)
    have e38_48 : g_48 38 = g 38 := hz_48 38 (by decide)
    have e39_48 : g_48 39 = g 39 := hz_48 39 (by decide)
    have e40_48 : g_48 40 = g 40 := hz_48 40 (by decide)
    have e44_48 : g_48 44 = g 44 := hz_48 44 (by decide)
    show ZVV _ _ _ 51 _ [ZI ((tWan (mT g) p.toNat : Nat) : Int), ZI p, ZR 8 0] g_48
    refine zs_callV (host := "") rfl kX8_287 vX8_nearest (c_X8_nearest p (tWan (mT g) p.toNat)) [ZI p, ZI ((tWan (mT g) p.toNat : Nat) : Int)] [] rfl (zroom_of (by omega)) rfl (Nat.le_of_ble_eq_true rfl) ⟨rfl, zmk_lt31 _ (by show (g 8 0 0).toNat ≤ 31; omega), by rw [hz_48 8 (by decide)]; exact hm.1, ⟨by omega, by omega⟩, by rw [hz_48 33 (by decide), hz_48 8 (by decide)]; exact ⟨hhp, hhp2⟩⟩ (fun r_51 g_51 hq_51 => ?_)
    obtain ⟨hr_51, hg_51⟩ := hq_51
    rw [hr_51, hg_51, hz_48 8 (by decide), hz_48 33 (by decide), show mNear (g 8 0 0) (g 33 0 p.toNat) (tWan (mT g) p.toNat) ((g 8 0 0).toNat - 1) 1 = tNear (mT g) p.toNat 1000 (g 8 0 0).toNat 0 (-5) 8 from hnear]
    show ZVV _ _ _ 54 _ [ZI (tNear (mT g) p.toNat 1000 (g 8 0 0).toNat 0 (-5) 8)] g_48
    exact zs_ireturn rfl rfl (⟨by show _ = some (ZI (if g 30 0 p.toNat = 1 then _ else if g 30 0 p.toNat = 2 then _ else if g 30 0 p.toNat = 4 then _ else if g 30 0 p.toNat = 5 then (if g 8 0 3 % (g 31 0 p.toNat + 2) = 0 then -5 else _) else if g 30 0 p.toNat = 3 ∨ g 30 0 p.toNat = 6 then (if (g 30 0 p.toNat = 6 ∧ g 31 0 p.toNat < g 8 0 0) ∧ tFr (mT g) (g 31 0 p.toNat) = true then g 31 0 p.toNat else tSwp (mT g) p.toNat) else _)); first | (rw [if_pos (by omega)]; first | done | rfl) | (rw [if_neg (by omega), if_pos (by omega)]; first | done | rfl) | (rw [if_neg (by omega), if_neg (by omega), if_pos (by omega)]; first | done | rfl) | (rw [if_neg (by omega), if_neg (by omega), if_neg (by omega), if_pos (by omega), if_pos (by omega)]; first | done | rfl) | (rw [if_neg (by omega), if_neg (by omega), if_neg (by omega), if_pos (by omega), if_neg (by omega)]; first | done | rfl) | (rw [if_neg (by omega), if_neg (by omega), if_neg (by omega), if_neg (by omega), if_pos (by omega), if_pos ⟨⟨by omega, by omega⟩, decide_eq_true (show zwho (g 8 0 2) (g 33 0) (g 31 0 p.toNat) = -1 by omega)⟩]; first | done | rfl) | (rw [if_neg (by omega), if_neg (by omega), if_neg (by omega), if_neg (by omega), if_pos (by omega), if_neg (fun z => by first | (have := z.1.1; omega) | (have := z.1.2; omega) | (have hz2 : zwho (g 8 0 2) (g 33 0) (g 31 0 p.toNat) = -1 := of_decide_eq_true z.2; omega))]; first | done | rfl) | (rw [if_neg (by omega), if_neg (by omega), if_neg (by omega), if_neg (by omega), if_neg (by omega)]; first | done | rfl), hz_48⟩)
  by_cases hs_6_2 : g 30 0 p.toNat = 2
  · refine zs_tsIn 55 rfl (by omega) (by omega) (off := 49) (by rw [hs_6_2]; rfl) (by omega) ?_
    refine zs_aload_n (j := 0) (i := 0) rfl rfl rfl ?_
    refine zs_iload_n (j := 1) (i := 1) rfl rfl rfl ?_
    refine zs_aload_n (j := 0) (i := 0) rfl rfl rfl ?_
    refine zs_iload_n (j := 1) (i := 1) rfl rfl rfl ?_
    refine zs_callV (host := "") rfl kX8_281 vX8_wanted (c_X8_wanted p) [ZI p] [ZI p, ZR 8 0] rfl (zroom_of (by omega)) rfl (Nat.le_of_ble_eq_true rfl) ⟨rfl, hm.z (zP.rf g), ⟨hpp.1, by rw [(zP.rf g) 8 (by decide)]; exact hpp.2⟩⟩ (fun r_59 g_59 hq_59 => ?_)
    obtain ⟨hr_59, hz1_59⟩ := hq_59
    rw [hr_59]
    have hz_59 := (show zP g g from (zP.rf g)).tr hz1_59
    have e8_59 : g_59 8 = g 8 := hz_59 8 (by decide)
    have e30_59 : g_59 30 = g 30 := hz_59 30 (by decide)
    have e31_59 : g_59 31 = g 31 := hz_59 31 (by decide)
    have e32_59 : g_59 32 = g 32 := hz_59 32 (by decide)
    have e33_59 : g_59 33 = g 33 := hz_59 33 (by decide)
    have e35_59 : g_59 35 = g 35 := hz_59 35 (by decide)
    have e36_59 : g_59 36 = g 36 := hz_59 36 (by decide)
    have e37_59 : g_59 37 = g 37 := hz_59 37 (by decide)
    have e38_59 : g_59 38 = g 38 := hz_59 38 (by decide)
    have e39_59 : g_59 39 = g 39 := hz_59 39 (by decide)
    have e40_59 : g_59 40 = g 40 := hz_59 40 (by decide)
    have e44_59 : g_59 44 = g 44 := hz_59 44 (by decide)
    show ZVV _ _ _ 62 _ [ZI ((tWan (mT g) p.toNat : Nat) : Int), ZI p, ZR 8 0] g_59
    refine zs_callV (host := "") rfl kX8_291 vX8_behindOwn (c_X8_behindOwn p (tWan (mT g) p.toNat)) [ZI p, ZI ((tWan (mT g) p.toNat : Nat) : Int)] [] rfl (zroom_of (by omega)) rfl (Nat.le_of_ble_eq_true rfl) ⟨rfl, zmk_lt31 _ (by show (g 8 0 0).toNat ≤ 31; omega), by rw [hz_59 8 (by decide)]; exact hm.1, ⟨by omega, by omega⟩, by rw [hz_59 33 (by decide), hz_59 8 (by decide)]; exact ⟨hhp, hhp2⟩⟩ (fun r_62 g_62 hq_62 => ?_)
    obtain ⟨hr_62, hg_62⟩ := hq_62
    rw [hr_62, hg_62, hz_59 8 (by decide), hz_59 33 (by decide), show mBeh (g 8 0 0) (g 33 0 p.toNat) (tWan (mT g) p.toNat) ((g 8 0 0).toNat - 1) 1 = tNext (mT g) p.toNat ((g 8 0 0).toNat - 1) (g 33 0 p.toNat) from hnext]
    show ZVV _ _ _ 65 _ [ZI (tNext (mT g) p.toNat ((g 8 0 0).toNat - 1) (g 33 0 p.toNat))] g_59
    exact zs_ireturn rfl rfl (⟨by show _ = some (ZI (if g 30 0 p.toNat = 1 then _ else if g 30 0 p.toNat = 2 then _ else if g 30 0 p.toNat = 4 then _ else if g 30 0 p.toNat = 5 then (if g 8 0 3 % (g 31 0 p.toNat + 2) = 0 then -5 else _) else if g 30 0 p.toNat = 3 ∨ g 30 0 p.toNat = 6 then (if (g 30 0 p.toNat = 6 ∧ g 31 0 p.toNat < g 8 0 0) ∧ tFr (mT g) (g 31 0 p.toNat) = true then g 31 0 p.toNat else tSwp (mT g) p.toNat) else _)); first | (rw [if_pos (by omega)]; first | done | rfl) | (rw [if_neg (by omega), if_pos (by omega)]; first | done | rfl) | (rw [if_neg (by omega), if_neg (by omega), if_pos (by omega)]; first | done | rfl) | (rw [if_neg (by omega), if_neg (by omega), if_neg (by omega), if_pos (by omega), if_pos (by omega)]; first | done | rfl) | (rw [if_neg (by omega), if_neg (by omega), if_neg (by omega), if_pos (by omega), if_neg (by omega)]; first | done | rfl) | (rw [if_neg (by omega), if_neg (by omega), if_neg (by omega), if_neg (by omega), if_pos (by omega), if_pos ⟨⟨by omega, by omega⟩, decide_eq_true (show zwho (g 8 0 2) (g 33 0) (g 31 0 p.toNat) = -1 by omega)⟩]; first | done | rfl) | (rw [if_neg (by omega), if_neg (by omega), if_neg (by omega), if_neg (by omega), if_pos (by omega), if_neg (fun z => by first | (have := z.1.1; omega) | (have := z.1.2; omega) | (have hz2 : zwho (g 8 0 2) (g 33 0) (g 31 0 p.toNat) = -1 := of_decide_eq_true z.2; omega))]; first | done | rfl) | (rw [if_neg (by omega), if_neg (by omega), if_neg (by omega), if_neg (by omega), if_neg (by omega)]; first | done | rfl), hz_59⟩)
  by_cases hs_6_3 : g 30 0 p.toNat = 3
  · refine zs_tsIn 66 rfl (by omega) (by omega) (off := 60) (by rw [hs_6_3]; rfl) (by omega) ?_
    refine zs_aload_n (j := 0) (i := 0) rfl rfl rfl ?_
    refine zs_iload_n (j := 1) (i := 1) rfl rfl rfl ?_
    refine zs_callV (host := "") rfl kX8_294 vX8_swapsTo (c_X8_swapsTo p) [ZI p] [] rfl (zroom_of (by omega)) rfl (Nat.le_of_ble_eq_true rfl) ⟨rfl, hm, hh, hpp⟩ (fun r_68 g_68 hq_68 => ?_)
    obtain ⟨hr_68, hz1_68⟩ := hq_68
    rw [hr_68]
    have hz_68 := (show zP g g from (zP.rf g)).tr hz1_68
    have e8_68 : g_68 8 = g 8 := hz_68 8 (by decide)
    have e30_68 : g_68 30 = g 30 := hz_68 30 (by decide)
    have e31_68 : g_68 31 = g 31 := hz_68 31 (by decide)
    have e32_68 : g_68 32 = g 32 := hz_68 32 (by decide)
    have e33_68 : g_68 33 = g 33 := hz_68 33 (by decide)
    have e35_68 : g_68 35 = g 35 := hz_68 35 (by decide)
    have e36_68 : g_68 36 = g 36 := hz_68 36 (by decide)
    have e37_68 : g_68 37 = g 37 := hz_68 37 (by decide)
    have e38_68 : g_68 38 = g 38 := hz_68 38 (by decide)
    have e39_68 : g_68 39 = g 39 := hz_68 39 (by decide)
    have e40_68 : g_68 40 = g 40 := hz_68 40 (by decide)
    have e44_68 : g_68 44 = g 44 := hz_68 44 (by decide)
    show ZVV _ _ _ 71 _ [ZI (tSwp (mT g) p.toNat)] g_68
    exact zs_ireturn rfl rfl (⟨by show _ = some (ZI (if g 30 0 p.toNat = 1 then _ else if g 30 0 p.toNat = 2 then _ else if g 30 0 p.toNat = 4 then _ else if g 30 0 p.toNat = 5 then (if g 8 0 3 % (g 31 0 p.toNat + 2) = 0 then -5 else _) else if g 30 0 p.toNat = 3 ∨ g 30 0 p.toNat = 6 then (if (g 30 0 p.toNat = 6 ∧ g 31 0 p.toNat < g 8 0 0) ∧ tFr (mT g) (g 31 0 p.toNat) = true then g 31 0 p.toNat else tSwp (mT g) p.toNat) else _)); first | (rw [if_pos (by omega)]; first | done | rfl) | (rw [if_neg (by omega), if_pos (by omega)]; first | done | rfl) | (rw [if_neg (by omega), if_neg (by omega), if_pos (by omega)]; first | done | rfl) | (rw [if_neg (by omega), if_neg (by omega), if_neg (by omega), if_pos (by omega), if_pos (by omega)]; first | done | rfl) | (rw [if_neg (by omega), if_neg (by omega), if_neg (by omega), if_pos (by omega), if_neg (by omega)]; first | done | rfl) | (rw [if_neg (by omega), if_neg (by omega), if_neg (by omega), if_neg (by omega), if_pos (by omega), if_pos ⟨⟨by omega, by omega⟩, decide_eq_true (show zwho (g 8 0 2) (g 33 0) (g 31 0 p.toNat) = -1 by omega)⟩]; first | done | rfl) | (rw [if_neg (by omega), if_neg (by omega), if_neg (by omega), if_neg (by omega), if_pos (by omega), if_neg (fun z => by first | (have := z.1.1; omega) | (have := z.1.2; omega) | (have hz2 : zwho (g 8 0 2) (g 33 0) (g 31 0 p.toNat) = -1 := of_decide_eq_true z.2; omega))]; first | done | rfl) | (rw [if_neg (by omega), if_neg (by omega), if_neg (by omega), if_neg (by omega), if_neg (by omega)]; first | done | rfl), hz_68⟩)
  by_cases hs_6_4 : g 30 0 p.toNat = 4
  · refine zs_tsIn 72 rfl (by omega) (by omega) (off := 66) (by rw [hs_6_4]; rfl) (by omega) ?_
    refine zs_aload_n (j := 0) (i := 0) rfl rfl rfl ?_
    refine zs_iload_n (j := 1) (i := 1) rfl rfl rfl ?_
    refine zs_aload_n (j := 0) (i := 0) rfl rfl rfl ?_
    refine zs_iload_n (j := 1) (i := 1) rfl rfl rfl ?_
    refine zs_aload_n (j := 0) (i := 0) rfl rfl rfl ?_
    refine zs_iload_n (j := 1) (i := 1) rfl rfl rfl ?_
    refine zs_callV (host := "") rfl kX8_281 vX8_wanted (c_X8_wanted p) [ZI p] [ZI p, ZR 8 0, ZI p, ZR 8 0] rfl (zroom_of (by omega)) rfl (Nat.le_of_ble_eq_true rfl) ⟨rfl, hm.z (zP.rf g), ⟨hpp.1, by rw [(zP.rf g) 8 (by decide)]; exact hpp.2⟩⟩ (fun r_78 g_78 hq_78 => ?_)
    obtain ⟨hr_78, hz1_78⟩ := hq_78
    rw [hr_78]
    have hz_78 := (show zP g g from (zP.rf g)).tr hz1_78
    have e8_78 : g_78 8 = g 8 := hz_78 8 (by decide)
    have e30_78 : g_78 30 = g 30 := hz_78 30 (by decide)
    have e31_78 : g_78 31 = g 31 := hz_78 31 (by decide)
    have e32_78 : g_78 32 = g 32 := hz_78 32 (by decide)
    have e33_78 : g_78 33 = g 33 := hz_78 33 (by decide)
    have e35_78 : g_78 35 = g 35 := hz_78 35 (by decide)
    have e36_78 : g_78 36 = g 36 := hz_78 36 (by decide)
    have e37_78 : g_78 37 = g 37 := hz_78 37 (by decide)
    have e38_78 : g_78 38 = g 38 := hz_78 38 (by decide)
    have e39_78 : g_78 39 = g 39 := hz_78 39 (by decide)
    have e40_78 : g_78 40 = g 40 := hz_78 40 (by decide)
    have e44_78 : g_78 44 = g 44 := hz_78 44 (by decide)
    show ZVV _ _ _ 81 _ [ZI ((tWan (mT g) p.toNat : Nat) : Int), ZI p, ZR 8 0, ZI p, ZR 8 0] g_78
    show ZVV _ _ _ 81 _ _ _
    refine zs_callV (host := "") rfl kX8_297 vX8_cheap (c_X8_cheap p (tWan (mT g) p.toNat)) [ZI p, ZI ((tWan (mT g) p.toNat : Nat) : Int)] [ZI p, ZR 8 0] rfl (zroom_of (by omega)) rfl (Nat.le_of_ble_eq_true rfl) ⟨rfl, hm.z hz_78, ⟨hpp.1, by rw [hz_78 8 (by decide)]; exact hpp.2⟩, zmk_lt31 _ (by show (g 8 0 0).toNat ≤ 31; omega)⟩ (fun r_81 g_81 hq_81 => ?_)
    obtain ⟨hr_81, hz1_81⟩ := hq_81
    rw [hr_81, mT_z hz_78]
    have hz_81 := (show zP g g_78 from hz_78).tr hz1_81
    have e8_81 : g_81 8 = g 8 := hz_81 8 (by decide)
    have e30_81 : g_81 30 = g 30 := hz_81 30 (by decide)
    have e31_81 : g_81 31 = g 31 := hz_81 31 (by decide)
    have e32_81 : g_81 32 = g 32 := hz_81 32 (by decide)
    have e33_81 : g_81 33 = g 33 := hz_81 33 (by decide)
    have e35_81 : g_81 35 = g 35 := hz_81 35 (by decide)
    have e36_81 : g_81 36 = g 36 := hz_81 36 (by decide)
    have e37_81 : g_81 37 = g 37 := hz_81 37 (by decide)
    have e38_81 : g_81 38 = g 38 := hz_81 38 (by decide)
    have e39_81 : g_81 39 = g 39 := hz_81 39 (by decide)
    have e40_81 : g_81 40 = g 40 := hz_81 40 (by decide)
    have e44_81 : g_81 44 = g 44 := hz_81 44 (by decide)
    show ZVV _ _ _ 84 _ [ZI ((tChe (mT g) p.toNat (tWan (mT g) p.toNat) : Nat) : Int), ZI p, ZR 8 0] g_81
    refine zs_callV (host := "") rfl kX8_287 vX8_nearest (c_X8_nearest p (tChe (mT g) p.toNat (tWan (mT g) p.toNat))) [ZI p, ZI ((tChe (mT g) p.toNat (tWan (mT g) p.toNat) : Nat) : Int)] [] rfl (zroom_of (by omega)) rfl (Nat.le_of_ble_eq_true rfl) ⟨rfl, zmk_lt31 _ (by show (g 8 0 0).toNat ≤ 31; omega), by rw [hz_81 8 (by decide)]; exact hm.1, ⟨by omega, by omega⟩, by rw [hz_81 33 (by decide), hz_81 8 (by decide)]; exact ⟨hhp, hhp2⟩⟩ (fun r_84 g_84 hq_84 => ?_)
    obtain ⟨hr_84, hg_84⟩ := hq_84
    rw [hr_84, hg_84, hz_81 8 (by decide), hz_81 33 (by decide), show mNear (g 8 0 0) (g 33 0 p.toNat) (tChe (mT g) p.toNat (tWan (mT g) p.toNat)) ((g 8 0 0).toNat - 1) 1 = tNear (mT g) p.toNat (10 * g 31 0 p.toNat) (g 8 0 0).toNat 0 (-5) 8 from hnearc]
    show ZVV _ _ _ 87 _ [ZI (tNear (mT g) p.toNat (10 * g 31 0 p.toNat) (g 8 0 0).toNat 0 (-5) 8)] g_81
    exact zs_ireturn rfl rfl (⟨by show _ = some (ZI (if g 30 0 p.toNat = 1 then _ else if g 30 0 p.toNat = 2 then _ else if g 30 0 p.toNat = 4 then _ else if g 30 0 p.toNat = 5 then (if g 8 0 3 % (g 31 0 p.toNat + 2) = 0 then -5 else _) else if g 30 0 p.toNat = 3 ∨ g 30 0 p.toNat = 6 then (if (g 30 0 p.toNat = 6 ∧ g 31 0 p.toNat < g 8 0 0) ∧ tFr (mT g) (g 31 0 p.toNat) = true then g 31 0 p.toNat else tSwp (mT g) p.toNat) else _)); first | (rw [if_pos (by omega)]; first | done | rfl) | (rw [if_neg (by omega), if_pos (by omega)]; first | done | rfl) | (rw [if_neg (by omega), if_neg (by omega), if_pos (by omega)]; first | done | rfl) | (rw [if_neg (by omega), if_neg (by omega), if_neg (by omega), if_pos (by omega), if_pos (by omega)]; first | done | rfl) | (rw [if_neg (by omega), if_neg (by omega), if_neg (by omega), if_pos (by omega), if_neg (by omega)]; first | done | rfl) | (rw [if_neg (by omega), if_neg (by omega), if_neg (by omega), if_neg (by omega), if_pos (by omega), if_pos ⟨⟨by omega, by omega⟩, decide_eq_true (show zwho (g 8 0 2) (g 33 0) (g 31 0 p.toNat) = -1 by omega)⟩]; first | done | rfl) | (rw [if_neg (by omega), if_neg (by omega), if_neg (by omega), if_neg (by omega), if_pos (by omega), if_neg (fun z => by first | (have := z.1.1; omega) | (have := z.1.2; omega) | (have hz2 : zwho (g 8 0 2) (g 33 0) (g 31 0 p.toNat) = -1 := of_decide_eq_true z.2; omega))]; first | done | rfl) | (rw [if_neg (by omega), if_neg (by omega), if_neg (by omega), if_neg (by omega), if_neg (by omega)]; first | done | rfl), hz_81⟩)
  by_cases hs_6_5 : g 30 0 p.toNat = 5
  · refine zs_tsIn 88 rfl (by omega) (by omega) (off := 82) (by rw [hs_6_5]; rfl) (by omega) ?_
    refine zs_aload_n (j := 0) (i := 0) rfl rfl rfl ?_
    refine zs_getfield (f := 8) (k := 3) rfl rfl (trivial) ?_
    show ZVV _ _ _ _ _ (ZI (g 8 0 3) :: _) _
    refine zs_aload_n (j := 0) (i := 0) rfl rfl rfl ?_
    refine zs_getfield (f := 8) (k := 5) rfl rfl (trivial) ?_
    show ZVV _ _ _ _ _ (ZR 31 0 :: _) _
    refine zs_iload_n (j := 1) (i := 1) rfl rfl rfl ?_
    refine zs_iald (n := 6) rfl rfl (by omega) (by omega) ?_
    refine zs_iconst (n := 2) rfl ⟨by omega, by omega⟩ ?_
    show ZVV _ _ _ 99 _ _ _
    refine zs_iadd_r rfl ⟨by omega, by omega⟩ ?_
    refine zs_irem_p rfl (by omega) (by omega) ?_
    refine zs_if_ne 109 rfl (by omega) (fun hc_101 => ?_) (fun hc_101 => ?_)
    · refine zs_aload_n (j := 0) (i := 0) rfl rfl rfl ?_
      refine zs_iload_n (j := 1) (i := 1) rfl rfl rfl ?_
      refine zs_aload_n (j := 0) (i := 0) rfl rfl rfl ?_
      refine zs_iload_n (j := 1) (i := 1) rfl rfl rfl ?_
      refine zs_callV (host := "") rfl kX8_281 vX8_wanted (c_X8_wanted p) [ZI p] [ZI p, ZR 8 0] rfl (zroom_of (by omega)) rfl (Nat.le_of_ble_eq_true rfl) ⟨rfl, hm.z (zP.rf g), ⟨hpp.1, by rw [(zP.rf g) 8 (by decide)]; exact hpp.2⟩⟩ (fun r_113 g_113 hq_113 => ?_)
      obtain ⟨hr_113, hz1_113⟩ := hq_113
      rw [hr_113]
      have hz_113 := (show zP g g from (zP.rf g)).tr hz1_113
      have e8_113 : g_113 8 = g 8 := hz_113 8 (by decide)
      have e30_113 : g_113 30 = g 30 := hz_113 30 (by decide)
      have e31_113 : g_113 31 = g 31 := hz_113 31 (by decide)
      have e32_113 : g_113 32 = g 32 := hz_113 32 (by decide)
      have e33_113 : g_113 33 = g 33 := hz_113 33 (by decide)
      have e35_113 : g_113 35 = g 35 := hz_113 35 (by decide)
      have e36_113 : g_113 36 = g 36 := hz_113 36 (by decide)
      have e37_113 : g_113 37 = g 37 := hz_113 37 (by decide)
      have e38_113 : g_113 38 = g 38 := hz_113 38 (by decide)
      have e39_113 : g_113 39 = g 39 := hz_113 39 (by decide)
      have e40_113 : g_113 40 = g 40 := hz_113 40 (by decide)
      have e44_113 : g_113 44 = g 44 := hz_113 44 (by decide)
      show ZVV _ _ _ 116 _ [ZI ((tWan (mT g) p.toNat : Nat) : Int), ZI p, ZR 8 0] g_113
      refine zs_callV (host := "") rfl kX8_291 vX8_behindOwn (c_X8_behindOwn p (tWan (mT g) p.toNat)) [ZI p, ZI ((tWan (mT g) p.toNat : Nat) : Int)] [] rfl (zroom_of (by omega)) rfl (Nat.le_of_ble_eq_true rfl) ⟨rfl, zmk_lt31 _ (by show (g 8 0 0).toNat ≤ 31; omega), by rw [hz_113 8 (by decide)]; exact hm.1, ⟨by omega, by omega⟩, by rw [hz_113 33 (by decide), hz_113 8 (by decide)]; exact ⟨hhp, hhp2⟩⟩ (fun r_116 g_116 hq_116 => ?_)
      obtain ⟨hr_116, hg_116⟩ := hq_116
      rw [hr_116, hg_116, hz_113 8 (by decide), hz_113 33 (by decide), show mBeh (g 8 0 0) (g 33 0 p.toNat) (tWan (mT g) p.toNat) ((g 8 0 0).toNat - 1) 1 = tNext (mT g) p.toNat ((g 8 0 0).toNat - 1) (g 33 0 p.toNat) from hnext]
      show ZVV _ _ _ 119 _ [ZI (tNext (mT g) p.toNat ((g 8 0 0).toNat - 1) (g 33 0 p.toNat))] g_113
      exact zs_ireturn rfl rfl (⟨by show _ = some (ZI (if g 30 0 p.toNat = 1 then _ else if g 30 0 p.toNat = 2 then _ else if g 30 0 p.toNat = 4 then _ else if g 30 0 p.toNat = 5 then (if g 8 0 3 % (g 31 0 p.toNat + 2) = 0 then -5 else _) else if g 30 0 p.toNat = 3 ∨ g 30 0 p.toNat = 6 then (if (g 30 0 p.toNat = 6 ∧ g 31 0 p.toNat < g 8 0 0) ∧ tFr (mT g) (g 31 0 p.toNat) = true then g 31 0 p.toNat else tSwp (mT g) p.toNat) else _)); first | (rw [if_pos (by omega)]; first | done | rfl) | (rw [if_neg (by omega), if_pos (by omega)]; first | done | rfl) | (rw [if_neg (by omega), if_neg (by omega), if_pos (by omega)]; first | done | rfl) | (rw [if_neg (by omega), if_neg (by omega), if_neg (by omega), if_pos (by omega), if_pos (by omega)]; first | done | rfl) | (rw [if_neg (by omega), if_neg (by omega), if_neg (by omega), if_pos (by omega), if_neg (by omega)]; first | done | rfl) | (rw [if_neg (by omega), if_neg (by omega), if_neg (by omega), if_neg (by omega), if_pos (by omega), if_pos ⟨⟨by omega, by omega⟩, decide_eq_true (show zwho (g 8 0 2) (g 33 0) (g 31 0 p.toNat) = -1 by omega)⟩]; first | done | rfl) | (rw [if_neg (by omega), if_neg (by omega), if_neg (by omega), if_neg (by omega), if_pos (by omega), if_neg (fun z => by first | (have := z.1.1; omega) | (have := z.1.2; omega) | (have hz2 : zwho (g 8 0 2) (g 33 0) (g 31 0 p.toNat) = -1 := of_decide_eq_true z.2; omega))]; first | done | rfl) | (rw [if_neg (by omega), if_neg (by omega), if_neg (by omega), if_neg (by omega), if_neg (by omega)]; first | done | rfl), hz_113⟩)
    · refine zs_bipush (n := (-5)) rfl ⟨by omega, by omega⟩ ?_
      refine zs_goto 119 rfl (by omega) ?_
      exact zs_ireturn rfl rfl (⟨by show _ = some (ZI (if g 30 0 p.toNat = 1 then _ else if g 30 0 p.toNat = 2 then _ else if g 30 0 p.toNat = 4 then _ else if g 30 0 p.toNat = 5 then (if g 8 0 3 % (g 31 0 p.toNat + 2) = 0 then -5 else _) else if g 30 0 p.toNat = 3 ∨ g 30 0 p.toNat = 6 then (if (g 30 0 p.toNat = 6 ∧ g 31 0 p.toNat < g 8 0 0) ∧ tFr (mT g) (g 31 0 p.toNat) = true then g 31 0 p.toNat else tSwp (mT g) p.toNat) else _)); first | (rw [if_pos (by omega)]; first | done | rfl) | (rw [if_neg (by omega), if_pos (by omega)]; first | done | rfl) | (rw [if_neg (by omega), if_neg (by omega), if_pos (by omega)]; first | done | rfl) | (rw [if_neg (by omega), if_neg (by omega), if_neg (by omega), if_pos (by omega), if_pos (by omega)]; first | done | rfl) | (rw [if_neg (by omega), if_neg (by omega), if_neg (by omega), if_pos (by omega), if_neg (by omega)]; first | done | rfl) | (rw [if_neg (by omega), if_neg (by omega), if_neg (by omega), if_neg (by omega), if_pos (by omega), if_pos ⟨⟨by omega, by omega⟩, decide_eq_true (show zwho (g 8 0 2) (g 33 0) (g 31 0 p.toNat) = -1 by omega)⟩]; first | done | rfl) | (rw [if_neg (by omega), if_neg (by omega), if_neg (by omega), if_neg (by omega), if_pos (by omega), if_neg (fun z => by first | (have := z.1.1; omega) | (have := z.1.2; omega) | (have hz2 : zwho (g 8 0 2) (g 33 0) (g 31 0 p.toNat) = -1 := of_decide_eq_true z.2; omega))]; first | done | rfl) | (rw [if_neg (by omega), if_neg (by omega), if_neg (by omega), if_neg (by omega), if_neg (by omega)]; first | done | rfl), (zP.rf g)⟩)
  by_cases hs_6_6 : g 30 0 p.toNat = 6
  · refine zs_tsIn 120 rfl (by omega) (by omega) (off := 114) (by rw [hs_6_6]; rfl) (by omega) ?_
    refine zs_aload_n (j := 0) (i := 0) rfl rfl rfl ?_
    refine zs_aload_n (j := 0) (i := 0) rfl rfl rfl ?_
    refine zs_getfield (f := 8) (k := 5) rfl rfl (trivial) ?_
    show ZVV _ _ _ _ _ (ZR 31 0 :: _) _
    refine zs_iload_n (j := 1) (i := 1) rfl rfl rfl ?_
    refine zs_iald (n := 6) rfl rfl (by omega) (by omega) ?_
    refine zs_callV (host := "") rfl kX8_174 vX8_isHouse (c_X8_isHouse (g 31 0 p.toNat)) [ZI (g 31 0 p.toNat)] [] rfl (zroom_of (by omega)) rfl (Nat.le_of_ble_eq_true rfl) (⟨rfl, by omega⟩) (fun r_127 g_127 hq_127 => ?_)
    obtain ⟨hr_127, hg_127⟩ := hq_127
    rw [hr_127, hg_127]
    show ZVV _ _ _ 130 _ [ZI (if 0 ≤ g 31 0 p.toNat ∧ g 31 0 p.toNat < g 8 0 0 then 1 else 0)] _
    refine zs_if_eq 155 rfl (by omega) (fun hc_130 => ?_) (fun hc_130 => ?_)
    · refine zs_aload_n (j := 0) (i := 0) rfl rfl rfl ?_
      refine zs_iload_n (j := 1) (i := 1) rfl rfl rfl ?_
      refine zs_callV (host := "") rfl kX8_294 vX8_swapsTo (c_X8_swapsTo p) [ZI p] [] rfl (zroom_of (by omega)) rfl (Nat.le_of_ble_eq_true rfl) ⟨rfl, hm, hh, hpp⟩ (fun r_157 g_157 hq_157 => ?_)
      obtain ⟨hr_157, hz1_157⟩ := hq_157
      rw [hr_157]
      have hz_157 := (show zP g g from (zP.rf g)).tr hz1_157
      have e8_157 : g_157 8 = g 8 := hz_157 8 (by decide)
      have e30_157 : g_157 30 = g 30 := hz_157 30 (by decide)
      have e31_157 : g_157 31 = g 31 := hz_157 31 (by decide)
      have e32_157 : g_157 32 = g 32 := hz_157 32 (by decide)
      have e33_157 : g_157 33 = g 33 := hz_157 33 (by decide)
      have e35_157 : g_157 35 = g 35 := hz_157 35 (by decide)
      have e36_157 : g_157 36 = g 36 := hz_157 36 (by decide)
      have e37_157 : g_157 37 = g 37 := hz_157 37 (by decide)
      have e38_157 : g_157 38 = g 38 := hz_157 38 (by decide)
      have e39_157 : g_157 39 = g 39 := hz_157 39 (by decide)
      have e40_157 : g_157 40 = g 40 := hz_157 40 (by decide)
      have e44_157 : g_157 44 = g 44 := hz_157 44 (by decide)
      show ZVV _ _ _ 160 _ [ZI (tSwp (mT g) p.toNat)] g_157
      exact zs_ireturn rfl rfl (⟨by show _ = some (ZI (if g 30 0 p.toNat = 1 then _ else if g 30 0 p.toNat = 2 then _ else if g 30 0 p.toNat = 4 then _ else if g 30 0 p.toNat = 5 then (if g 8 0 3 % (g 31 0 p.toNat + 2) = 0 then -5 else _) else if g 30 0 p.toNat = 3 ∨ g 30 0 p.toNat = 6 then (if (g 30 0 p.toNat = 6 ∧ g 31 0 p.toNat < g 8 0 0) ∧ tFr (mT g) (g 31 0 p.toNat) = true then g 31 0 p.toNat else tSwp (mT g) p.toNat) else _)); first | (rw [if_pos (by omega)]; first | done | rfl) | (rw [if_neg (by omega), if_pos (by omega)]; first | done | rfl) | (rw [if_neg (by omega), if_neg (by omega), if_pos (by omega)]; first | done | rfl) | (rw [if_neg (by omega), if_neg (by omega), if_neg (by omega), if_pos (by omega), if_pos (by omega)]; first | done | rfl) | (rw [if_neg (by omega), if_neg (by omega), if_neg (by omega), if_pos (by omega), if_neg (by omega)]; first | done | rfl) | (rw [if_neg (by omega), if_neg (by omega), if_neg (by omega), if_neg (by omega), if_pos (by omega), if_pos ⟨⟨by omega, by omega⟩, decide_eq_true (show zwho (g 8 0 2) (g 33 0) (g 31 0 p.toNat) = -1 by omega)⟩]; first | done | rfl) | (rw [if_neg (by omega), if_neg (by omega), if_neg (by omega), if_neg (by omega), if_pos (by omega), if_neg (fun z => by first | (have := z.1.1; omega) | (have := z.1.2; omega) | (have hz2 : zwho (g 8 0 2) (g 33 0) (g 31 0 p.toNat) = -1 := of_decide_eq_true z.2; omega))]; first | done | rfl) | (rw [if_neg (by omega), if_neg (by omega), if_neg (by omega), if_neg (by omega), if_neg (by omega)]; first | done | rfl), hz_157⟩)
    · refine zs_aload_n (j := 0) (i := 0) rfl rfl rfl ?_
      refine zs_aload_n (j := 0) (i := 0) rfl rfl rfl ?_
      refine zs_getfield (f := 8) (k := 5) rfl rfl (trivial) ?_
      show ZVV _ _ _ _ _ (ZR 31 0 :: _) _
      refine zs_iload_n (j := 1) (i := 1) rfl rfl rfl ?_
      refine zs_iald (n := 6) rfl rfl (by omega) (by omega) ?_
      refine zs_callV (host := "") rfl kX8_182 vX8_whoIn (c_X8_whoIn (g 31 0 p.toNat)) [ZI (g 31 0 p.toNat)] [] rfl (zroom_of (by omega)) rfl (Nat.le_of_ble_eq_true rfl) (⟨rfl, by omega⟩) (fun r_140 g_140 hq_140 => ?_)
      obtain ⟨hr_140, hg_140⟩ := hq_140
      rw [hr_140, hg_140]
      show ZVV _ _ _ 143 _ [ZI (zwho (g 8 0 2) (g 33 0) (g 31 0 p.toNat))] _
      have hw := zfst_rng (fun q => decide (g 33 0 q = g 31 0 p.toNat)) (g 8 0 2).toNat 0
      have hw2 : zwho (g 8 0 2) (g 33 0) (g 31 0 p.toNat) = -1 ∨ 0 ≤ zwho (g 8 0 2) (g 33 0) (g 31 0 p.toNat) := by unfold zwho; omega
      refine zs_if_ge 155 rfl (by omega) (fun hc_143 => ?_) (fun hc_143 => ?_)
      · refine zs_aload_n (j := 0) (i := 0) rfl rfl rfl ?_
        refine zs_iload_n (j := 1) (i := 1) rfl rfl rfl ?_
        refine zs_callV (host := "") rfl kX8_294 vX8_swapsTo (c_X8_swapsTo p) [ZI p] [] rfl (zroom_of (by omega)) rfl (Nat.le_of_ble_eq_true rfl) ⟨rfl, hm, hh, hpp⟩ (fun r_157 g_157 hq_157 => ?_)
        obtain ⟨hr_157, hz1_157⟩ := hq_157
        rw [hr_157]
        have hz_157 := (show zP g g from (zP.rf g)).tr hz1_157
        have e8_157 : g_157 8 = g 8 := hz_157 8 (by decide)
        have e30_157 : g_157 30 = g 30 := hz_157 30 (by decide)
        have e31_157 : g_157 31 = g 31 := hz_157 31 (by decide)
        have e32_157 : g_157 32 = g 32 := hz_157 32 (by decide)
        have e33_157 : g_157 33 = g 33 := hz_157 33 (by decide)
        have e35_157 : g_157 35 = g 35 := hz_157 35 (by decide)
        have e36_157 : g_157 36 = g 36 := hz_157 36 (by decide)
        have e37_157 : g_157 37 = g 37 := hz_157 37 (by decide)
        have e38_157 : g_157 38 = g 38 := hz_157 38 (by decide)
        have e39_157 : g_157 39 = g 39 := hz_157 39 (by decide)
        have e40_157 : g_157 40 = g 40 := hz_157 40 (by decide)
        have e44_157 : g_157 44 = g 44 := hz_157 44 (by decide)
        show ZVV _ _ _ 160 _ [ZI (tSwp (mT g) p.toNat)] g_157
        exact zs_ireturn rfl rfl (⟨by show _ = some (ZI (if g 30 0 p.toNat = 1 then _ else if g 30 0 p.toNat = 2 then _ else if g 30 0 p.toNat = 4 then _ else if g 30 0 p.toNat = 5 then (if g 8 0 3 % (g 31 0 p.toNat + 2) = 0 then -5 else _) else if g 30 0 p.toNat = 3 ∨ g 30 0 p.toNat = 6 then (if (g 30 0 p.toNat = 6 ∧ g 31 0 p.toNat < g 8 0 0) ∧ tFr (mT g) (g 31 0 p.toNat) = true then g 31 0 p.toNat else tSwp (mT g) p.toNat) else _)); first | (rw [if_pos (by omega)]; first | done | rfl) | (rw [if_neg (by omega), if_pos (by omega)]; first | done | rfl) | (rw [if_neg (by omega), if_neg (by omega), if_pos (by omega)]; first | done | rfl) | (rw [if_neg (by omega), if_neg (by omega), if_neg (by omega), if_pos (by omega), if_pos (by omega)]; first | done | rfl) | (rw [if_neg (by omega), if_neg (by omega), if_neg (by omega), if_pos (by omega), if_neg (by omega)]; first | done | rfl) | (rw [if_neg (by omega), if_neg (by omega), if_neg (by omega), if_neg (by omega), if_pos (by omega), if_pos ⟨⟨by omega, by omega⟩, decide_eq_true (show zwho (g 8 0 2) (g 33 0) (g 31 0 p.toNat) = -1 by omega)⟩]; first | done | rfl) | (rw [if_neg (by omega), if_neg (by omega), if_neg (by omega), if_neg (by omega), if_pos (by omega), if_neg (fun z => by first | (have := z.1.1; omega) | (have := z.1.2; omega) | (have hz2 : zwho (g 8 0 2) (g 33 0) (g 31 0 p.toNat) = -1 := of_decide_eq_true z.2; omega))]; first | done | rfl) | (rw [if_neg (by omega), if_neg (by omega), if_neg (by omega), if_neg (by omega), if_neg (by omega)]; first | done | rfl), hz_157⟩)
      · refine zs_aload_n (j := 0) (i := 0) rfl rfl rfl ?_
        refine zs_getfield (f := 8) (k := 5) rfl rfl (trivial) ?_
        show ZVV _ _ _ _ _ (ZR 31 0 :: _) _
        refine zs_iload_n (j := 1) (i := 1) rfl rfl rfl ?_
        refine zs_iald (n := 6) rfl rfl (by omega) (by omega) ?_
        refine zs_goto 160 rfl (by omega) ?_
        exact zs_ireturn rfl rfl (⟨by show _ = some (ZI (if g 30 0 p.toNat = 1 then _ else if g 30 0 p.toNat = 2 then _ else if g 30 0 p.toNat = 4 then _ else if g 30 0 p.toNat = 5 then (if g 8 0 3 % (g 31 0 p.toNat + 2) = 0 then -5 else _) else if g 30 0 p.toNat = 3 ∨ g 30 0 p.toNat = 6 then (if (g 30 0 p.toNat = 6 ∧ g 31 0 p.toNat < g 8 0 0) ∧ tFr (mT g) (g 31 0 p.toNat) = true then g 31 0 p.toNat else tSwp (mT g) p.toNat) else _)); first | (rw [if_pos (by omega)]; first | done | rfl) | (rw [if_neg (by omega), if_pos (by omega)]; first | done | rfl) | (rw [if_neg (by omega), if_neg (by omega), if_pos (by omega)]; first | done | rfl) | (rw [if_neg (by omega), if_neg (by omega), if_neg (by omega), if_pos (by omega), if_pos (by omega)]; first | done | rfl) | (rw [if_neg (by omega), if_neg (by omega), if_neg (by omega), if_pos (by omega), if_neg (by omega)]; first | done | rfl) | (rw [if_neg (by omega), if_neg (by omega), if_neg (by omega), if_neg (by omega), if_pos (by omega), if_pos ⟨⟨by omega, by omega⟩, decide_eq_true (show zwho (g 8 0 2) (g 33 0) (g 31 0 p.toNat) = -1 by omega)⟩]; first | done | rfl) | (rw [if_neg (by omega), if_neg (by omega), if_neg (by omega), if_neg (by omega), if_pos (by omega), if_neg (fun z => by first | (have := z.1.1; omega) | (have := z.1.2; omega) | (have hz2 : zwho (g 8 0 2) (g 33 0) (g 31 0 p.toNat) = -1 := of_decide_eq_true z.2; omega))]; first | done | rfl) | (rw [if_neg (by omega), if_neg (by omega), if_neg (by omega), if_neg (by omega), if_neg (by omega)]; first | done | rfl), (zP.rf g)⟩)
  refine zs_tsOut 161 rfl (by omega) (by omega) ?_
  refine zs_aload_n (j := 0) (i := 0) rfl rfl rfl ?_
  refine zs_aload_n (j := 0) (i := 0) rfl rfl rfl ?_
  refine zs_iload_n (j := 1) (i := 1) rfl rfl rfl ?_
  refine zs_callV (host := "") rfl kX8_281 vX8_wanted (c_X8_wanted p) [ZI p] [ZR 8 0] rfl (zroom_of (by omega)) rfl (Nat.le_of_ble_eq_true rfl) ⟨rfl, hm.z (zP.rf g), ⟨hpp.1, by rw [(zP.rf g) 8 (by decide)]; exact hpp.2⟩⟩ (fun r_164 g_164 hq_164 => ?_)
  obtain ⟨hr_164, hz1_164⟩ := hq_164
  rw [hr_164]
  have hz_164 := (show zP g g from (zP.rf g)).tr hz1_164
  have e8_164 : g_164 8 = g 8 := hz_164 8 (by decide)
  have e30_164 : g_164 30 = g 30 := hz_164 30 (by decide)
  have e31_164 : g_164 31 = g 31 := hz_164 31 (by decide)
  have e32_164 : g_164 32 = g 32 := hz_164 32 (by decide)
  have e33_164 : g_164 33 = g 33 := hz_164 33 (by decide)
  have e35_164 : g_164 35 = g 35 := hz_164 35 (by decide)
  have e36_164 : g_164 36 = g 36 := hz_164 36 (by decide)
  have e37_164 : g_164 37 = g 37 := hz_164 37 (by decide)
  have e38_164 : g_164 38 = g 38 := hz_164 38 (by decide)
  have e39_164 : g_164 39 = g 39 := hz_164 39 (by decide)
  have e40_164 : g_164 40 = g 40 := hz_164 40 (by decide)
  have e44_164 : g_164 44 = g 44 := hz_164 44 (by decide)
  show ZVV _ _ _ 167 _ [ZI ((tWan (mT g) p.toNat : Nat) : Int), ZR 8 0] g_164
  refine zs_callV (host := "") rfl kX8_284 vX8_leastOf (c_X8_leastOf (tWan (mT g) p.toNat)) [ZI ((tWan (mT g) p.toNat : Nat) : Int)] [] rfl (zroom_of (by omega)) rfl (Nat.le_of_ble_eq_true rfl) ⟨rfl, by rw [hz_164 8 (by decide)]; exact hm.1, zmk_lt31 _ (by show (g 8 0 0).toNat ≤ 31; omega)⟩ (fun r_167 g_167 hq_167 => ?_)
  obtain ⟨hr_167, hg_167⟩ := hq_167
  rw [hr_167, hg_167, hz_164 8 (by decide), show mLeast (g 8 0 0) (tWan (mT g) p.toNat) = tLeast (mT g) p.toNat from least_mask (mT g) p.toNat]
  show ZVV _ _ _ 170 _ [ZI (tLeast (mT g) p.toNat)] g_164
  exact zs_ireturn rfl rfl (⟨by show _ = some (ZI (if g 30 0 p.toNat = 1 then _ else if g 30 0 p.toNat = 2 then _ else if g 30 0 p.toNat = 4 then _ else if g 30 0 p.toNat = 5 then (if g 8 0 3 % (g 31 0 p.toNat + 2) = 0 then -5 else _) else if g 30 0 p.toNat = 3 ∨ g 30 0 p.toNat = 6 then (if (g 30 0 p.toNat = 6 ∧ g 31 0 p.toNat < g 8 0 0) ∧ tFr (mT g) (g 31 0 p.toNat) = true then g 31 0 p.toNat else tSwp (mT g) p.toNat) else _)); first | (rw [if_pos (by omega)]; first | done | rfl) | (rw [if_neg (by omega), if_pos (by omega)]; first | done | rfl) | (rw [if_neg (by omega), if_neg (by omega), if_pos (by omega)]; first | done | rfl) | (rw [if_neg (by omega), if_neg (by omega), if_neg (by omega), if_pos (by omega), if_pos (by omega)]; first | done | rfl) | (rw [if_neg (by omega), if_neg (by omega), if_neg (by omega), if_pos (by omega), if_neg (by omega)]; first | done | rfl) | (rw [if_neg (by omega), if_neg (by omega), if_neg (by omega), if_neg (by omega), if_pos (by omega), if_pos ⟨⟨by omega, by omega⟩, decide_eq_true (show zwho (g 8 0 2) (g 33 0) (g 31 0 p.toNat) = -1 by omega)⟩]; first | done | rfl) | (rw [if_neg (by omega), if_neg (by omega), if_neg (by omega), if_neg (by omega), if_pos (by omega), if_neg (fun z => by first | (have := z.1.1; omega) | (have := z.1.2; omega) | (have hz2 : zwho (g 8 0 2) (g 33 0) (g 31 0 p.toNat) = -1 := of_decide_eq_true z.2; omega))]; first | done | rfl) | (rw [if_neg (by omega), if_neg (by omega), if_neg (by omega), if_neg (by omega), if_neg (by omega)]; first | done | rfl), hz_164⟩)

