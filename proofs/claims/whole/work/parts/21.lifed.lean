def tSetH (t : ZT) (f : Nat → Int) : ZT := (t.1, (tkd t, tv t, tsr t, f), t.2.2)
def tswap (t : ZT) (p q : Nat) : ZT := tSetH t (fun c => if c = q then tho t p else if c = p then tho t q else tho t c)
def tPart (t : ZT) (p : Nat) (n k : Nat) : Int := match n with
  | 0 => -1
  | n + 1 => if tsr t k ≠ tsr t p ∧ (tSu (tswap t p k) p (tho t k) = true ∧ tSu (tswap t p k) k (tho t p) = true) then (k : Int) else tPart t p n (k + 1)
theorem tPart_s (t : ZT) (p : Nat) (n k : Nat) : tPart t p (n + 1) k = if tsr t k ≠ tsr t p ∧ (tSu (tswap t p k) p (tho t k) = true ∧ tSu (tswap t p k) k (tho t p) = true) then (k : Int) else tPart t p n (k + 1) := rfl
theorem tPart_rng (t : ZT) (p : Nat) : ∀ n k : Nat, tPart t p n k = -1 ∨ ((k : Int) ≤ tPart t p n k ∧ tPart t p n k < k + n) := by
  intro n
  induction n with
  | zero => intro k; exact Or.inl rfl
  | succ n ih =>
    intro k
    rw [tPart_s]
    split
    · exact Or.inr ⟨by omega, by omega⟩
    · rcases ih (k + 1) with q | q
      · exact Or.inl q
      · exact Or.inr ⟨by omega, by omega⟩
theorem lok_house {G M : ZG} (hL : LOK G) (h1 : ∀ f, f ≠ 18 → M f = G f) (h2 : ∀ p : Nat, (p : Int) < G 2 2 3 → -1 ≤ M 18 2 p ∧ M 18 2 p < G 2 2 0) : LOK M := by
  obtain ⟨k1, k2, k3, k4, k5⟩ := hL
  obtain ⟨a1, a2, a3, a4, a5, a6⟩ := k1
  refine ⟨⟨?_, ?_, ?_, ?_, ?_, ?_⟩, ?_, ?_, ?_, ?_⟩
  · rw [h1 2 (by decide)]; exact a1
  · rw [h1 2 (by decide)]; exact a2
  · rw [h1 2 (by decide)]; exact a3
  · rw [h1 2 (by decide)]; exact a4
  · rw [h1 2 (by decide), h1 14 (by decide)]; exact a5
  · intro p hp
    rw [h1 2 (by decide)] at hp
    rw [h1 2 (by decide), h1 15 (by decide), h1 16 (by decide), h1 17 (by decide)]
    exact ⟨h2 p hp, (a6 p hp).2⟩
  · unfold HOLD; rw [h1 2 (by decide), h1 3 (by decide), h1 20 (by decide)]; exact k2
  · unfold CK zwC; rw [h1 2 (by decide), h1 3 (by decide), h1 20 (by decide), h1 13 (by decide), h1 1 (by decide), h1 12 (by decide), h1 17 (by decide), h1 15 (by decide)]; exact k3
  · rw [h1 1 (by decide)]; exact k4
  · rw [h1 1 (by decide)]; exact k5
/-- two have changed houses -/
def mswap (G : ZG) (p q : Nat) : ZG := zup (zup G 18 2 p (G 18 2 q)) 18 2 q (G 18 2 p)
theorem mswap_18 (G : ZG) (p q : Nat) : mswap G p q 18 2 = fun c => if c = q then G 18 2 p else if c = p then G 18 2 q else G 18 2 c := by
  unfold mswap; rw [zup_at, zup_at]
theorem mswap_nf (G : ZG) (p q : Nat) {f : Nat} (h : f ≠ 18) : mswap G p q f = G f := by
  unfold mswap; rw [zup_nf _ _ _ _ h, zup_nf _ _ _ _ h]
theorem mswap_ni (G : ZG) (p q : Nat) {i : Nat} (h : i ≠ 2) : mswap G p q 18 i = G 18 i := by
  unfold mswap; rw [zup_ni _ _ _ _ h, zup_ni _ _ _ _ h]
theorem mswap_lok {G : ZG} (hL : LOK G) {p q : Nat} (hp : (p : Int) < G 2 2 3) (hq : (q : Int) < G 2 2 3) : LOK (mswap G p q) := by
  refine lok_house hL (fun f hf => mswap_nf G p q hf) (fun c hc => ?_)
  rw [mswap_18]
  have h1 := (hL.1.2.2.2.2.2 p hp).1
  have h2 := (hL.1.2.2.2.2.2 q hq).1
  have h3 := (hL.1.2.2.2.2.2 c hc).1
  dsimp only
  split
  · exact h1
  · split
    · exact h2
    · exact h3
theorem mswap_town (G : ZG) (p q : Nat) : zTL (mswap G p q) = tswap (zTL G) p q := by
  unfold zTL zTC zwC
  rw [mswap_18, mswap_nf G p q (f := 1) (by decide), mswap_nf G p q (f := 2) (by decide), mswap_nf G p q (f := 3) (by decide), mswap_nf G p q (f := 15) (by decide), mswap_nf G p q (f := 16) (by decide), mswap_nf G p q (f := 17) (by decide), mswap_nf G p q (f := 20) (by decide)]
  rfl
theorem mswap_back {g G X : ZG} {p q : Nat} (hS : zSL g G) (hX : zSL (mswap G p q) X) : zSL g (mswap X p q) := by
  refine ⟨fun f h1 h2 h3 h4 => ?_, fun i k h3 h4 h5 => ?_⟩
  · by_cases hf : f = 18
    · subst hf
      funext i
      by_cases hi : i = 2
      · subst hi
        rw [mswap_18, hX.1 18 h1 h2 h3 h4, mswap_18]
        funext c
        have hS18 := hS.1 18 h1 h2 h3 h4
        rw [← hS18]
        dsimp only
        by_cases c1 : c = q
        · subst c1
          by_cases c2 : p = c
          · subst c2; simp
          · simp [c2]
        · by_cases c2 : c = p
          · subst c2; simp [c1]
          · simp [c1, c2]
      · rw [mswap_ni _ _ _ hi, hX.1 18 h1 h2 h3 h4, mswap_ni _ _ _ hi, hS.1 18 h1 h2 h3 h4]
    · rw [mswap_nf _ _ _ hf, hX.1 f h1 h2 h3 h4, mswap_nf _ _ _ hf, hS.1 f h1 h2 h3 h4]
  · rw [mswap_nf _ _ _ (by decide), hX.2 i k h3 h4 h5, mswap_nf _ _ _ (by decide), hS.2 i k h3 h4 h5]
theorem l_X1_partnerOf {Y : ZW} {Q : Option ZV → ZG → Prop} {g : ZG} {p : Int} (hg : LOK g) (hh : LHH g) (hpp : 0 ≤ p ∧ p < g 2 2 3) : ∀ (n k : Nat) (z3 : ZV) (G : ZG), (∀ y, z3 ≠ ZJ y) → (k : Int) + n = g 2 2 3 → zSL g G → LOK G → (∀ G', zSL g G' → LOK G' → Q (some (ZI (tPart (zTL g) p.toNat n k))) G') → ZVV Y mX1_partnerOf (zcx Y 4 Q) 2 [ZR 1 0, ZI p, ZI (k : Int), z3] [] G := by
  have hn6 := hg.1.2.2.1
  have hn8 := hg.1.1
  have hhp : 0 ≤ g 18 2 p.toNat ∧ g 18 2 p.toNat < g 2 2 0 := ⟨hh p.toNat (by omega), (hg.1.2.2.2.2.2 p.toNat (by omega)).1.2⟩
  intro n
  induction n with
  | zero =>
    intro k z3 G hz3 hk hS hL hq
    have e2 : G 2 = g 2 := hS.1 2 (by decide) (by decide) (by decide) (by decide)
    have e15 : G 15 = g 15 := hS.1 15 (by decide) (by decide) (by decide) (by decide)
    have e16 : G 16 = g 16 := hS.1 16 (by decide) (by decide) (by decide) (by decide)
    have e17 : G 17 = g 17 := hS.1 17 (by decide) (by decide) (by decide) (by decide)
    have e18 : G 18 = g 18 := hS.1 18 (by decide) (by decide) (by decide) (by decide)
    refine zs_iload_n (j := 2) (i := 2) rfl rfl rfl ?_
    refine zs_aload_n (j := 0) (i := 0) rfl rfl rfl ?_
    refine zs_getfield (f := 1) (k := 0) rfl rfl (trivial) ?_
    show ZVV _ _ _ _ _ (ZR 2 2 :: _) _
    refine zs_getfield (f := 2) (k := 3) rfl rfl (trivial) ?_
    show ZVV _ _ _ _ _ (ZI (G 2 2 3) :: _) _
    rw [e2]
    refine zs_icmp_ge 98 rfl (by omega) (fun hc_10 => ?_) (fun hc_10 => ?_)
    · refine zs_iconst (n := (-1)) rfl ⟨by omega, by omega⟩ ?_
      exact zs_ireturn rfl rfl (hq G hS hL)
    · exfalso; omega
  | succ n ih =>
    intro k z3 G hz3 hk hS hL hq
    have e2 : G 2 = g 2 := hS.1 2 (by decide) (by decide) (by decide) (by decide)
    have e15 : G 15 = g 15 := hS.1 15 (by decide) (by decide) (by decide) (by decide)
    have e16 : G 16 = g 16 := hS.1 16 (by decide) (by decide) (by decide) (by decide)
    have e17 : G 17 = g 17 := hS.1 17 (by decide) (by decide) (by decide) (by decide)
    have e18 : G 18 = g 18 := hS.1 18 (by decide) (by decide) (by decide) (by decide)
    have hhk : 0 ≤ g 18 2 k ∧ g 18 2 k < g 2 2 0 := ⟨hh k (by omega), (hg.1.2.2.2.2.2 k (by omega)).1.2⟩
    simp only [tPart_s] at hq
    refine zs_iload_n (j := 2) (i := 2) rfl rfl rfl ?_
    refine zs_aload_n (j := 0) (i := 0) rfl rfl rfl ?_
    refine zs_getfield (f := 1) (k := 0) rfl rfl (trivial) ?_
    show ZVV _ _ _ _ _ (ZR 2 2 :: _) _
    refine zs_getfield (f := 2) (k := 3) rfl rfl (trivial) ?_
    show ZVV _ _ _ _ _ (ZI (G 2 2 3) :: _) _
    rw [e2]
    refine zs_icmp_ge 98 rfl (by omega) (fun hc_10 => ?_) (fun hc_10 => ?_)
    · exfalso; omega
    · refine zs_aload_n (j := 0) (i := 0) rfl rfl rfl ?_
      refine zs_getfield (f := 1) (k := 0) rfl rfl (trivial) ?_
      show ZVV _ _ _ _ _ (ZR 2 2 :: _) _
      refine zs_getfield (f := 2) (k := 6) rfl rfl (trivial) ?_
      show ZVV _ _ _ _ _ (ZR 17 2 :: _) _
      refine zs_iload_n (j := 2) (i := 2) rfl rfl rfl ?_
      refine zs_iald (n := 6) rfl rfl (by omega) (by omega) ?_
      show ZVV _ _ _ _ _ (ZI (G 17 2 k) :: _) _
      rw [e17]
      refine zs_aload_n (j := 0) (i := 0) rfl rfl rfl ?_
      refine zs_getfield (f := 1) (k := 0) rfl rfl (trivial) ?_
      show ZVV _ _ _ _ _ (ZR 2 2 :: _) _
      show ZVV _ _ _ 26 _ _ _
      refine zs_getfield (f := 2) (k := 6) rfl rfl (trivial) ?_
      show ZVV _ _ _ _ _ (ZR 17 2 :: _) _
      refine zs_iload_n (j := 1) (i := 1) rfl rfl rfl ?_
      refine zs_iald (n := 6) rfl rfl (by omega) (by omega) ?_
      show ZVV _ _ _ _ _ (ZI (G 17 2 p.toNat) :: _) _
      rw [e17]
      refine zs_icmp_eq 92 rfl (by omega) (fun hc_31 => ?_) (fun hc_31 => ?_)
      · refine zs_iinc_r (i := 2) rfl rfl (by intro r x hr; have hr2 : r = 1 := (by omega); subst hr2; intro z; cases z) ⟨by omega, by omega⟩ ?_
        show ZVV _ _ _ _ [ZR 1 0, ZI p, ZI ((k : Int) + 1), z3] _ _
        refine zs_goto 2 rfl (by omega) ?_
        refine ih (k + 1) _ G hz3 (by omega) hS hL (fun G' a b => ?_)
        have := hq G' a b
        rw [if_neg (fun z => z.1 hc_31)] at this
        exact this
      · refine zs_aload_n (j := 0) (i := 0) rfl rfl rfl ?_
        refine zs_iload_n (j := 1) (i := 1) rfl rfl rfl ?_
        refine zs_iload_n (j := 2) (i := 2) rfl rfl rfl ?_
        refine zs_callV (host := "") rfl kX1_113 vX1_changeHouses (c_X1_changeHouses p (k : Int)) [ZI p, ZI (k : Int)] [] rfl (zroom_of (by omega)) rfl (Nat.le_of_ble_eq_true rfl) ⟨rfl, ⟨by omega, by omega⟩, ⟨by omega, by omega⟩⟩ (fun r_37 g_37 hq_37 => ?_)
        obtain ⟨hr_37, hg_37⟩ := hq_37
        have hg_37 : g_37 = mswap G p.toNat k := hg_37
        rw [hr_37]
        have hM : LOK g_37 := by rw [hg_37]; exact mswap_lok hL (by rw [e2]; omega) (by rw [e2]; omega)
        have hT : zTL g_37 = tswap (zTL g) p.toNat k := by rw [hg_37, mswap_town, hS.townL]
        have m2 : g_37 2 = g 2 := by rw [hg_37, mswap_nf _ _ _ (by decide), e2]
        have m17 : g_37 17 = g 17 := by rw [hg_37, mswap_nf _ _ _ (by decide), e17]
        have hpk : p.toNat ≠ k := fun z => hc_31 (by rw [z])
        have mp : g_37 18 2 p.toNat = g 18 2 k := by rw [hg_37, mswap_18, e18]; simp [hpk]
        have mk : g_37 18 2 k = g 18 2 p.toNat := by rw [hg_37, mswap_18, e18]; simp
        show ZVV _ _ _ 40 _ [] g_37
        refine zs_aload_n (j := 0) (i := 0) rfl rfl rfl ?_
        refine zs_iload_n (j := 1) (i := 1) rfl rfl rfl ?_
        refine zs_aload_n (j := 0) (i := 0) rfl rfl rfl ?_
        show ZVV _ _ _ 43 _ _ _
        refine zs_getfield (f := 1) (k := 0) rfl rfl (trivial) ?_
        show ZVV _ _ _ _ _ (ZR 2 2 :: _) _
        refine zs_getfield (f := 2) (k := 7) rfl rfl (trivial) ?_
        show ZVV _ _ _ _ _ (ZR 18 2 :: _) _
        refine zs_iload_n (j := 1) (i := 1) rfl rfl rfl ?_
        refine zs_iald (n := 6) rfl rfl (by omega) (by omega) ?_
        rw [mp]
        refine zs_callV (host := "") rfl kX1_82 vX1_suits (c_X1_suits p (g 18 2 k)) [ZI p, ZI (g 18 2 k)] [] rfl (zroom_of (by omega)) rfl (Nat.le_of_ble_eq_true rfl) ⟨rfl, hM, (by rw [m2]; exact hpp), (by rw [m2]; exact hhk)⟩ (fun r_51 g_51 hq_51 => ?_)
        obtain ⟨hr_51, hS1_51, hL_51, -, -⟩ := hq_51
        rw [hr_51, hT]
        have n2 : g_51 2 = g 2 := (hS1_51.1 2 (by decide) (by decide) (by decide) (by decide)).trans m2
        have n18 : g_51 18 2 k = g 18 2 p.toNat := by rw [hS1_51.1 18 (by decide) (by decide) (by decide) (by decide)]; exact mk
        show ZVV _ _ _ 54 _ [ZI (if tSu (tswap (zTL g) p.toNat k) p.toNat (g 18 2 k) = true then 1 else 0)] g_51
        refine zs_if_eq 78 rfl (by omega) (fun hc_54 => ?_) (fun hc_54 => ?_)
        · refine zs_iconst (n := 0) rfl ⟨by omega, by omega⟩ ?_
          refine zs_istore_n (j := 3) (i := 3) rfl rfl (by decide) (by intro r x hr; have hr2 : r = 2 := (by omega); subst hr2; intro z; cases z) ?_
          show ZVV _ _ _ _ [ZR 1 0, ZI p, ZI (k : Int), ZI 0] _ _
          refine zs_aload_n (j := 0) (i := 0) rfl rfl rfl ?_
          refine zs_iload_n (j := 1) (i := 1) rfl rfl rfl ?_
          refine zs_iload_n (j := 2) (i := 2) rfl rfl rfl ?_
          refine zs_callV (host := "") rfl kX1_113 vX1_changeHouses (c_X1_changeHouses p (k : Int)) [ZI p, ZI (k : Int)] [] rfl (zroom_of (by omega)) rfl (Nat.le_of_ble_eq_true rfl) ⟨rfl, ⟨by omega, by omega⟩, ⟨by omega, by omega⟩⟩ (fun r_83 g_83 hq_83 => ?_)
          obtain ⟨hr_83, hg_83⟩ := hq_83
          have hg_83 : g_83 = mswap g_51 p.toNat k := hg_83
          rw [hr_83]
          have hS_83 : zSL g g_83 := by rw [hg_83]; exact mswap_back hS (hg_37 ▸ hS1_51)
          have hL_83 : LOK g_83 := by rw [hg_83]; exact mswap_lok hL_51 (by rw [hS1_51.1 2 (by decide) (by decide) (by decide) (by decide), m2]; omega) (by rw [hS1_51.1 2 (by decide) (by decide) (by decide) (by decide), m2]; omega)
          show ZVV _ _ _ 86 _ [] g_83
          refine zs_iload_n (j := 3) (i := 3) rfl rfl rfl ?_
          show ZVV _ _ _ 87 _ _ _
          refine zs_if_eq 92 rfl (by omega) (fun hc_87 => ?_) (fun hc_87 => ?_)
          · refine zs_iinc_r (i := 2) rfl rfl (by intro r x hr; have hr2 : r = 1 := (by omega); subst hr2; intro z; cases z) ⟨by omega, by omega⟩ ?_
            show ZVV _ _ _ _ [ZR 1 0, ZI p, ZI ((k : Int) + 1), ZI 0] _ _
            refine zs_goto 2 rfl (by omega) ?_
            refine ih (k + 1) _ g_83 (by intro y h; cases h) (by omega) hS_83 hL_83 (fun G' a b => ?_)
            have := hq G' a b
            rw [if_neg (fun z => by
              have z1 := z.2.1
              have z2 := z.2.2
              first | exact zif0 hc_54 z1 | exact zif0 hc_71 z2 | omega)] at this
            exact this
          · refine zs_iload_n (j := 2) (i := 2) rfl rfl rfl ?_
            exact zs_ireturn rfl rfl (by
        have := hq g_83 hS_83 hL_83
        first
        | (exfalso; omega)
        | (rw [if_pos ⟨hc_31, zif1 hc_54, zif1 hc_71⟩] at this; exact this))
        · refine zs_aload_n (j := 0) (i := 0) rfl rfl rfl ?_
          refine zs_iload_n (j := 2) (i := 2) rfl rfl rfl ?_
          refine zs_aload_n (j := 0) (i := 0) rfl rfl rfl ?_
          refine zs_getfield (f := 1) (k := 0) rfl rfl (trivial) ?_
          show ZVV _ _ _ _ _ (ZR 2 2 :: _) _
          refine zs_getfield (f := 2) (k := 7) rfl rfl (trivial) ?_
          show ZVV _ _ _ _ _ (ZR 18 2 :: _) _
          refine zs_iload_n (j := 2) (i := 2) rfl rfl rfl ?_
          refine zs_iald (n := 6) rfl rfl (by omega) (by omega) ?_
          show ZVV _ _ _ _ _ (ZI (g_51 18 2 k) :: _) _
          show ZVV _ _ _ 68 _ _ _
          rw [n18]
          refine zs_callV (host := "") rfl kX1_82 vX1_suits (c_X1_suits (k : Int) (g 18 2 p.toNat)) [ZI (k : Int), ZI (g 18 2 p.toNat)] [] rfl (zroom_of (by omega)) rfl (Nat.le_of_ble_eq_true rfl) ⟨rfl, hL_51, (by rw [n2]; exact ⟨by omega, by omega⟩), (by rw [n2]; exact hhp)⟩ (fun r_68 g_68 hq_68 => ?_)
          obtain ⟨hr_68, hS2_68, hL_68, -, -⟩ := hq_68
          rw [hr_68, hS1_51.townL, hT]
          have hS_68 := hS1_51.tr hS2_68
          show ZVV _ _ _ 71 _ [ZI (if tSu (tswap (zTL g) p.toNat k) k (g 18 2 p.toNat) = true then 1 else 0)] g_68
          refine zs_if_eq 78 rfl (by omega) (fun hc_71 => ?_) (fun hc_71 => ?_)
          · refine zs_iconst (n := 0) rfl ⟨by omega, by omega⟩ ?_
            refine zs_istore_n (j := 3) (i := 3) rfl rfl (by decide) (by intro r x hr; have hr2 : r = 2 := (by omega); subst hr2; intro z; cases z) ?_
            show ZVV _ _ _ _ [ZR 1 0, ZI p, ZI (k : Int), ZI 0] _ _
            refine zs_aload_n (j := 0) (i := 0) rfl rfl rfl ?_
            refine zs_iload_n (j := 1) (i := 1) rfl rfl rfl ?_
            refine zs_iload_n (j := 2) (i := 2) rfl rfl rfl ?_
            refine zs_callV (host := "") rfl kX1_113 vX1_changeHouses (c_X1_changeHouses p (k : Int)) [ZI p, ZI (k : Int)] [] rfl (zroom_of (by omega)) rfl (Nat.le_of_ble_eq_true rfl) ⟨rfl, ⟨by omega, by omega⟩, ⟨by omega, by omega⟩⟩ (fun r_83 g_83 hq_83 => ?_)
            obtain ⟨hr_83, hg_83⟩ := hq_83
            have hg_83 : g_83 = mswap g_68 p.toNat k := hg_83
            rw [hr_83]
            have hS_83 : zSL g g_83 := by rw [hg_83]; exact mswap_back hS (hg_37 ▸ hS_68)
            have hL_83 : LOK g_83 := by rw [hg_83]; exact mswap_lok hL_68 (by rw [hS_68.1 2 (by decide) (by decide) (by decide) (by decide), m2]; omega) (by rw [hS_68.1 2 (by decide) (by decide) (by decide) (by decide), m2]; omega)
            show ZVV _ _ _ 86 _ [] g_83
            refine zs_iload_n (j := 3) (i := 3) rfl rfl rfl ?_
            show ZVV _ _ _ 87 _ _ _
            refine zs_if_eq 92 rfl (by omega) (fun hc_87 => ?_) (fun hc_87 => ?_)
            · refine zs_iinc_r (i := 2) rfl rfl (by intro r x hr; have hr2 : r = 1 := (by omega); subst hr2; intro z; cases z) ⟨by omega, by omega⟩ ?_
              show ZVV _ _ _ _ [ZR 1 0, ZI p, ZI ((k : Int) + 1), ZI 0] _ _
              refine zs_goto 2 rfl (by omega) ?_
              refine ih (k + 1) _ g_83 (by intro y h; cases h) (by omega) hS_83 hL_83 (fun G' a b => ?_)
              have := hq G' a b
              rw [if_neg (fun z => by
                have z1 := z.2.1
                have z2 := z.2.2
                first | exact zif0 hc_54 z1 | exact zif0 hc_71 z2 | omega)] at this
              exact this
            · refine zs_iload_n (j := 2) (i := 2) rfl rfl rfl ?_
              exact zs_ireturn rfl rfl (by
        have := hq g_83 hS_83 hL_83
        first
        | (exfalso; omega)
        | (rw [if_pos ⟨hc_31, zif1 hc_54, zif1 hc_71⟩] at this; exact this))
          · refine zs_iconst (n := 1) rfl ⟨by omega, by omega⟩ ?_
            refine zs_goto 79 rfl (by omega) ?_
            refine zs_istore_n (j := 3) (i := 3) rfl rfl (by decide) (by intro r x hr; have hr2 : r = 2 := (by omega); subst hr2; intro z; cases z) ?_
            show ZVV _ _ _ _ [ZR 1 0, ZI p, ZI (k : Int), ZI 1] _ _
            refine zs_aload_n (j := 0) (i := 0) rfl rfl rfl ?_
            refine zs_iload_n (j := 1) (i := 1) rfl rfl rfl ?_
            refine zs_iload_n (j := 2) (i := 2) rfl rfl rfl ?_
            refine zs_callV (host := "") rfl kX1_113 vX1_changeHouses (c_X1_changeHouses p (k : Int)) [ZI p, ZI (k : Int)] [] rfl (zroom_of (by omega)) rfl (Nat.le_of_ble_eq_true rfl) ⟨rfl, ⟨by omega, by omega⟩, ⟨by omega, by omega⟩⟩ (fun r_83 g_83 hq_83 => ?_)
            obtain ⟨hr_83, hg_83⟩ := hq_83
            have hg_83 : g_83 = mswap g_68 p.toNat k := hg_83
            rw [hr_83]
            have hS_83 : zSL g g_83 := by rw [hg_83]; exact mswap_back hS (hg_37 ▸ hS_68)
            have hL_83 : LOK g_83 := by rw [hg_83]; exact mswap_lok hL_68 (by rw [hS_68.1 2 (by decide) (by decide) (by decide) (by decide), m2]; omega) (by rw [hS_68.1 2 (by decide) (by decide) (by decide) (by decide), m2]; omega)
            show ZVV _ _ _ 86 _ [] g_83
            show ZVV _ _ _ 86 _ _ _
            refine zs_iload_n (j := 3) (i := 3) rfl rfl rfl ?_
            refine zs_if_eq 92 rfl (by omega) (fun hc_87 => ?_) (fun hc_87 => ?_)
            · refine zs_iinc_r (i := 2) rfl rfl (by intro r x hr; have hr2 : r = 1 := (by omega); subst hr2; intro z; cases z) ⟨by omega, by omega⟩ ?_
              show ZVV _ _ _ _ [ZR 1 0, ZI p, ZI ((k : Int) + 1), ZI 1] _ _
              refine zs_goto 2 rfl (by omega) ?_
              refine ih (k + 1) _ g_83 (by intro y h; cases h) (by omega) hS_83 hL_83 (fun G' a b => ?_)
              have := hq G' a b
              rw [if_neg (fun z => by
                have z1 := z.2.1
                have z2 := z.2.2
                first | exact zif0 hc_54 z1 | exact zif0 hc_71 z2 | omega)] at this
              exact this
            · refine zs_iload_n (j := 2) (i := 2) rfl rfl rfl ?_
              exact zs_ireturn rfl rfl (by
        have := hq g_83 hS_83 hL_83
        first
        | (exfalso; omega)
        | (rw [if_pos ⟨hc_31, zif1 hc_54, zif1 hc_71⟩] at this; exact this))
theorem c_X1_partnerOf (p : Int) : ZC mX1_partnerOf 4 (fun av g => av = [ZR 1 0, ZI p] ∧ LOK g ∧ LHH g ∧ (0 ≤ p ∧ p < g 2 2 3)) (fun _ g r g' => r = some (ZI (tPart (zTL g) p.toNat (g 2 2 3).toNat 0)) ∧ zSL g g' ∧ LOK g') := by
  refine zc_of gX1_partnerOf (fun av g hp => by obtain ⟨rfl, -⟩ := hp; exact Nat.le_of_ble_eq_true rfl) (fun Y av g hwf hrg hp hok => ?_)
  obtain ⟨rfl, hp⟩ := hp
  show ZVV _ _ _ 0 [ZR 1 0, ZI p, ZX 99, ZX 99] [] _
  refine zs_iconst (n := 0) rfl ⟨by omega, by omega⟩ ?_
  refine zs_istore_n (j := 2) (i := 2) rfl rfl (by decide) (by intro r x hr; have hr2 : r = 1 := (by omega); subst hr2; intro z; cases z) ?_
  show ZVV _ _ _ _ [ZR 1 0, ZI p, ZI 0, ZX 99] _ _
  exact l_X1_partnerOf hp.1 hp.2.1 hp.2.2 (g 2 2 3).toNat 0 _ g (by intro y h; cases h) (by have := hp.1.1.2.2.1; omega) (zSL.rf g) hp.1 (fun G' a b => ⟨rfl, a, b⟩)

