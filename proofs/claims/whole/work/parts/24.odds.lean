def tput (t : ZT) (p : Nat) (h : Int) : ZT := tSetH t (fun c => if c = p then h else tho t c)
def tCB (t : ZT) (m : Nat) : Int := match m with
  | 0 => if tAll t = true then 1 else 0
  | m + 1 => zsum (fun p => zsum (fun h => if tFr t h = true then tCB (tput t p h) m else 0) (tn t).toNat 0) (tnp t).toNat 0
theorem tCB_rng : ∀ (m : Nat) (t : ZT), tn t ≤ 8 → tnp t ≤ 6 → 0 ≤ tCB t m ∧ tCB t m ≤ ((48 ^ m : Nat) : Int) := by
  intro m
  induction m with
  | zero => intro t _ _; show 0 ≤ (if tAll t = true then (1 : Int) else 0) ∧ (if tAll t = true then (1 : Int) else 0) ≤ 1; split <;> omega
  | succ m ih =>
    intro t h1 h2
    have hpw : 0 ≤ ((48 ^ m : Nat) : Int) := Int.natCast_nonneg _
    have hn8 : ((tn t).toNat : Int) ≤ 8 := by omega
    have hn6 : ((tnp t).toNat : Int) ≤ 6 := by omega
    have hin : ∀ p : Nat, 0 ≤ zsum (fun h => if tFr t h = true then tCB (tput t p h) m else 0) (tn t).toNat 0 ∧ zsum (fun h => if tFr t h = true then tCB (tput t p h) m else 0) (tn t).toNat 0 ≤ ((48 ^ m : Nat) : Int) * 8 := by
      intro p
      have := zsum_rng (f := fun h : Nat => if tFr t h = true then tCB (tput t p h) m else 0) (a := 0) (b := ((48 ^ m : Nat) : Int)) (n := (tn t).toNat) (k := 0) (fun j _ _ => by
        have := ih (tput t p j) h1 h2
        split
        · exact this
        · omega)
      refine ⟨by omega, Int.le_trans this.2 (Int.mul_le_mul_of_nonneg_left hn8 hpw)⟩
    have := zsum_rng (f := fun p => zsum (fun h => if tFr t h = true then tCB (tput t p h) m else 0) (tn t).toNat 0) (a := 0) (b := ((48 ^ m : Nat) : Int) * 8) (n := (tnp t).toNat) (k := 0) (fun j _ _ => hin j)
    show 0 ≤ zsum _ _ _ ∧ zsum _ _ _ ≤ _
    refine ⟨by omega, Int.le_trans this.2 ?_⟩
    have e : ((48 ^ (m + 1) : Nat) : Int) = ((48 ^ m : Nat) : Int) * 8 * 6 := by rw [Nat.pow_succ]; omega
    rw [e]
    exact Int.mul_le_mul_of_nonneg_left hn6 (Int.mul_nonneg hpw (by decide))
/-- one lives elsewhere -/
def mput (G : ZG) (p : Nat) (h : Int) : ZG := zup G 18 2 p h
theorem mput_18 (G : ZG) (p : Nat) (h : Int) : mput G p h 18 2 = fun c => if c = p then h else G 18 2 c := by unfold mput; rw [zup_at]
theorem mput_nf (G : ZG) (p : Nat) (h : Int) {f : Nat} (hf : f ≠ 18) : mput G p h f = G f := zup_nf _ _ _ _ hf
theorem mput_ni (G : ZG) (p : Nat) (h : Int) {i : Nat} (hi : i ≠ 2) : mput G p h 18 i = G 18 i := zup_ni _ _ _ _ hi
theorem mput_lok {G : ZG} (hL : LOK G) {p : Nat} {h : Int} (hh : -1 ≤ h ∧ h < G 2 2 0) : LOK (mput G p h) := by
  refine lok_house hL (fun f hf => mput_nf G p h hf) (fun c hc => ?_)
  rw [mput_18]
  dsimp only
  split
  · exact hh
  · exact (hL.1.2.2.2.2.2 c hc).1
theorem mput_town (G : ZG) (p : Nat) (h : Int) : zTL (mput G p h) = tput (zTL G) p h := by
  unfold zTL zTC zwC
  rw [mput_18, mput_nf G p h (f := 1) (by decide), mput_nf G p h (f := 2) (by decide), mput_nf G p h (f := 3) (by decide), mput_nf G p h (f := 15) (by decide), mput_nf G p h (f := 16) (by decide), mput_nf G p h (f := 17) (by decide), mput_nf G p h (f := 20) (by decide)]
  rfl
/-- as the life was, but for one's house (and what it scribbles) -/
def zSP (g : ZG) (p : Nat) (G : ZG) : Prop := (∀ f, f ≠ 1 → f ≠ 11 → f ≠ 12 → f ≠ 13 → f ≠ 18 → G f = g f) ∧ (∀ i k, k ≠ 3 → k ≠ 4 → k ≠ 5 → G 1 i k = g 1 i k) ∧ ∀ i k, ¬ (i = 2 ∧ k = p) → G 18 i k = g 18 i k
theorem zSL.sp {g G : ZG} (h : zSL g G) (p : Nat) : zSP g p G := ⟨fun f h1 h2 h3 h4 _ => h.1 f h1 h2 h3 h4, h.2, fun i k _ => by rw [h.1 18 (by decide) (by decide) (by decide) (by decide)]⟩
theorem zSP.put {g G : ZG} {p : Nat} (h : zSP g p G) (x : Int) : zSP g p (mput G p x) := ⟨fun f h1 h2 h3 h4 h5 => by rw [mput_nf _ _ _ h5]; exact h.1 f h1 h2 h3 h4 h5, fun i k h3 h4 h5 => by rw [mput_nf _ _ _ (by decide)]; exact h.2.1 i k h3 h4 h5, fun i k hk => by
  unfold mput zup
  rw [if_neg (fun z => hk ⟨z.2.2, z.2.1⟩)]
  exact h.2.2 i k hk⟩
theorem zSP.sl {g G M : ZG} {p : Nat} (h : zSP g p G) (k : zSL G M) : zSP g p M := ⟨fun f h1 h2 h3 h4 h5 => (k.1 f h1 h2 h3 h4).trans (h.1 f h1 h2 h3 h4 h5), fun i q h3 h4 h5 => (k.2 i q h3 h4 h5).trans (h.2.1 i q h3 h4 h5), fun i q hq => by rw [k.1 18 (by decide) (by decide) (by decide) (by decide)]; exact h.2.2 i q hq⟩
theorem zSP.back {g G : ZG} {p : Nat} (h : zSP g p G) : zSL g (mput G p (g 18 2 p)) := ⟨fun f h1 h2 h3 h4 => by
  by_cases hf : f = 18
  · subst hf
    funext i k
    unfold mput zup
    split
    · rename_i z; rw [z.2.1, z.2.2]
    · rename_i z; exact h.2.2 i k (fun w => z ⟨rfl, w.2, w.1⟩)
  · rw [mput_nf _ _ _ hf]; exact h.1 f h1 h2 h3 h4 hf, fun i k h3 h4 h5 => by rw [mput_nf _ _ _ (by decide)]; exact h.2.1 i k h3 h4 h5⟩
theorem zSP.town {g G : ZG} {p : Nat} (h : zSP g p G) (x : Int) : zTL (mput G p x) = tput (zTL g) p x := by
  rw [mput_town]
  unfold tput tSetH zTL zTC zwC
  rw [h.1 2 (by decide) (by decide) (by decide) (by decide) (by decide), h.1 3 (by decide) (by decide) (by decide) (by decide) (by decide), h.1 15 (by decide) (by decide) (by decide) (by decide) (by decide), h.1 16 (by decide) (by decide) (by decide) (by decide) (by decide), h.1 17 (by decide) (by decide) (by decide) (by decide) (by decide), h.1 20 (by decide) (by decide) (by decide) (by decide) (by decide), h.2.1 0 1 (by decide) (by decide) (by decide)]
  have : (fun c => if c = p then x else G 18 2 c) = fun c => if c = p then x else g 18 2 c := by
    funext c
    by_cases hc : c = p
    · rw [if_pos hc, if_pos hc]
    · rw [if_neg hc, if_neg hc, h.2.2 2 c (fun z => hc z.2)]
  show (_, (_, _, _, fun c => if c = p then x else G 18 2 c), _) = (_, (_, _, _, fun c => if c = p then x else g 18 2 c), _)
  rw [this]
theorem l_X1_cb_in {Y : ZW} {Q : Option ZV → ZG → Prop} {g : ZG} {m k : Nat} (hm : m ≤ 1) (hg : LOK g) (hh : LHH g) (hk : (k : Int) < g 2 2 3)
    (hrec : ZC mX1_contentBehind (5 + m) (fun av g => av = [ZR 1 0, ZI (m : Int)] ∧ LOK g ∧ LHH g) (fun _ g r g' => r = some (ZI (tCB (zTL g) m)) ∧ zSL g g' ∧ LOK g')) :
    ∀ (n j : Nat) (acc : Int) (G : ZG), (j : Int) + n = g 2 2 0 → (0 ≤ acc ∧ acc ≤ 10000 + 100 * j) → zSP g k G → LOK G → (∀ G', zSP g k G' → LOK G' → ZVV Y mX1_contentBehind (zcx Y (6 + m) Q) 98 [ZR 1 0, ZI ((m + 1 : Nat) : Int), ZR 2 2, ZI (acc + zsum (fun h => if tFr (zTL g) h = true then tCB (tput (zTL g) k h) m else 0) n j), ZI (k : Int), ZI (g 18 2 k), ZI ((zfree (g 2 2 0) (g 2 2 3) (g 18 2) : Nat) : Int), ZI (g 2 2 0)] [] G') → ZVV Y mX1_contentBehind (zcx Y (6 + m) Q) 54 [ZR 1 0, ZI ((m + 1 : Nat) : Int), ZR 2 2, ZI acc, ZI (k : Int), ZI (g 18 2 k), ZI ((zfree (g 2 2 0) (g 2 2 3) (g 18 2) : Nat) : Int), ZI (j : Int)] [] G := by
  have hn6 := hg.1.2.2.1
  have hn8 := hg.1.1
  have h48 : ((48 ^ m : Nat) : Int) ≤ 48 := by
    rcases (by omega : m = 0 ∨ m = 1) with rfl | rfl <;> decide
  intro n
  induction n with
  | zero =>
    intro j acc G hj hb hS hL hq
    have e2 : G 2 = g 2 := hS.1 2 (by decide) (by decide) (by decide) (by decide) (by decide)
    have hj2 : (j : Int) = g 2 2 0 := by omega
    refine zs_iload (i := 7) rfl rfl ?_
    refine zs_aload_n (j := 2) (i := 2) rfl rfl rfl ?_
    refine zs_getfield (f := 2) (k := 0) rfl rfl (trivial) ?_
    show ZVV _ _ _ _ _ (ZI (G 2 2 0) :: _) _
    rw [e2]
    refine zs_icmp_ge 98 rfl (by omega) (fun hc_60 => ?_) (fun hc_60 => ?_)
    · rw [hj2]
      have := hq G hS hL
      rw [show zsum (fun h => if tFr (zTL g) h = true then tCB (tput (zTL g) k h) m else 0) 0 j = 0 from rfl, Int.add_zero] at this
      exact this
    · exfalso; omega
  | succ n ih =>
    intro j acc G hj hb hS hL hq
    have e2 : G 2 = g 2 := hS.1 2 (by decide) (by decide) (by decide) (by decide) (by decide)
    have hbit : zand (zshr ((zfree (g 2 2 0) (g 2 2 3) (g 18 2) : Nat) : Int) (j : Int)) 1 = if j < (g 2 2 0).toNat ∧ decide (zwho (g 2 2 3) (g 18 2) j = -1) = true then 1 else 0 := zmk_has (fun h => decide (zwho (g 2 2 3) (g 18 2) h = -1)) (by omega) (by omega)
    simp only [zsum_s] at hq
    refine zs_iload (i := 7) rfl rfl ?_
    refine zs_aload_n (j := 2) (i := 2) rfl rfl rfl ?_
    refine zs_getfield (f := 2) (k := 0) rfl rfl (trivial) ?_
    show ZVV _ _ _ _ _ (ZI (G 2 2 0) :: _) _
    rw [e2]
    refine zs_icmp_ge 98 rfl (by omega) (fun hc_60 => ?_) (fun hc_60 => ?_)
    · exfalso; omega
    · refine zs_iload (i := 6) rfl rfl ?_
      refine zs_iload (i := 7) rfl rfl ?_
      refine zs_ishr rfl ?_
      refine zs_iconst (n := 1) rfl ⟨by omega, by omega⟩ ?_
      refine zs_iand rfl ?_
      rw [hbit]
      refine zs_if_eq 92 rfl (by omega) (fun hc_70 => ?_) (fun hc_70 => ?_)
      · refine zs_iinc_r (i := 7) rfl rfl (by intro r x hr; have hr2 : r = 6 := (by omega); subst hr2; intro z; cases z) ⟨by omega, by omega⟩ ?_
        show ZVV _ _ _ _ [ZR 1 0, ZI ((m + 1 : Nat) : Int), ZR 2 2, ZI acc, ZI (k : Int), ZI (g 18 2 k), ZI ((zfree (g 2 2 0) (g 2 2 3) (g 18 2) : Nat) : Int), ZI ((j : Int) + 1)] _ _
        refine zs_goto 54 rfl (by omega) ?_
        have hz : ¬ tFr (zTL g) j = true := by
          intro z
          have z1 : zwho (g 2 2 3) (g 18 2) j = -1 := of_decide_eq_true z
          rw [if_pos ⟨by omega, decide_eq_true z1⟩] at hc_70; omega
        rw [if_neg hz, Int.zero_add] at hq
        exact ih (j + 1) acc G (by omega) (by omega) hS hL hq
      · refine zs_aload_n (j := 2) (i := 2) rfl rfl rfl ?_
        refine zs_getfield (f := 2) (k := 7) rfl rfl (trivial) ?_
        show ZVV _ _ _ _ _ (ZR 18 2 :: _) _
        refine zs_iload (i := 4) rfl rfl ?_
        refine zs_iload (i := 7) rfl rfl ?_
        refine zs_iast (n := 6) rfl rfl (by omega) (by omega) ?_
        show ZVV _ _ _ _ _ _ (zup G 18 2 k (j : Int))
        refine zs_iload_n (j := 3) (i := 3) rfl rfl rfl ?_
        refine zs_aload_n (j := 0) (i := 0) rfl rfl rfl ?_
        show ZVV _ _ _ 84 _ _ _
        refine zs_iload_n (j := 1) (i := 1) rfl rfl rfl ?_
        refine zs_iconst (n := 1) rfl ⟨by omega, by omega⟩ ?_
        refine zs_isub_r rfl ⟨by omega, by omega⟩ ?_
        have hm2 : zSP g k (mput G k j) := hS.put j
        have hL2 : LOK (mput G k j) := mput_lok hL (by rw [hS.1 2 (by decide) (by decide) (by decide) (by decide) (by decide)]; omega)
        have hT2 : zTL (mput G k j) = tput (zTL g) k j := hS.town j
        have hH2 : LHH (mput G k j) := by
          intro p hp
          rw [hm2.1 2 (by decide) (by decide) (by decide) (by decide) (by decide)] at hp
          rw [mput_18]
          dsimp only
          split
          · omega
          · rename_i hpk
            rw [hS.2.2 2 p (fun z => hpk z.2)]
            exact hh p hp
        have hcr := tCB_rng m (tput (zTL g) k j) hg.1.1.2 hg.1.2.2.1.2
        rw [show (((m + 1 : Nat) : Int) - 1) = (m : Int) by omega]
        refine zs_callS (host := "") rfl kX1_127 sX1_contentBehind hrec [ZR 1 0, ZI (m : Int)] [ZI acc] rfl (zroom_of (by omega)) rfl (Nat.le_of_ble_eq_true rfl) ⟨rfl, hL2, hH2⟩ (fun r_87 g_87 hq_87 => ?_)
        obtain ⟨hr_87, hS_87, hL_87⟩ := hq_87
        have hr_87 : r_87 = some (ZI (tCB (zTL (mput G k j)) m)) := hr_87
        rw [hr_87, hT2]
        have hS_87 := hm2.sl hS_87
        show ZVV _ _ _ 90 _ [ZI (tCB (tput (zTL g) k j) m), ZI acc] g_87
        refine zs_iadd_r rfl ⟨by omega, by omega⟩ ?_
        refine zs_istore_n (j := 3) (i := 3) rfl rfl (by decide) (by intro r x hr; have hr2 : r = 2 := (by omega); subst hr2; intro z; cases z) ?_
        show ZVV _ _ _ _ [ZR 1 0, ZI ((m + 1 : Nat) : Int), ZR 2 2, ZI (acc + (tCB (tput (zTL g) k j) m)), ZI (k : Int), ZI (g 18 2 k), ZI ((zfree (g 2 2 0) (g 2 2 3) (g 18 2) : Nat) : Int), ZI (j : Int)] _ _
        refine zs_iinc_r (i := 7) rfl rfl (by intro r x hr; have hr2 : r = 6 := (by omega); subst hr2; intro z; cases z) ⟨by omega, by omega⟩ ?_
        show ZVV _ _ _ _ [ZR 1 0, ZI ((m + 1 : Nat) : Int), ZR 2 2, ZI (acc + (tCB (tput (zTL g) k j) m)), ZI (k : Int), ZI (g 18 2 k), ZI ((zfree (g 2 2 0) (g 2 2 3) (g 18 2) : Nat) : Int), ZI ((j : Int) + 1)] _ _
        refine zs_goto 54 rfl (by omega) ?_
        have hz : tFr (zTL g) j = true := by
          by_cases z : j < (g 2 2 0).toNat ∧ decide (zwho (g 2 2 3) (g 18 2) j = -1) = true
          · exact z.2
          · rw [if_neg z] at hc_70; omega
        rw [if_pos hz, ← Int.add_assoc] at hq
        exact ih (j + 1) _ g_87 (by omega) (by omega) hS_87 hL_87 hq
theorem l_X1_cb {Y : ZW} {Q : Option ZV → ZG → Prop} {g : ZG} {m : Nat} (hm : m ≤ 1) (hg : LOK g) (hh : LHH g)
    (hrec : ZC mX1_contentBehind (5 + m) (fun av g => av = [ZR 1 0, ZI (m : Int)] ∧ LOK g ∧ LHH g) (fun _ g r g' => r = some (ZI (tCB (zTL g) m)) ∧ zSL g g' ∧ LOK g')) :
    ∀ (n k : Nat) (acc : Int) (z5 z6 z7 : ZV) (G : ZG), (∀ y, z5 ≠ ZJ y) → (∀ y, z6 ≠ ZJ y) → (∀ y, z7 ≠ ZJ y) → (k : Int) + n = g 2 2 3 → (0 ≤ acc ∧ acc ≤ 400 * k) → zSL g G → LOK G → (∀ G', zSL g G' → LOK G' → Q (some (ZI (acc + zsum (fun p => zsum (fun h => if tFr (zTL g) h = true then tCB (tput (zTL g) p h) m else 0) (g 2 2 0).toNat 0) n k))) G') → ZVV Y mX1_contentBehind (zcx Y (6 + m) Q) 27 [ZR 1 0, ZI ((m + 1 : Nat) : Int), ZR 2 2, ZI acc, ZI (k : Int), z5, z6, z7] [] G := by
  have hn6 := hg.1.2.2.1
  have hn8 := hg.1.1
  have h48 : ((48 ^ m : Nat) : Int) ≤ 48 := by
    rcases (by omega : m = 0 ∨ m = 1) with rfl | rfl <;> decide
  intro n
  induction n with
  | zero =>
    intro k acc z5 z6 z7 G hz5 hz6 hz7 hk hb hS hL hq
    have e2 : G 2 = g 2 := hS.1 2 (by decide) (by decide) (by decide) (by decide)
    have e15 : G 15 = g 15 := hS.1 15 (by decide) (by decide) (by decide) (by decide)
    have e16 : G 16 = g 16 := hS.1 16 (by decide) (by decide) (by decide) (by decide)
    have e17 : G 17 = g 17 := hS.1 17 (by decide) (by decide) (by decide) (by decide)
    have e18 : G 18 = g 18 := hS.1 18 (by decide) (by decide) (by decide) (by decide)
    simp only [show zsum (fun p => zsum (fun h => if tFr (zTL g) h = true then tCB (tput (zTL g) p h) m else 0) (g 2 2 0).toNat 0) 0 k = 0 from rfl, Int.add_zero] at hq
    refine zs_iload (i := 4) rfl rfl ?_
    refine zs_aload_n (j := 2) (i := 2) rfl rfl rfl ?_
    refine zs_getfield (f := 2) (k := 3) rfl rfl (trivial) ?_
    show ZVV _ _ _ _ _ (ZI (G 2 2 3) :: _) _
    rw [e2]
    refine zs_icmp_ge 113 rfl (by omega) (fun hc_33 => ?_) (fun hc_33 => ?_)
    · refine zs_iload_n (j := 3) (i := 3) rfl rfl rfl ?_
      exact zs_ireturn rfl rfl (hq G hS hL)
    · exfalso; omega
  | succ n ih =>
    intro k acc z5 z6 z7 G hz5 hz6 hz7 hk hb hS hL hq
    have e2 : G 2 = g 2 := hS.1 2 (by decide) (by decide) (by decide) (by decide)
    have e15 : G 15 = g 15 := hS.1 15 (by decide) (by decide) (by decide) (by decide)
    have e16 : G 16 = g 16 := hS.1 16 (by decide) (by decide) (by decide) (by decide)
    have e17 : G 17 = g 17 := hS.1 17 (by decide) (by decide) (by decide) (by decide)
    have e18 : G 18 = g 18 := hS.1 18 (by decide) (by decide) (by decide) (by decide)
    simp only [zsum_s, ← Int.add_assoc] at hq
    have hin : 0 ≤ zsum (fun h => if tFr (zTL g) h = true then tCB (tput (zTL g) k h) m else 0) (g 2 2 0).toNat 0 ∧ zsum (fun h => if tFr (zTL g) h = true then tCB (tput (zTL g) k h) m else 0) (g 2 2 0).toNat 0 ≤ 400 := by
      have := zsum_rng (f := fun h : Nat => if tFr (zTL g) h = true then tCB (tput (zTL g) k h) m else 0) (a := 0) (b := 48) (n := (g 2 2 0).toNat) (k := 0) (fun j _ _ => by
        have := tCB_rng m (tput (zTL g) k j) hg.1.1.2 hg.1.2.2.1.2
        split <;> omega)
      omega
    refine zs_iload (i := 4) rfl rfl ?_
    refine zs_aload_n (j := 2) (i := 2) rfl rfl rfl ?_
    refine zs_getfield (f := 2) (k := 3) rfl rfl (trivial) ?_
    show ZVV _ _ _ _ _ (ZI (G 2 2 3) :: _) _
    rw [e2]
    refine zs_icmp_ge 113 rfl (by omega) (fun hc_33 => ?_) (fun hc_33 => ?_)
    · exfalso; omega
    · refine zs_aload_n (j := 2) (i := 2) rfl rfl rfl ?_
      refine zs_getfield (f := 2) (k := 7) rfl rfl (trivial) ?_
      show ZVV _ _ _ _ _ (ZR 18 2 :: _) _
      refine zs_iload (i := 4) rfl rfl ?_
      refine zs_iald (n := 6) rfl rfl (by omega) (by omega) ?_
      show ZVV _ _ _ _ _ (ZI (G 18 2 k) :: _) _
      rw [e18]
      refine zs_istore (i := 5) rfl (by decide) (by intro r x hr; have hr2 : r = 4 := (by omega); subst hr2; intro z; cases z) ?_
      show ZVV _ _ _ _ [ZR 1 0, ZI ((m + 1 : Nat) : Int), ZR 2 2, ZI acc, ZI (k : Int), ZI (g 18 2 k), z6, z7] _ _
      refine zs_aload_n (j := 2) (i := 2) rfl rfl rfl ?_
      refine zs_callV (host := "") rfl kX1_123 vX2_freeHouses (c_X2_freeHouses 2) [] [] rfl (zroom_of (by omega)) rfl (Nat.le_of_ble_eq_true rfl) ⟨rfl, hL.1⟩ (fun r_46 g_46 hq_46 => ?_)
      obtain ⟨hr_46, hg_46⟩ := hq_46
      rw [hr_46, hg_46, e2, e18]
      show ZVV _ _ _ 49 _ [ZI (((zfree (g 2 2 0) (g 2 2 3) (g 18 2) : Nat) : Int))] _
      show ZVV _ _ _ 49 _ _ _
      refine zs_istore (i := 6) rfl (by decide) (by intro r x hr; have hr2 : r = 5 := (by omega); subst hr2; intro z; cases z) ?_
      show ZVV _ _ _ _ [ZR 1 0, ZI ((m + 1 : Nat) : Int), ZR 2 2, ZI acc, ZI (k : Int), ZI (g 18 2 k), ZI ((zfree (g 2 2 0) (g 2 2 3) (g 18 2) : Nat) : Int), z7] _ _
      refine zs_iconst (n := 0) rfl ⟨by omega, by omega⟩ ?_
      refine zs_istore (i := 7) rfl (by decide) (by intro r x hr; have hr2 : r = 6 := (by omega); subst hr2; intro z; cases z) ?_
      show ZVV _ _ _ _ [ZR 1 0, ZI ((m + 1 : Nat) : Int), ZR 2 2, ZI acc, ZI (k : Int), ZI (g 18 2 k), ZI ((zfree (g 2 2 0) (g 2 2 3) (g 18 2) : Nat) : Int), ZI 0] _ _
      refine l_X1_cb_in hm hg hh (by omega) hrec (g 2 2 0).toNat 0 acc G (by omega) (by omega) (hS.sp k) hL (fun G2 hS2 hL2 => ?_)
      refine zs_aload_n (j := 2) (i := 2) rfl rfl rfl ?_
      refine zs_getfield (f := 2) (k := 7) rfl rfl (trivial) ?_
      show ZVV _ _ _ _ _ (ZR 18 2 :: _) _
      refine zs_iload (i := 4) rfl rfl ?_
      refine zs_iload (i := 5) rfl rfl ?_
      refine zs_iast (n := 6) rfl rfl (by omega) (by omega) ?_
      show ZVV _ _ _ _ _ _ (zup G2 18 2 k (g 18 2 k))
      refine zs_iinc_r (i := 4) rfl rfl (by intro r x hr; have hr2 : r = 3 := (by omega); subst hr2; intro z; cases z) ⟨by omega, by omega⟩ ?_
      show ZVV _ _ _ _ [ZR 1 0, ZI ((m + 1 : Nat) : Int), ZR 2 2, ZI (acc + zsum (fun h => if tFr (zTL g) h = true then tCB (tput (zTL g) k h) m else 0) (g 2 2 0).toNat 0), ZI ((k : Int) + 1), ZI (g 18 2 k), ZI ((zfree (g 2 2 0) (g 2 2 3) (g 18 2) : Nat) : Int), ZI (g 2 2 0)] _ _
      refine zs_goto 27 rfl (by omega) ?_
      have hS3 := hS2.back
      have hL3 : LOK (mput G2 k (g 18 2 k)) := mput_lok hL2 (by rw [hS2.1 2 (by decide) (by decide) (by decide) (by decide) (by decide)]; exact (hg.1.2.2.2.2.2 k (by omega)).1)
      exact ih (k + 1) _ _ _ _ (mput G2 k (g 18 2 k)) (by intro y h; cases h) (by intro y h; cases h) (by intro y h; cases h) (by omega) (by omega) hS3 hL3 hq
theorem c_X1_cb0  : ZC mX1_contentBehind (5 + 0) (fun av g => av = [ZR 1 0, ZI ((0 : Nat) : Int)] ∧ LOK g ∧ LHH g) (fun _ g r g' => r = some (ZI (tCB (zTL g) 0)) ∧ zSL g g' ∧ LOK g') := by
  refine zc_of gX1_contentBehind (fun av g hp => by obtain ⟨rfl, -⟩ := hp; exact Nat.le_of_ble_eq_true rfl) (fun Y av g hwf hrg hp hok => ?_)
  obtain ⟨rfl, hp⟩ := hp
  show ZVV _ _ _ 0 [ZR 1 0, ZI ((0 : Nat) : Int), ZX 99, ZX 99, ZX 99, ZX 99, ZX 99, ZX 99] [] _
  refine zs_iload_n (j := 1) (i := 1) rfl rfl rfl ?_
  refine zs_if_gt 17 rfl (by omega) (fun hc_1 => ?_) (fun hc_1 => ?_)
  · exfalso; omega
  · refine zs_aload_n (j := 0) (i := 0) rfl rfl rfl ?_
    refine zs_callV (host := "") rfl kX1_119 vX1_allSuit c_X1_allSuit [] [] rfl (zroom_of (by omega)) rfl (Nat.le_of_ble_eq_true rfl) ⟨rfl, hp⟩ (fun r_5 g_5 hq_5 => ?_)
    obtain ⟨hr_5, hS_5, hL_5⟩ := hq_5
    rw [hr_5]
    show ZVV _ _ _ 8 _ [ZI (if tAll (zTL g) = true then 1 else 0)] g_5
    refine zs_if_eq 15 rfl (by omega) (fun hc_8 => ?_) (fun hc_8 => ?_)
    · refine zs_iconst (n := 0) rfl ⟨by omega, by omega⟩ ?_
      exact zs_ireturn rfl rfl (⟨by show _ = some (ZI (if tAll (zTL g) = true then 1 else 0)); first | rw [if_pos (zif1 hc_8)] | rw [if_neg (zif0 hc_8)], hS_5, hL_5⟩)
    · refine zs_iconst (n := 1) rfl ⟨by omega, by omega⟩ ?_
      refine zs_goto 16 rfl (by omega) ?_
      exact zs_ireturn rfl rfl (⟨by show _ = some (ZI (if tAll (zTL g) = true then 1 else 0)); first | rw [if_pos (zif1 hc_8)] | rw [if_neg (zif0 hc_8)], hS_5, hL_5⟩)

theorem c_X1_cbs (m : Nat) (hm : m ≤ 1) (hrec : ZC mX1_contentBehind (5 + m) (fun av g => av = [ZR 1 0, ZI (m : Int)] ∧ LOK g ∧ LHH g) (fun _ g r g' => r = some (ZI (tCB (zTL g) m)) ∧ zSL g g' ∧ LOK g')) : ZC mX1_contentBehind (6 + m) (fun av g => av = [ZR 1 0, ZI ((m + 1 : Nat) : Int)] ∧ LOK g ∧ LHH g) (fun _ g r g' => r = some (ZI (tCB (zTL g) (m + 1))) ∧ zSL g g' ∧ LOK g') := by
  refine zc_of gX1_contentBehind (fun av g hp => by obtain ⟨rfl, -⟩ := hp; exact Nat.le_of_ble_eq_true rfl) (fun Y av g hwf hrg hp hok => ?_)
  obtain ⟨rfl, hp⟩ := hp
  show ZVV _ _ _ 0 [ZR 1 0, ZI ((m + 1 : Nat) : Int), ZX 99, ZX 99, ZX 99, ZX 99, ZX 99, ZX 99] [] _
  refine zs_iload_n (j := 1) (i := 1) rfl rfl rfl ?_
  refine zs_if_gt 17 rfl (by omega) (fun hc_1 => ?_) (fun hc_1 => ?_)
  · refine zs_aload_n (j := 0) (i := 0) rfl rfl rfl ?_
    refine zs_getfield (f := 1) (k := 0) rfl rfl (trivial) ?_
    show ZVV _ _ _ _ _ (ZR 2 2 :: _) _
    refine zs_astore_n (j := 2) (i := 2) rfl rfl (by decide) (by intro r x hr; have hr2 : r = 1 := (by omega); subst hr2; intro z; cases z) ?_
    show ZVV _ _ _ _ [ZR 1 0, ZI ((m + 1 : Nat) : Int), ZR 2 2, ZX 99, ZX 99, ZX 99, ZX 99, ZX 99] _ _
    refine zs_iconst (n := 0) rfl ⟨by omega, by omega⟩ ?_
    refine zs_istore_n (j := 3) (i := 3) rfl rfl (by decide) (by intro r x hr; have hr2 : r = 2 := (by omega); subst hr2; intro z; cases z) ?_
    show ZVV _ _ _ _ [ZR 1 0, ZI ((m + 1 : Nat) : Int), ZR 2 2, ZI 0, ZX 99, ZX 99, ZX 99, ZX 99] _ _
    refine zs_iconst (n := 0) rfl ⟨by omega, by omega⟩ ?_
    refine zs_istore (i := 4) rfl (by decide) (by intro r x hr; have hr2 : r = 3 := (by omega); subst hr2; intro z; cases z) ?_
    show ZVV _ _ _ _ [ZR 1 0, ZI ((m + 1 : Nat) : Int), ZR 2 2, ZI 0, ZI 0, ZX 99, ZX 99, ZX 99] _ _
    exact l_X1_cb hm hp.1 hp.2 hrec (g 2 2 3).toNat 0 0 _ _ _ g (by intro y h; cases h) (by intro y h; cases h) (by intro y h; cases h) (by have := hp.1.1.2.2.1; omega) (by omega) (zSL.rf g) hp.1 (fun G' a b => ⟨by rw [Int.zero_add]; rfl, a, b⟩)
  · exfalso; omega

theorem c_X1_cb (m : Nat) (hm : m ≤ 2) : ZC mX1_contentBehind (5 + m) (fun av g => av = [ZR 1 0, ZI (m : Int)] ∧ LOK g ∧ LHH g) (fun _ g r g' => r = some (ZI (tCB (zTL g) m)) ∧ zSL g g' ∧ LOK g') := by
  have h0 := c_X1_cb0
  have h1 := c_X1_cbs 0 (by decide) h0
  have h2 := c_X1_cbs 1 (by decide) h1
  rcases (by omega : m = 0 ∨ m = 1 ∨ m = 2) with rfl | rfl | rfl
  · exact h0
  · exact h1
  · exact h2
