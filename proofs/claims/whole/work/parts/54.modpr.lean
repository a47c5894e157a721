/-! what the town of the model hangs on -/
def zK (g G : ZG) : Prop := (∀ f, (f = 30 ∨ f = 31 ∨ f = 32 ∨ f = 35 ∨ f = 36 ∨ f = 37 ∨ f = 38 ∨ f = 39 ∨ f = 40) → G f = g f) ∧ ∀ k, (k = 0 ∨ k = 1 ∨ k = 2 ∨ k = 9) → G 8 0 k = g 8 0 k
theorem zK.rf (g : ZG) : zK g g := ⟨fun _ _ => rfl, fun _ _ => rfl⟩
theorem zK.tr {a b c : ZG} (h : zK a b) (k : zK b c) : zK a c := ⟨fun f hf => (k.1 f hf).trans (h.1 f hf), fun i hi => (k.2 i hi).trans (h.2 i hi)⟩
theorem mfc_k {g G : ZG} (h : zK g G) : mfc G = mfc g := by unfold mfc; rw [h.2 9 (by decide)]
theorem mbh_k {g G : ZG} (h : zK g G) : mbh G = mbh g := by unfold mbh; rw [h.2 9 (by decide), h.1 35 (by decide)]
theorem MCL.k {g G : ZG} (k : MCL g) (h : zK g G) : MCL G := by
  unfold MCL
  rw [mfc_k h, mbh_k h, h.2 9 (by decide), h.1 35 (by decide), h.1 36 (by decide), h.1 37 (by decide), h.1 38 (by decide), h.1 39 (by decide), h.1 40 (by decide)]
  exact k
theorem mSo_k {g G : ZG} (k : zK g G) (fa : Nat → Int) (c : Nat) : mSo G fa c = mSo g fa c := by unfold mSo; rw [k.1 38 (by decide), k.1 39 (by decide), k.1 40 (by decide)]
theorem mWs_k {g G : ZG} (k : zK g G) (w : Int) (fa : Nat → Int) : mWs G w fa = mWs g w fa := by
  unfold mWs
  rw [mfc_k k, mbh_k k, k.1 36 (by decide), k.1 37 (by decide)]
  exact congrArg (fun z => zsum z _ _) (funext fun c => by rw [mSo_k k])
theorem mMin_k {g G : ZG} (h : zK g G) (fa : Nat → Int) : ∀ (n k : Nat) (a : Int), mMin G fa n k a = mMin g fa n k a := by
  intro n
  induction n with
  | zero => intro k a; rfl
  | succ n ih => intro k a; unfold mMin; rw [ih, mSo_k h, h.1 36 (by decide), h.1 37 (by decide)]
theorem mWh_k {g G : ZG} (k : zK g G) : mWh G = mWh g := by unfold mWh; rw [mfc_k k, mbh_k k, k.1 36 (by decide)]
theorem mW_k {g G : ZG} (h : zK g G) : mW G = mW g := by
  funext p s k hh f m
  unfold mW mWw
  rw [mWs_k h, mWs_k h, mMin_k h, mWh_k h, mfc_k h, mbh_k h]
theorem mT_k {g G : ZG} (h : zK g G) : mT G = ((g 8 0 0, g 8 0 1, g 8 0 2, G 8 0 3), (g 30 0, g 31 0, g 32 0, G 33 0), mW g, G 8 0 26) := by
  unfold mT
  rw [mW_k h, h.2 0 (by decide), h.2 1 (by decide), h.2 2 (by decide), h.1 30 (by decide), h.1 31 (by decide), h.1 32 (by decide)]
theorem MOK.k {g G : ZG} (m : MOK g) (h : zK g G) (h3 : 0 ≤ G 8 0 3 ∧ G 8 0 3 ≤ 100000) (h26 : -1 ≤ G 8 0 26 ∧ G 8 0 26 ≤ 100) (hh : ∀ p : Nat, (p : Int) < g 8 0 2 → -1 ≤ G 33 0 p ∧ G 33 0 p < g 8 0 0) : MOK G := by
  obtain ⟨k1, k2, k3, k4, k5, k6, k7⟩ := m
  refine ⟨?_, ?_, ?_, h3, h26, k6.k h, ?_⟩
  · rw [h.2 0 (by decide)]; exact k1
  · rw [h.2 1 (by decide)]; exact k2
  · rw [h.2 2 (by decide)]; exact k3
  · rw [h.2 0 (by decide), h.2 2 (by decide), h.1 30 (by decide), h.1 31 (by decide), h.1 32 (by decide)]; exact fun p hp => ⟨hh p hp, (k7 p hp).2⟩
/-! pairs -/
theorem zsum_sn (f : Nat → Int) : ∀ n k : Nat, zsum f (n + 1) k = zsum f n k + f (k + n) := by
  intro n
  induction n with
  | zero => intro k; show f k + 0 = 0 + f (k + 0); rw [Int.add_zero, Int.zero_add, Nat.add_zero]
  | succ n ih => intro k; rw [zsum_s, ih (k + 1), zsum_s f n k, show k + 1 + n = k + (n + 1) by omega, Int.add_assoc]
theorem zsum_add (f h : Nat → Int) : ∀ n k : Nat, zsum (fun j => f j + h j) n k = zsum f n k + zsum h n k := by
  intro n
  induction n with
  | zero => intro k; rfl
  | succ n ih => intro k; rw [zsum_s, ih, zsum_s f, zsum_s h]; omega
theorem zsum_tri (f : Nat → Nat → Int) : ∀ n : Nat, zsum (fun a => zsum (f a) (n - (a + 1)) (a + 1)) n 0 = zsum (fun b => zsum (fun a => f a b) b 0) n 0 := by
  intro n
  induction n with
  | zero => rfl
  | succ n ih =>
    rw [zsum_sn, zsum_sn (fun b => zsum (fun a => f a b) b 0), ← ih]
    have e : zsum (fun a => zsum (f a) (n + 1 - (a + 1)) (a + 1)) n 0 = zsum (fun a => zsum (f a) (n - (a + 1)) (a + 1) + f a n) n 0 := zsum_cong (fun j h1 h2 => by
      rw [show n + 1 - (j + 1) = (n - (j + 1)) + 1 by omega, zsum_sn, show j + 1 + (n - (j + 1)) = n by omega])
    have e0 : n + 1 - (0 + n + 1) = 0 := by omega
    rw [e, zsum_add, e0, show zsum (f (0 + n)) 0 (0 + n + 1) = 0 from rfl, Nat.zero_add, Int.add_zero]
theorem zsum_0 {f : Nat → Int} (h : f 0 = 0) (n : Nat) : zsum f n 0 = zsum f (n - 1) 1 := by
  cases n with
  | zero => rfl
  | succ n => rw [zsum_s, h, Int.zero_add]; rfl
def mPf (g : ZG) (al : Int) (a b : Nat) : Int := if nx (g 8 0 0) (g 8 0 1) (g 33 0 a) (g 33 0 b) = true ∧ (al = 0 ∨ g 32 0 a = g 32 0 b) then 1 else 0
def mPrs (g : ZG) (al : Int) : Int := zsum (fun a => zsum (mPf g al a) ((g 8 0 2).toNat - (a + 1)) (a + 1)) (g 8 0 2).toNat 0
theorem mPrs_like {g : ZG} (hh : MHH g) : mPrs g 1 = tlp (mT g) := by
  unfold mPrs
  rw [zsum_tri (mPf g 1), zsum_0 (f := fun b => zsum (fun a => mPf g 1 a b) b 0) rfl]
  refine zsum_cong (fun b h1 h2 => zsum_cong (fun a h3 h4 => ?_))
  have ha := hh a (by omega)
  unfold mPf
  refine zif_iff ⟨fun z => ⟨?_, zliv_t ha (by rw [nx_comm]; exact z.1)⟩, fun z => ⟨by rw [nx_comm]; exact (zliv_f z.2).2, Or.inr z.1⟩⟩
  rcases z.2 with y | y
  · exact absurd y (by decide)
  · exact y
theorem mPrs_all {g : ZG} (hh : MHH g) : mPrs g 0 = zap (g 8 0 0) (g 8 0 1) (g 8 0 2) (g 33 0) := by
  unfold mPrs
  rw [zsum_tri (mPf g 0), zsum_0 (f := fun b => zsum (fun a => mPf g 0 a b) b 0) rfl]
  refine zsum_cong (fun b h1 h2 => zsum_cong (fun a h3 h4 => ?_))
  have ha := hh a (by omega)
  unfold mPf
  exact zif_iff ⟨fun z => zliv_t ha (by rw [nx_comm]; exact z.1), fun z => ⟨by rw [nx_comm]; exact (zliv_f z).2, Or.inl rfl⟩⟩
theorem mPf_01 (g : ZG) (al : Int) (a b : Nat) : mPf g al a b = 0 ∨ mPf g al a b = 1 := by unfold mPf; split; exact Or.inr rfl; exact Or.inl rfl
theorem l_X8_pairs0b {Y : ZW} {Q : Option ZV → ZG → Prop} {g : ZG} (hm : MOK g) (hh : MHH g) {a : Nat} (ha : (a : Int) < g 8 0 2) : ∀ (m k : Nat) (s : Int), (k : Int) + m = g 8 0 2 → (0 ≤ s ∧ s ≤ 12 * a + k) → (∀ s2, (0 ≤ s2 ∧ s2 ≤ 12 * a + g 8 0 2) → s2 = s + zsum (mPf g 0 a) m k → ZVV Y mX8_pairs (zcx Y 3 Q) 80 [ZR 8 0, ZI 0, ZI s2, ZI (a : Int), ZI (g 8 0 2)] [] g) → ZVV Y mX8_pairs (zcx Y 3 Q) 17 [ZR 8 0, ZI 0, ZI s, ZI (a : Int), ZI (k : Int)] [] g := by
  have hn8 := hm.1
  have hn6 := hm.2.2.1
  intro m
  induction m with
  | zero =>
    intro k s hk hs hq
    replace hs : 0 ≤ s ∧ s ≤ 12 * a + g 8 0 2 := by omega
    refine zs_iload (i := 4) rfl rfl ?_
    refine zs_aload_n (j := 0) (i := 0) rfl rfl rfl ?_
    refine zs_getfield (f := 8) (k := 2) rfl rfl (trivial) ?_
    show ZVV _ _ _ _ _ (ZI (g 8 0 2) :: _) _
    refine zs_icmp_ge 80 rfl (by omega) (fun hc_23 => ?_) (fun hc_23 => ?_)
    · have hx := hq s hs (by show s = s + 0; omega)
      rw [show g 8 0 2 = (k : Int) by omega] at hx
      exact hx
    · exfalso; omega
  | succ m ih =>
    intro k s hk hs hq
    refine zs_iload (i := 4) rfl rfl ?_
    refine zs_aload_n (j := 0) (i := 0) rfl rfl rfl ?_
    refine zs_getfield (f := 8) (k := 2) rfl rfl (trivial) ?_
    show ZVV _ _ _ _ _ (ZI (g 8 0 2) :: _) _
    refine zs_icmp_ge 80 rfl (by omega) (fun hc_23 => ?_) (fun hc_23 => ?_)
    · exfalso; omega
    · have hxa := hh a (by omega)
      have hxk := hh k (by omega)
      have hya := (hm.2.2.2.2.2.2 a (by omega)).1.2
      have hyk := (hm.2.2.2.2.2.2 k (by omega)).1.2
      refine zs_iload_n (j := 2) (i := 2) rfl rfl rfl ?_
      refine zs_aload_n (j := 0) (i := 0) rfl rfl rfl ?_
      refine zs_aload_n (j := 0) (i := 0) rfl rfl rfl ?_
      refine zs_getfield (f := 8) (k := 7) rfl rfl (trivial) ?_
      show ZVV _ _ _ _ _ (ZR 33 0 :: _) _
      refine zs_iload_n (j := 3) (i := 3) rfl rfl rfl ?_
      refine zs_iald (n := 6) rfl rfl (by omega) (by omega) ?_
      show ZVV _ _ _ _ _ (ZI (g 33 0 a) :: _) _
      refine zs_aload_n (j := 0) (i := 0) rfl rfl rfl ?_
      show ZVV _ _ _ 35 _ _ _
      refine zs_getfield (f := 8) (k := 7) rfl rfl (trivial) ?_
      show ZVV _ _ _ _ _ (ZR 33 0 :: _) _
      refine zs_iload (i := 4) rfl rfl ?_
      refine zs_iald (n := 6) rfl rfl (by omega) (by omega) ?_
      show ZVV _ _ _ _ _ (ZI (g 33 0 k) :: _) _
      refine zs_callV (host := "") rfl kX8_178 vX8_areNext (c_X8_areNext (g 33 0 a) (g 33 0 k)) [ZI (g 33 0 a), ZI (g 33 0 k)] [ZI s] rfl (zroom_of (by omega)) rfl (Nat.le_of_ble_eq_true rfl) (⟨rfl, by omega, by omega, by omega⟩) (fun r_41 g_41 hq_41 => ?_)
      obtain ⟨hr_41, hg_41⟩ := hq_41
      rw [hr_41, hg_41]
      show ZVV _ _ _ 44 _ [ZI (if nx (g 8 0 0) (g 8 0 1) (g 33 0 a) (g 33 0 k) = true then 1 else 0), ZI s] _
      refine zs_if_eq 71 rfl (by omega) (fun hc_44 => ?_) (fun hc_44 => ?_)
      · refine zs_iconst (n := 0) rfl ⟨by omega, by omega⟩ ?_
        refine zs_iadd_r rfl ⟨by omega, by omega⟩ ?_
        refine zs_istore_n (j := 2) (i := 2) rfl rfl (by decide) (by intro r x hr; have hr2 : r = 1 := (by omega); subst hr2; intro z; cases z) ?_
        show ZVV _ _ _ _ [ZR 8 0, ZI 0, ZI (s + 0), ZI (a : Int), ZI (k : Int)] _ _
        refine zs_iinc_r (i := 4) rfl rfl (by intro r x hr; have hr2 : r = 3 := (by omega); subst hr2; intro z; cases z) ⟨by omega, by omega⟩ ?_
        show ZVV _ _ _ _ [ZR 8 0, ZI 0, ZI (s + 0), ZI (a : Int), ZI ((k : Int) + 1)] _ _
        refine zs_goto 17 rfl (by omega) ?_
        have he : mPf g 0 a k = (0 : Int) := if_neg (fun z => by first | exact zif0 hc_44 z.1 | exact hc_64 (z.2.elim (fun y => absurd y (by decide)) id))
        refine ih (k + 1) (s + 0) (by omega) ⟨by omega, by omega⟩ (fun s2 h2 hs2 => hq s2 h2 ?_)
        rw [zsum_v he]
        exact hs2
      · refine zs_iload_n (j := 1) (i := 1) rfl rfl rfl ?_
        refine zs_if_eq 67 rfl (by omega) (fun hc_48 => ?_) (fun hc_48 => ?_)
        · refine zs_iconst (n := 1) rfl ⟨by omega, by omega⟩ ?_
          refine zs_goto 72 rfl (by omega) ?_
          refine zs_iadd_r rfl ⟨by omega, by omega⟩ ?_
          refine zs_istore_n (j := 2) (i := 2) rfl rfl (by decide) (by intro r x hr; have hr2 : r = 1 := (by omega); subst hr2; intro z; cases z) ?_
          show ZVV _ _ _ _ [ZR 8 0, ZI 0, ZI (s + 1), ZI (a : Int), ZI (k : Int)] _ _
          refine zs_iinc_r (i := 4) rfl rfl (by intro r x hr; have hr2 : r = 3 := (by omega); subst hr2; intro z; cases z) ⟨by omega, by omega⟩ ?_
          show ZVV _ _ _ _ [ZR 8 0, ZI 0, ZI (s + 1), ZI (a : Int), ZI ((k : Int) + 1)] _ _
          refine zs_goto 17 rfl (by omega) ?_
          have he : mPf g 0 a k = (1 : Int) := if_pos ⟨zif1 hc_44, Or.inl rfl⟩
          refine ih (k + 1) (s + 1) (by omega) ⟨by omega, by omega⟩ (fun s2 h2 hs2 => hq s2 h2 ?_)
          rw [zsum_v he]
          exact hs2
        · exfalso; omega
theorem l_X8_pairs0 {Y : ZW} {Q : Option ZV → ZG → Prop} {g : ZG} (hm : MOK g) (hh : MHH g) : ∀ (m a : Nat) (s : Int) (z4 : ZV), (∀ y, z4 ≠ ZJ y) → (a : Int) + m = g 8 0 2 → (0 ≤ s ∧ s ≤ 12 * a) → Q (some (ZI (s + zsum (fun a => zsum (mPf g 0 a) ((g 8 0 2).toNat - (a + 1)) (a + 1)) m a))) g → ZVV Y mX8_pairs (zcx Y 3 Q) 4 [ZR 8 0, ZI 0, ZI s, ZI (a : Int), z4] [] g := by
  have hn8 := hm.1
  have hn6 := hm.2.2.1
  intro m
  induction m with
  | zero =>
    intro a s z4 hz4 hk hs hq
    refine zs_iload_n (j := 3) (i := 3) rfl rfl rfl ?_
    refine zs_aload_n (j := 0) (i := 0) rfl rfl rfl ?_
    refine zs_getfield (f := 8) (k := 2) rfl rfl (trivial) ?_
    show ZVV _ _ _ _ _ (ZI (g 8 0 2) :: _) _
    refine zs_icmp_ge 86 rfl (by omega) (fun hc_9 => ?_) (fun hc_9 => ?_)
    · refine zs_iload_n (j := 2) (i := 2) rfl rfl rfl ?_
      exact zs_ireturn rfl rfl (by have hx := hq; rw [show zsum (fun a => zsum (mPf g 0 a) ((g 8 0 2).toNat - (a + 1)) (a + 1)) 0 a = 0 from rfl, Int.add_zero] at hx; exact hx)
    · exfalso; omega
  | succ m ih =>
    intro a s z4 hz4 hk hs hq
    refine zs_iload_n (j := 3) (i := 3) rfl rfl rfl ?_
    refine zs_aload_n (j := 0) (i := 0) rfl rfl rfl ?_
    refine zs_getfield (f := 8) (k := 2) rfl rfl (trivial) ?_
    show ZVV _ _ _ _ _ (ZI (g 8 0 2) :: _) _
    refine zs_icmp_ge 86 rfl (by omega) (fun hc_9 => ?_) (fun hc_9 => ?_)
    · exfalso; omega
    · refine zs_iload_n (j := 3) (i := 3) rfl rfl rfl ?_
      refine zs_iconst (n := 1) rfl ⟨by omega, by omega⟩ ?_
      refine zs_iadd_r rfl ⟨by omega, by omega⟩ ?_
      refine zs_istore (i := 4) rfl (by decide) (by intro r x hr; have hr2 : r = 3 := (by omega); subst hr2; intro z; cases z) ?_
      show ZVV _ _ _ _ [ZR 8 0, ZI 0, ZI s, ZI (a : Int), ZI ((a : Int) + 1)] _ _
      refine l_X8_pairs0b hm hh (by omega) ((g 8 0 2).toNat - (a + 1)) (a + 1) s (by omega) ⟨by omega, by omega⟩ (fun s2 hs2 he => ?_)
      refine zs_iinc_r (i := 3) rfl rfl (by intro r x hr; have hr2 : r = 2 := (by omega); subst hr2; intro z; cases z) ⟨by omega, by omega⟩ ?_
      show ZVV _ _ _ _ [ZR 8 0, ZI 0, ZI s2, ZI ((a : Int) + 1), ZI (g 8 0 2)] _ _
      refine zs_goto 4 rfl (by omega) ?_
      refine ih (a + 1) s2 _ (by intro y h; cases h) (by omega) ⟨by omega, by omega⟩ ?_
      have hx := hq
      rw [zsum_v (f := fun a => zsum (mPf g 0 a) ((g 8 0 2).toNat - (a + 1)) (a + 1)) (k := a) (v := zsum (mPf g 0 a) ((g 8 0 2).toNat - (a + 1)) (a + 1)) rfl, ← he] at hx
      exact hx
theorem c_X8_pairs0  : ZC mX8_pairs 3 (fun av g => av = [ZR 8 0, ZI 0] ∧ MOK g ∧ MHH g) (fun _ g r g' => r = some (ZI (mPrs g 0)) ∧ g' = g) := by
  refine zc_of gX8_pairs (fun av g hp => by obtain ⟨rfl, -⟩ := hp; exact Nat.le_of_ble_eq_true rfl) (fun Y av g hwf hrg hp hok => ?_)
  obtain ⟨rfl, hp⟩ := hp
  show ZVV _ _ _ 0 [ZR 8 0, ZI 0, ZX 99, ZX 99, ZX 99] [] _
  have hn6 := hp.1.2.2.1
  refine zs_iconst (n := 0) rfl ⟨by omega, by omega⟩ ?_
  refine zs_istore_n (j := 2) (i := 2) rfl rfl (by decide) (by intro r x hr; have hr2 : r = 1 := (by omega); subst hr2; intro z; cases z) ?_
  show ZVV _ _ _ _ [ZR 8 0, ZI 0, ZI 0, ZX 99, ZX 99] _ _
  refine zs_iconst (n := 0) rfl ⟨by omega, by omega⟩ ?_
  refine zs_istore_n (j := 3) (i := 3) rfl rfl (by decide) (by intro r x hr; have hr2 : r = 2 := (by omega); subst hr2; intro z; cases z) ?_
  show ZVV _ _ _ _ [ZR 8 0, ZI 0, ZI 0, ZI 0, ZX 99] _ _
  refine l_X8_pairs0 hp.1 hp.2 (g 8 0 2).toNat 0 0 _ (by intro y h; cases h) (by omega) ⟨by omega, by omega⟩ ⟨?_, rfl⟩
  rw [Int.zero_add]
  rfl

theorem l_X8_pairs1b {Y : ZW} {Q : Option ZV → ZG → Prop} {g : ZG} (hm : MOK g) (hh : MHH g) {a : Nat} (ha : (a : Int) < g 8 0 2) : ∀ (m k : Nat) (s : Int), (k : Int) + m = g 8 0 2 → (0 ≤ s ∧ s ≤ 12 * a + k) → (∀ s2, (0 ≤ s2 ∧ s2 ≤ 12 * a + g 8 0 2) → s2 = s + zsum (mPf g 1 a) m k → ZVV Y mX8_pairs (zcx Y 3 Q) 80 [ZR 8 0, ZI 1, ZI s2, ZI (a : Int), ZI (g 8 0 2)] [] g) → ZVV Y mX8_pairs (zcx Y 3 Q) 17 [ZR 8 0, ZI 1, ZI s, ZI (a : Int), ZI (k : Int)] [] g := by
  have hn8 := hm.1
  have hn6 := hm.2.2.1
  intro m
  induction m with
  | zero =>
    intro k s hk hs hq
    replace hs : 0 ≤ s ∧ s ≤ 12 * a + g 8 0 2 := by omega
    refine zs_iload (i := 4) rfl rfl ?_
    refine zs_aload_n (j := 0) (i := 0) rfl rfl rfl ?_
    refine zs_getfield (f := 8) (k := 2) rfl rfl (trivial) ?_
    show ZVV _ _ _ _ _ (ZI (g 8 0 2) :: _) _
    refine zs_icmp_ge 80 rfl (by omega) (fun hc_23 => ?_) (fun hc_23 => ?_)
    · have hx := hq s hs (by show s = s + 0; omega)
      rw [show g 8 0 2 = (k : Int) by omega] at hx
      exact hx
    · exfalso; omega
  | succ m ih =>
    intro k s hk hs hq
    refine zs_iload (i := 4) rfl rfl ?_
    refine zs_aload_n (j := 0) (i := 0) rfl rfl rfl ?_
    refine zs_getfield (f := 8) (k := 2) rfl rfl (trivial) ?_
    show ZVV _ _ _ _ _ (ZI (g 8 0 2) :: _) _
    refine zs_icmp_ge 80 rfl (by omega) (fun hc_23 => ?_) (fun hc_23 => ?_)
    · exfalso; omega
    · have hxa := hh a (by omega)
      have hxk := hh k (by omega)
      have hya := (hm.2.2.2.2.2.2 a (by omega)).1.2
      have hyk := (hm.2.2.2.2.2.2 k (by omega)).1.2
      refine zs_iload_n (j := 2) (i := 2) rfl rfl rfl ?_
      refine zs_aload_n (j := 0) (i := 0) rfl rfl rfl ?_
      refine zs_aload_n (j := 0) (i := 0) rfl rfl rfl ?_
      refine zs_getfield (f := 8) (k := 7) rfl rfl (trivial) ?_
      show ZVV _ _ _ _ _ (ZR 33 0 :: _) _
      refine zs_iload_n (j := 3) (i := 3) rfl rfl rfl ?_
      refine zs_iald (n := 6) rfl rfl (by omega) (by omega) ?_
      show ZVV _ _ _ _ _ (ZI (g 33 0 a) :: _) _
      refine zs_aload_n (j := 0) (i := 0) rfl rfl rfl ?_
      show ZVV _ _ _ 35 _ _ _
      refine zs_getfield (f := 8) (k := 7) rfl rfl (trivial) ?_
      show ZVV _ _ _ _ _ (ZR 33 0 :: _) _
      refine zs_iload (i := 4) rfl rfl ?_
      refine zs_iald (n := 6) rfl rfl (by omega) (by omega) ?_
      show ZVV _ _ _ _ _ (ZI (g 33 0 k) :: _) _
      refine zs_callV (host := "") rfl kX8_178 vX8_areNext (c_X8_areNext (g 33 0 a) (g 33 0 k)) [ZI (g 33 0 a), ZI (g 33 0 k)] [ZI s] rfl (zroom_of (by omega)) rfl (Nat.le_of_ble_eq_true rfl) (⟨rfl, by omega, by omega, by omega⟩) (fun r_41 g_41 hq_41 => ?_)
      obtain ⟨hr_41, hg_41⟩ := hq_41
      rw [hr_41, hg_41]
      show ZVV _ _ _ 44 _ [ZI (if nx (g 8 0 0) (g 8 0 1) (g 33 0 a) (g 33 0 k) = true then 1 else 0), ZI s] _
      refine zs_if_eq 71 rfl (by omega) (fun hc_44 => ?_) (fun hc_44 => ?_)
      · refine zs_iconst (n := 0) rfl ⟨by omega, by omega⟩ ?_
        refine zs_iadd_r rfl ⟨by omega, by omega⟩ ?_
        refine zs_istore_n (j := 2) (i := 2) rfl rfl (by decide) (by intro r x hr; have hr2 : r = 1 := (by omega); subst hr2; intro z; cases z) ?_
        show ZVV _ _ _ _ [ZR 8 0, ZI 1, ZI (s + 0), ZI (a : Int), ZI (k : Int)] _ _
        refine zs_iinc_r (i := 4) rfl rfl (by intro r x hr; have hr2 : r = 3 := (by omega); subst hr2; intro z; cases z) ⟨by omega, by omega⟩ ?_
        show ZVV _ _ _ _ [ZR 8 0, ZI 1, ZI (s + 0), ZI (a : Int), ZI ((k : Int) + 1)] _ _
        refine zs_goto 17 rfl (by omega) ?_
        have he : mPf g 1 a k = (0 : Int) := if_neg (fun z => by first | exact zif0 hc_44 z.1 | exact hc_64 (z.2.elim (fun y => absurd y (by decide)) id))
        refine ih (k + 1) (s + 0) (by omega) ⟨by omega, by omega⟩ (fun s2 h2 hs2 => hq s2 h2 ?_)
        rw [zsum_v he]
        exact hs2
      · refine zs_iload_n (j := 1) (i := 1) rfl rfl rfl ?_
        refine zs_if_eq 67 rfl (by omega) (fun hc_48 => ?_) (fun hc_48 => ?_)
        · exfalso; omega
        · refine zs_aload_n (j := 0) (i := 0) rfl rfl rfl ?_
          refine zs_getfield (f := 8) (k := 6) rfl rfl (trivial) ?_
          show ZVV _ _ _ _ _ (ZR 32 0 :: _) _
          refine zs_iload_n (j := 3) (i := 3) rfl rfl rfl ?_
          refine zs_iald (n := 6) rfl rfl (by omega) (by omega) ?_
          show ZVV _ _ _ _ _ (ZI (g 32 0 a) :: _) _
          refine zs_aload_n (j := 0) (i := 0) rfl rfl rfl ?_
          refine zs_getfield (f := 8) (k := 6) rfl rfl (trivial) ?_
          show ZVV _ _ _ _ _ (ZR 32 0 :: _) _
          refine zs_iload (i := 4) rfl rfl ?_
          show ZVV _ _ _ 63 _ _ _
          refine zs_iald (n := 6) rfl rfl (by omega) (by omega) ?_
          show ZVV _ _ _ _ _ (ZI (g 32 0 k) :: _) _
          refine zs_icmp_ne 71 rfl (by omega) (fun hc_64 => ?_) (fun hc_64 => ?_)
          · refine zs_iconst (n := 0) rfl ⟨by omega, by omega⟩ ?_
            refine zs_iadd_r rfl ⟨by omega, by omega⟩ ?_
            refine zs_istore_n (j := 2) (i := 2) rfl rfl (by decide) (by intro r x hr; have hr2 : r = 1 := (by omega); subst hr2; intro z; cases z) ?_
            show ZVV _ _ _ _ [ZR 8 0, ZI 1, ZI (s + 0), ZI (a : Int), ZI (k : Int)] _ _
            refine zs_iinc_r (i := 4) rfl rfl (by intro r x hr; have hr2 : r = 3 := (by omega); subst hr2; intro z; cases z) ⟨by omega, by omega⟩ ?_
            show ZVV _ _ _ _ [ZR 8 0, ZI 1, ZI (s + 0), ZI (a : Int), ZI ((k : Int) + 1)] _ _
            refine zs_goto 17 rfl (by omega) ?_
            have he : mPf g 1 a k = (0 : Int) := if_neg (fun z => by first | exact zif0 hc_44 z.1 | exact hc_64 (z.2.elim (fun y => absurd y (by decide)) id))
            refine ih (k + 1) (s + 0) (by omega) ⟨by omega, by omega⟩ (fun s2 h2 hs2 => hq s2 h2 ?_)
            rw [zsum_v he]
            exact hs2
          · refine zs_iconst (n := 1) rfl ⟨by omega, by omega⟩ ?_
            refine zs_goto 72 rfl (by omega) ?_
            refine zs_iadd_r rfl ⟨by omega, by omega⟩ ?_
            refine zs_istore_n (j := 2) (i := 2) rfl rfl (by decide) (by intro r x hr; have hr2 : r = 1 := (by omega); subst hr2; intro z; cases z) ?_
            show ZVV _ _ _ _ [ZR 8 0, ZI 1, ZI (s + 1), ZI (a : Int), ZI (k : Int)] _ _
            refine zs_iinc_r (i := 4) rfl rfl (by intro r x hr; have hr2 : r = 3 := (by omega); subst hr2; intro z; cases z) ⟨by omega, by omega⟩ ?_
            show ZVV _ _ _ _ [ZR 8 0, ZI 1, ZI (s + 1), ZI (a : Int), ZI ((k : Int) + 1)] _ _
            refine zs_goto 17 rfl (by omega) ?_
            have he : mPf g 1 a k = (1 : Int) := if_pos ⟨zif1 hc_44, Or.inr (Classical.not_not.mp hc_64)⟩
            refine ih (k + 1) (s + 1) (by omega) ⟨by omega, by omega⟩ (fun s2 h2 hs2 => hq s2 h2 ?_)
            rw [zsum_v he]
            exact hs2
theorem l_X8_pairs1 {Y : ZW} {Q : Option ZV → ZG → Prop} {g : ZG} (hm : MOK g) (hh : MHH g) : ∀ (m a : Nat) (s : Int) (z4 : ZV), (∀ y, z4 ≠ ZJ y) → (a : Int) + m = g 8 0 2 → (0 ≤ s ∧ s ≤ 12 * a) → Q (some (ZI (s + zsum (fun a => zsum (mPf g 1 a) ((g 8 0 2).toNat - (a + 1)) (a + 1)) m a))) g → ZVV Y mX8_pairs (zcx Y 3 Q) 4 [ZR 8 0, ZI 1, ZI s, ZI (a : Int), z4] [] g := by
  have hn8 := hm.1
  have hn6 := hm.2.2.1
  intro m
  induction m with
  | zero =>
    intro a s z4 hz4 hk hs hq
    refine zs_iload_n (j := 3) (i := 3) rfl rfl rfl ?_
    refine zs_aload_n (j := 0) (i := 0) rfl rfl rfl ?_
    refine zs_getfield (f := 8) (k := 2) rfl rfl (trivial) ?_
    show ZVV _ _ _ _ _ (ZI (g 8 0 2) :: _) _
    refine zs_icmp_ge 86 rfl (by omega) (fun hc_9 => ?_) (fun hc_9 => ?_)
    · refine zs_iload_n (j := 2) (i := 2) rfl rfl rfl ?_
      exact zs_ireturn rfl rfl (by have hx := hq; rw [show zsum (fun a => zsum (mPf g 1 a) ((g 8 0 2).toNat - (a + 1)) (a + 1)) 0 a = 0 from rfl, Int.add_zero] at hx; exact hx)
    · exfalso; omega
  | succ m ih =>
    intro a s z4 hz4 hk hs hq
    refine zs_iload_n (j := 3) (i := 3) rfl rfl rfl ?_
    refine zs_aload_n (j := 0) (i := 0) rfl rfl rfl ?_
    refine zs_getfield (f := 8) (k := 2) rfl rfl (trivial) ?_
    show ZVV _ _ _ _ _ (ZI (g 8 0 2) :: _) _
    refine zs_icmp_ge 86 rfl (by omega) (fun hc_9 => ?_) (fun hc_9 => ?_)
    · exfalso; omega
    · refine zs_iload_n (j := 3) (i := 3) rfl rfl rfl ?_
      refine zs_iconst (n := 1) rfl ⟨by omega, by omega⟩ ?_
      refine zs_iadd_r rfl ⟨by omega, by omega⟩ ?_
      refine zs_istore (i := 4) rfl (by decide) (by intro r x hr; have hr2 : r = 3 := (by omega); subst hr2; intro z; cases z) ?_
      show ZVV _ _ _ _ [ZR 8 0, ZI 1, ZI s, ZI (a : Int), ZI ((a : Int) + 1)] _ _
      refine l_X8_pairs1b hm hh (by omega) ((g 8 0 2).toNat - (a + 1)) (a + 1) s (by omega) ⟨by omega, by omega⟩ (fun s2 hs2 he => ?_)
      refine zs_iinc_r (i := 3) rfl rfl (by intro r x hr; have hr2 : r = 2 := (by omega); subst hr2; intro z; cases z) ⟨by omega, by omega⟩ ?_
      show ZVV _ _ _ _ [ZR 8 0, ZI 1, ZI s2, ZI ((a : Int) + 1), ZI (g 8 0 2)] _ _
      refine zs_goto 4 rfl (by omega) ?_
      refine ih (a + 1) s2 _ (by intro y h; cases h) (by omega) ⟨by omega, by omega⟩ ?_
      have hx := hq
      rw [zsum_v (f := fun a => zsum (mPf g 1 a) ((g 8 0 2).toNat - (a + 1)) (a + 1)) (k := a) (v := zsum (mPf g 1 a) ((g 8 0 2).toNat - (a + 1)) (a + 1)) rfl, ← he] at hx
      exact hx
theorem c_X8_pairs1  : ZC mX8_pairs 3 (fun av g => av = [ZR 8 0, ZI 1] ∧ MOK g ∧ MHH g) (fun _ g r g' => r = some (ZI (mPrs g 1)) ∧ g' = g) := by
  refine zc_of gX8_pairs (fun av g hp => by obtain ⟨rfl, -⟩ := hp; exact Nat.le_of_ble_eq_true rfl) (fun Y av g hwf hrg hp hok => ?_)
  obtain ⟨rfl, hp⟩ := hp
  show ZVV _ _ _ 0 [ZR 8 0, ZI 1, ZX 99, ZX 99, ZX 99] [] _
  have hn6 := hp.1.2.2.1
  refine zs_iconst (n := 0) rfl ⟨by omega, by omega⟩ ?_
  refine zs_istore_n (j := 2) (i := 2) rfl rfl (by decide) (by intro r x hr; have hr2 : r = 1 := (by omega); subst hr2; intro z; cases z) ?_
  show ZVV _ _ _ _ [ZR 8 0, ZI 1, ZI 0, ZX 99, ZX 99] _ _
  refine zs_iconst (n := 0) rfl ⟨by omega, by omega⟩ ?_
  refine zs_istore_n (j := 3) (i := 3) rfl rfl (by decide) (by intro r x hr; have hr2 : r = 2 := (by omega); subst hr2; intro z; cases z) ?_
  show ZVV _ _ _ _ [ZR 8 0, ZI 1, ZI 0, ZI 0, ZX 99] _ _
  refine l_X8_pairs1 hp.1 hp.2 (g 8 0 2).toNat 0 0 _ (by intro y h; cases h) (by omega) ⟨by omega, by omega⟩ ⟨?_, rfl⟩
  rw [Int.zero_add]
  rfl

def mkeep (g : ZG) : ZG := zup (zcpy g 33 0 44 0 0 0 6) 8 0 28 (g 8 0 3)
theorem l_X8_keep {Y : ZW} {Q : Option ZV → ZG → Prop} {g : ZG} : ∀ (m k : Nat), (k : Int) + m = 6 → Q none (zup (zcpy g 33 0 44 0 0 0 6) 8 0 28 (g 8 0 3)) → ZVV Y mX8_keep (zcx Y 1 Q) 2 [ZR 8 0, ZI (k : Int)] [] (zcpy g 33 0 44 0 0 0 k) := by
  intro m
  induction m with
  | zero =>
    intro k hk hq
    have h6 : k = 6 := by omega
    subst h6
    have e8 : (zcpy g 33 0 44 0 0 0 6) 8 = g 8 := by funext b c; unfold zcpy; rw [if_neg (fun z => absurd z.1 (by decide))]
    refine zs_iload_n (j := 1) (i := 1) rfl rfl rfl ?_
    refine zs_bipush (n := 6) rfl ⟨by omega, by omega⟩ ?_
    refine zs_icmp_ge 26 rfl (by omega) (fun hc_5 => ?_) (fun hc_5 => ?_)
    · refine zs_aload_n (j := 0) (i := 0) rfl rfl rfl ?_
      refine zs_aload_n (j := 0) (i := 0) rfl rfl rfl ?_
      refine zs_getfield (f := 8) (k := 3) rfl rfl (trivial) ?_
      show ZVV _ _ _ _ _ (ZI ((zcpy g 33 0 44 0 0 0 6) 8 0 3) :: _) _
      rw [e8]
      refine zs_putfield (f := 8) (k := 28) (x := g 8 0 3) rfl rfl (rfl) ?_
      exact zs_return rfl rfl (hq)
    · exfalso; omega
  | succ m ih =>
    intro k hk hq
    have es : (zcpy g 33 0 44 0 0 0 k) 33 = g 33 := by funext b c; unfold zcpy; rw [if_neg (fun z => absurd z.1 (by decide))]
    refine zs_iload_n (j := 1) (i := 1) rfl rfl rfl ?_
    refine zs_bipush (n := 6) rfl ⟨by omega, by omega⟩ ?_
    refine zs_icmp_ge 26 rfl (by omega) (fun hc_5 => ?_) (fun hc_5 => ?_)
    · exfalso; omega
    · refine zs_aload_n (j := 0) (i := 0) rfl rfl rfl ?_
      refine zs_getfield (f := 8) (k := 27) rfl rfl (trivial) ?_
      show ZVV _ _ _ _ _ (ZR 44 0 :: _) _
      refine zs_iload_n (j := 1) (i := 1) rfl rfl rfl ?_
      refine zs_aload_n (j := 0) (i := 0) rfl rfl rfl ?_
      refine zs_getfield (f := 8) (k := 7) rfl rfl (trivial) ?_
      show ZVV _ _ _ _ _ (ZR 33 0 :: _) _
      refine zs_iload_n (j := 1) (i := 1) rfl rfl rfl ?_
      refine zs_iald (n := 6) rfl rfl (by omega) (by omega) ?_
      show ZVV _ _ _ _ _ (ZI ((zcpy g 33 0 44 0 0 0 k) 33 0 k) :: _) _
      rw [es]
      show ZVV _ _ _ 19 _ _ _
      refine zs_iast (n := 6) rfl rfl (by omega) (by omega) ?_
      show ZVV _ _ _ _ _ _ (zup (zcpy g 33 0 44 0 0 0 k) 44 0 k (g 33 0 k))
      refine zs_iinc_r (i := 1) rfl rfl (by intro r x hr; have hr2 : r = 0 := (by omega); subst hr2; intro z; cases z) ⟨by omega, by omega⟩ ?_
      show ZVV _ _ _ _ [ZR 8 0, ZI ((k : Int) + 1)] _ _
      refine zs_goto 2 rfl (by omega) ?_
      rw [zcpy_s g 33 0 44 0 0 0 k (by omega) (by rw [Nat.zero_add])]
      exact ih (k + 1) (by omega) hq
theorem c_X8_keep  : ZC mX8_keep 1 (fun av g => av = [ZR 8 0] ∧ True) (fun _ g r g' => r = none ∧ g' = mkeep g) := by
  refine zc_of gX8_keep (fun av g hp => by obtain ⟨rfl, -⟩ := hp; exact Nat.le_of_ble_eq_true rfl) (fun Y av g hwf hrg hp hok => ?_)
  obtain ⟨rfl, hp⟩ := hp
  show ZVV _ _ _ 0 [ZR 8 0, ZX 99] [] _
  refine zs_iconst (n := 0) rfl ⟨by omega, by omega⟩ ?_
  refine zs_istore_n (j := 1) (i := 1) rfl rfl (by decide) (by intro r x hr; have hr2 : r = 0 := (by omega); subst hr2; intro z; cases z) ?_
  show ZVV _ _ _ _ [ZR 8 0, ZI 0] _ _
  have hx := l_X8_keep (Y := Y) (Q := fun r g' => r = none ∧ g' = mkeep g) (g := g) 6 0 (by omega) ⟨rfl, rfl⟩
  rw [zcpy_0] at hx
  exact hx

def mback (g : ZG) : ZG := zup (zcpy g 44 0 33 0 0 0 6) 8 0 3 (g 8 0 28)
theorem l_X8_putBack {Y : ZW} {Q : Option ZV → ZG → Prop} {g : ZG} : ∀ (m k : Nat), (k : Int) + m = 6 → Q none (zup (zcpy g 44 0 33 0 0 0 6) 8 0 3 (g 8 0 28)) → ZVV Y mX8_putBack (zcx Y 1 Q) 2 [ZR 8 0, ZI (k : Int)] [] (zcpy g 44 0 33 0 0 0 k) := by
  intro m
  induction m with
  | zero =>
    intro k hk hq
    have h6 : k = 6 := by omega
    subst h6
    have e8 : (zcpy g 44 0 33 0 0 0 6) 8 = g 8 := by funext b c; unfold zcpy; rw [if_neg (fun z => absurd z.1 (by decide))]
    refine zs_iload_n (j := 1) (i := 1) rfl rfl rfl ?_
    refine zs_bipush (n := 6) rfl ⟨by omega, by omega⟩ ?_
    refine zs_icmp_ge 26 rfl (by omega) (fun hc_5 => ?_) (fun hc_5 => ?_)
    · refine zs_aload_n (j := 0) (i := 0) rfl rfl rfl ?_
      refine zs_aload_n (j := 0) (i := 0) rfl rfl rfl ?_
      refine zs_getfield (f := 8) (k := 28) rfl rfl (trivial) ?_
      show ZVV _ _ _ _ _ (ZI ((zcpy g 44 0 33 0 0 0 6) 8 0 28) :: _) _
      rw [e8]
      refine zs_putfield (f := 8) (k := 3) (x := g 8 0 28) rfl rfl (rfl) ?_
      exact zs_return rfl rfl (hq)
    · exfalso; omega
  | succ m ih =>
    intro k hk hq
    have es : (zcpy g 44 0 33 0 0 0 k) 44 = g 44 := by funext b c; unfold zcpy; rw [if_neg (fun z => absurd z.1 (by decide))]
    refine zs_iload_n (j := 1) (i := 1) rfl rfl rfl ?_
    refine zs_bipush (n := 6) rfl ⟨by omega, by omega⟩ ?_
    refine zs_icmp_ge 26 rfl (by omega) (fun hc_5 => ?_) (fun hc_5 => ?_)
    · exfalso; omega
    · refine zs_aload_n (j := 0) (i := 0) rfl rfl rfl ?_
      refine zs_getfield (f := 8) (k := 7) rfl rfl (trivial) ?_
      show ZVV _ _ _ _ _ (ZR 33 0 :: _) _
      refine zs_iload_n (j := 1) (i := 1) rfl rfl rfl ?_
      refine zs_aload_n (j := 0) (i := 0) rfl rfl rfl ?_
      refine zs_getfield (f := 8) (k := 27) rfl rfl (trivial) ?_
      show ZVV _ _ _ _ _ (ZR 44 0 :: _) _
      refine zs_iload_n (j := 1) (i := 1) rfl rfl rfl ?_
      refine zs_iald (n := 6) rfl rfl (by omega) (by omega) ?_
      show ZVV _ _ _ _ _ (ZI ((zcpy g 44 0 33 0 0 0 k) 44 0 k) :: _) _
      rw [es]
      show ZVV _ _ _ 19 _ _ _
      refine zs_iast (n := 6) rfl rfl (by omega) (by omega) ?_
      show ZVV _ _ _ _ _ _ (zup (zcpy g 44 0 33 0 0 0 k) 33 0 k (g 44 0 k))
      refine zs_iinc_r (i := 1) rfl rfl (by intro r x hr; have hr2 : r = 0 := (by omega); subst hr2; intro z; cases z) ⟨by omega, by omega⟩ ?_
      show ZVV _ _ _ _ [ZR 8 0, ZI ((k : Int) + 1)] _ _
      refine zs_goto 2 rfl (by omega) ?_
      rw [zcpy_s g 44 0 33 0 0 0 k (by omega) (by rw [Nat.zero_add])]
      exact ih (k + 1) (by omega) hq
theorem c_X8_putBack  : ZC mX8_putBack 1 (fun av g => av = [ZR 8 0] ∧ True) (fun _ g r g' => r = none ∧ g' = mback g) := by
  refine zc_of gX8_putBack (fun av g hp => by obtain ⟨rfl, -⟩ := hp; exact Nat.le_of_ble_eq_true rfl) (fun Y av g hwf hrg hp hok => ?_)
  obtain ⟨rfl, hp⟩ := hp
  show ZVV _ _ _ 0 [ZR 8 0, ZX 99] [] _
  refine zs_iconst (n := 0) rfl ⟨by omega, by omega⟩ ?_
  refine zs_istore_n (j := 1) (i := 1) rfl rfl (by decide) (by intro r x hr; have hr2 : r = 0 := (by omega); subst hr2; intro z; cases z) ?_
  show ZVV _ _ _ _ [ZR 8 0, ZI 0] _ _
  have hx := l_X8_putBack (Y := Y) (Q := fun r g' => r = none ∧ g' = mback g) (g := g) 6 0 (by omega) ⟨rfl, rfl⟩
  rw [zcpy_0] at hx
  exact hx

theorem l_X8_areKept {Y : ZW} {Q : Option ZV → ZG → Prop} {g : ZG} (hn6 : 0 ≤ g 8 0 2 ∧ g 8 0 2 ≤ 6) : ∀ (m k : Nat), (k : Int) + m = g 8 0 2 → Q (some (ZI (if decide (zfst (fun j => decide (g 33 0 j ≠ g 44 0 j)) m k = -1) = true then 1 else 0))) g → ZVV Y mX8_areKept (zcx Y 1 Q) 2 [ZR 8 0, ZI (k : Int)] [] g := by
  intro m
  induction m with
  | zero =>
    intro k hk hq
    refine zs_iload_n (j := 1) (i := 1) rfl rfl rfl ?_
    refine zs_aload_n (j := 0) (i := 0) rfl rfl rfl ?_
    refine zs_getfield (f := 8) (k := 2) rfl rfl (trivial) ?_
    show ZVV _ _ _ _ _ (ZI (g 8 0 2) :: _) _
    refine zs_icmp_ge 33 rfl (by omega) (fun hc_7 => ?_) (fun hc_7 => ?_)
    · refine zs_iconst (n := 1) rfl ⟨by omega, by omega⟩ ?_
      exact zs_zreturn rfl rfl (by omega) (hq)
    · exfalso; omega
  | succ m ih =>
    intro k hk hq
    refine zs_iload_n (j := 1) (i := 1) rfl rfl rfl ?_
    refine zs_aload_n (j := 0) (i := 0) rfl rfl rfl ?_
    refine zs_getfield (f := 8) (k := 2) rfl rfl (trivial) ?_
    show ZVV _ _ _ _ _ (ZI (g 8 0 2) :: _) _
    refine zs_icmp_ge 33 rfl (by omega) (fun hc_7 => ?_) (fun hc_7 => ?_)
    · exfalso; omega
    · refine zs_aload_n (j := 0) (i := 0) rfl rfl rfl ?_
      refine zs_getfield (f := 8) (k := 7) rfl rfl (trivial) ?_
      show ZVV _ _ _ _ _ (ZR 33 0 :: _) _
      refine zs_iload_n (j := 1) (i := 1) rfl rfl rfl ?_
      refine zs_iald (n := 6) rfl rfl (by omega) (by omega) ?_
      show ZVV _ _ _ _ _ (ZI (g 33 0 k) :: _) _
      refine zs_aload_n (j := 0) (i := 0) rfl rfl rfl ?_
      refine zs_getfield (f := 8) (k := 27) rfl rfl (trivial) ?_
      show ZVV _ _ _ _ _ (ZR 44 0 :: _) _
      refine zs_iload_n (j := 1) (i := 1) rfl rfl rfl ?_
      show ZVV _ _ _ 21 _ _ _
      refine zs_iald (n := 6) rfl rfl (by omega) (by omega) ?_
      show ZVV _ _ _ _ _ (ZI (g 44 0 k) :: _) _
      refine zs_icmp_eq 27 rfl (by omega) (fun hc_22 => ?_) (fun hc_22 => ?_)
      · refine zs_iinc_r (i := 1) rfl rfl (by intro r x hr; have hr2 : r = 0 := (by omega); subst hr2; intro z; cases z) ⟨by omega, by omega⟩ ?_
        show ZVV _ _ _ _ [ZR 8 0, ZI ((k : Int) + 1)] _ _
        refine zs_goto 2 rfl (by omega) ?_
        exact ih (k + 1) (by omega) (by have hx := hq; rw [zfst_f (P := fun j => decide (g 33 0 j ≠ g 44 0 j)) (decide_eq_false (fun z => z hc_22))] at hx; exact hx)
      · refine zs_iconst (n := 0) rfl ⟨by omega, by omega⟩ ?_
        exact zs_zreturn rfl rfl (by omega) (by have hx := hq; rw [zfst_t (P := fun j => decide (g 33 0 j ≠ g 44 0 j)) (decide_eq_true hc_22), show decide ((k : Int) = -1) = false from decide_eq_false (by omega)] at hx; exact hx)
theorem c_X8_areKept  : ZC mX8_areKept 1 (fun av g => av = [ZR 8 0] ∧ (0 ≤ g 8 0 2 ∧ g 8 0 2 ≤ 6) ∧ True) (fun _ g r g' => r = some (ZI (if tSame (mT g) (g 44 0) = true then 1 else 0)) ∧ g' = g) := by
  refine zc_of gX8_areKept (fun av g hp => by obtain ⟨rfl, -⟩ := hp; exact Nat.le_of_ble_eq_true rfl) (fun Y av g hwf hrg hp hok => ?_)
  obtain ⟨rfl, hp⟩ := hp
  show ZVV _ _ _ 0 [ZR 8 0, ZX 99] [] _
  have hn6 := hp.1
  refine zs_iconst (n := 0) rfl ⟨by omega, by omega⟩ ?_
  refine zs_istore_n (j := 1) (i := 1) rfl rfl (by decide) (by intro r x hr; have hr2 : r = 0 := (by omega); subst hr2; intro z; cases z) ?_
  show ZVV _ _ _ _ [ZR 8 0, ZI 0] _ _
  exact l_X8_areKept hn6 (g 8 0 2).toNat 0 (by omega) ⟨rfl, rfl⟩

