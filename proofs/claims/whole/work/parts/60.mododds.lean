def pc8 (n : Nat) : Nat := (if n.testBit 0 = true then 1 else 0) + (if n.testBit 1 = true then 1 else 0) + (if n.testBit 2 = true then 1 else 0) + (if n.testBit 3 = true then 1 else 0) + (if n.testBit 4 = true then 1 else 0) + (if n.testBit 5 = true then 1 else 0) + (if n.testBit 6 = true then 1 else 0) + (if n.testBit 7 = true then 1 else 0)
theorem pc8_s : ∀ n, n < 256 → n ≠ 0 → pc8 (n &&& (n - 1)) + 1 = pc8 n ∧ (n &&& (n - 1)) < n := by decide +kernel
theorem pc8_0 : pc8 0 = 0 := by decide
theorem l_X8_ones {Y : ZW} {Q : Option ZV → ZG → Prop} {g : ZG} {w : Int} : ∀ (n sm : Nat) (c : Int), sm ≤ n → sm < 256 → (0 ≤ c ∧ c + pc8 sm ≤ 8) → Q (some (ZI (c + (pc8 sm : Nat)))) g → ZVV Y mX8_ones (zcx Y 1 Q) 4 [ZR 8 0, ZI w, ZI c, ZI (sm : Int)] [] g := by
  intro n
  induction n with
  | zero =>
    intro sm c hn h256 hc hq
    have h0 : sm = 0 := by omega
    subst h0
    refine zs_iload_n (j := 3) (i := 3) rfl rfl rfl ?_
    refine zs_if_eq 20 rfl (by omega) (fun hc_5 => ?_) (fun hc_5 => ?_)
    · refine zs_iload_n (j := 2) (i := 2) rfl rfl rfl ?_
      exact zs_ireturn rfl rfl (by have hx := hq; rw [pc8_0] at hx; rw [show c + ((0 : Nat) : Int) = c from Int.add_zero c] at hx; exact hx)
    · exfalso; omega
  | succ n ih =>
    intro sm c hn h256 hc hq
    refine zs_iload_n (j := 3) (i := 3) rfl rfl rfl ?_
    refine zs_if_eq 20 rfl (by omega) (fun hc_5 => ?_) (fun hc_5 => ?_)
    · refine zs_iload_n (j := 2) (i := 2) rfl rfl rfl ?_
      exact zs_ireturn rfl rfl (by have h0 : sm = 0 := (by omega); subst h0; have hx := hq; rw [pc8_0] at hx; rw [show c + ((0 : Nat) : Int) = c from Int.add_zero c] at hx; exact hx)
    · have hs := pc8_s sm h256 (by omega)
      refine zs_iinc_r (i := 2) rfl rfl (by intro r x hr; have hr2 : r = 1 := (by omega); subst hr2; intro z; cases z) ⟨by omega, by omega⟩ ?_
      show ZVV _ _ _ _ [ZR 8 0, ZI w, ZI (c + 1), ZI (sm : Int)] _ _
      refine zs_iload_n (j := 3) (i := 3) rfl rfl rfl ?_
      refine zs_iload_n (j := 3) (i := 3) rfl rfl rfl ?_
      refine zs_iconst (n := 1) rfl ⟨by omega, by omega⟩ ?_
      refine zs_isub_r rfl ⟨by omega, by omega⟩ ?_
      refine zs_iand rfl ?_
      refine zs_istore_n (j := 3) (i := 3) rfl rfl (by decide) (by intro r x hr; have hr2 : r = 2 := (by omega); subst hr2; intro z; cases z) ?_
      show ZVV _ _ _ _ [ZR 8 0, ZI w, ZI (c + 1), ZI (zand (sm : Int) ((sm : Int) - 1))] _ _
      show ZVV _ _ _ 17 _ _ _
      refine zs_goto 4 rfl (by omega) ?_
      have ea : zand (sm : Int) ((sm : Int) - 1) = ((sm &&& (sm - 1) : Nat) : Int) := by rw [show (sm : Int) - 1 = ((sm - 1 : Nat) : Int) by omega, zand_n (by omega) (by omega)]
      rw [ea]
      refine ih (sm &&& (sm - 1)) (c + 1) (by omega) (by omega) ⟨by omega, by omega⟩ ?_
      have hx := hq
      rw [show c + ((pc8 sm : Nat) : Int) = c + 1 + ((pc8 (sm &&& (sm - 1)) : Nat) : Int) by omega] at hx
      exact hx
theorem pc8_le (n : Nat) : pc8 n ≤ 8 := by
  unfold pc8
  have h : ∀ b : Bool, (if b = true then 1 else 0) ≤ 1 := by decide
  have h0 := h (n.testBit 0); have h1 := h (n.testBit 1); have h2 := h (n.testBit 2); have h3 := h (n.testBit 3)
  have h4 := h (n.testBit 4); have h5 := h (n.testBit 5); have h6 := h (n.testBit 6); have h7 := h (n.testBit 7)
  omega
theorem c_X8_ones (sm : Nat) : ZC mX8_ones 1 (fun av g => av = [ZR 8 0, ZI (sm : Int)] ∧ sm < 256 ∧ True) (fun _ g r g' => r = some (ZI ((pc8 sm : Nat) : Int)) ∧ g' = g) := by
  refine zc_of gX8_ones (fun av g hp => by obtain ⟨rfl, -⟩ := hp; exact Nat.le_of_ble_eq_true rfl) (fun Y av g hwf hrg hp hok => ?_)
  obtain ⟨rfl, hp⟩ := hp
  show ZVV _ _ _ 0 [ZR 8 0, ZI (sm : Int), ZX 99, ZX 99] [] _
  have hl := pc8_le sm
  refine zs_iconst (n := 0) rfl ⟨by omega, by omega⟩ ?_
  refine zs_istore_n (j := 2) (i := 2) rfl rfl (by decide) (by intro r x hr; have hr2 : r = 1 := (by omega); subst hr2; intro z; cases z) ?_
  show ZVV _ _ _ _ [ZR 8 0, ZI (sm : Int), ZI 0, ZX 99] _ _
  refine zs_iload_n (j := 1) (i := 1) rfl rfl rfl ?_
  refine zs_istore_n (j := 3) (i := 3) rfl rfl (by decide) (by intro r x hr; have hr2 : r = 2 := (by omega); subst hr2; intro z; cases z) ?_
  show ZVV _ _ _ _ [ZR 8 0, ZI (sm : Int), ZI 0, ZI (sm : Int)] _ _
  exact l_X8_ones sm sm 0 (Nat.le_refl _) hp.1 ⟨by omega, by omega⟩ ⟨by rw [Int.zero_add], rfl⟩

def zPp (g : ZG) (p : Nat) (G : ZG) : Prop := zQ3 g G ∧ ∀ i c, ¬ (i = 0 ∧ c = p) → G 33 i c = g 33 i c
theorem zP.pp {g G : ZG} (h : zP g G) (p : Nat) : zPp g p G := ⟨h.q3, fun i c _ => by rw [h 33 (by decide)]⟩
theorem zPp.put {g G : ZG} {p : Nat} (h : zPp g p G) (v : Int) : zP (zup g 33 0 p v) (zup G 33 0 p v) := by
  intro f hf
  by_cases h3 : f = 33
  · subst h3
    funext i c
    unfold zup
    by_cases hc : c = p ∧ i = 0
    · rw [if_pos ⟨rfl, hc⟩, if_pos ⟨rfl, hc⟩]
    · rw [if_neg (fun z => hc z.2), if_neg (fun z => hc z.2)]; exact h.2 i c (fun z => hc ⟨z.2, z.1⟩)
  · rw [zup_nf _ _ _ _ h3, zup_nf _ _ _ _ h3]; exact h.1 f hf h3
theorem zPp.of {g M : ZG} {p : Nat} {v : Int} (h : zP (zup g 33 0 p v) M) : zPp g p M := ⟨fun f h1 h2 => (h f h1).trans (zup_nf _ _ _ _ h2), fun i c hc => by rw [h 33 (by decide)]; unfold zup; rw [if_neg (fun z => hc ⟨z.2.2, z.2.1⟩)]⟩
theorem zPp.back {g G : ZG} {p : Nat} (h : zPp g p G) : zP g (zup G 33 0 p (g 33 0 p)) := by
  have := h.put (g 33 0 p)
  rwa [zup_self] at this
theorem mput_hh {g : ZG} (hh : MHH g) (p : Nat) {v : Int} (hv : 0 ≤ v) : MHH (zup g 33 0 p v) := fun c hc => by
  rw [zup_nf _ _ _ _ (by decide)] at hc
  unfold zup
  split
  · exact hv
  · exact hh c hc
theorem zsum_ge {f : Nat → Int} {B : Int} (h : ∀ j, 0 ≤ f j ∧ f j ≤ B) (n k : Nat) : 0 ≤ zsum f n k ∧ zsum f n k ≤ B * n := by
  have := zsum_rng (f := f) (a := 0) (b := B) (n := n) (k := k) (fun j _ _ => h j)
  omega
theorem l_X8_goodOnesb {Y : ZW} {Q : Option ZV → ZG → Prop} {g : ZG} {a : Nat} (hm : MOK g) (hh : MHH g) (ha : (a : Int) < g 8 0 2) : ∀ (m k : Nat) (s : Int) (G : ZG), (k : Int) + m = g 8 0 0 → zPp g a G → (0 ≤ s ∧ s ≤ 1 * (8 * a + k)) → (∀ (s2 : Int) M, s2 = s + zsum (fun h => if tFr (mT g) (h : Int) = true then tCB (tput (mT g) a (h : Int)) 0 else 0) m k → (0 ≤ s2 ∧ s2 ≤ 1 * (8 * a + g 8 0 0)) → zPp g a M → ZVV Y mX8_goodOnes (zcx Y 8 Q) 79 [ZR 8 0, ZI ((zfree (g 8 0 0) (g 8 0 2) (g 33 0) : Nat) : Int), ZI s2, ZI (a : Int), ZI (g 33 0 a), ZI (g 8 0 0)] [] M) → ZVV Y mX8_goodOnes (zcx Y 8 Q) 28 [ZR 8 0, ZI ((zfree (g 8 0 0) (g 8 0 2) (g 33 0) : Nat) : Int), ZI s, ZI (a : Int), ZI (g 33 0 a), ZI (k : Int)] [] G := by
  have hn8 := hm.1
  have hn6 := hm.2.2.1
  intro m
  induction m with
  | zero =>
    intro k s G hk hz hb hq
    refine zs_iload (i := 5) rfl rfl ?_
    refine zs_aload_n (j := 0) (i := 0) rfl rfl rfl ?_
    refine zs_getfield (f := 8) (k := 0) rfl rfl (trivial) ?_
    show ZVV _ _ _ _ _ (ZI (G 8 0 0) :: _) _
    rw [show G 8 0 0 = g 8 0 0 from congrFun (congrFun (hz.1 8 (by decide) (by decide)) 0) 0]
    refine zs_icmp_ge 79 rfl (by omega) (fun hc_34 => ?_) (fun hc_34 => ?_)
    · rw [show (k : Int) = g 8 0 0 by omega]
      exact hq s G (by show s = s + 0; omega) (by omega) hz
    · exfalso; omega
  | succ m ih =>
    intro k s G hk hz hb hq
    refine zs_iload (i := 5) rfl rfl ?_
    refine zs_aload_n (j := 0) (i := 0) rfl rfl rfl ?_
    refine zs_getfield (f := 8) (k := 0) rfl rfl (trivial) ?_
    show ZVV _ _ _ _ _ (ZI (G 8 0 0) :: _) _
    rw [show G 8 0 0 = g 8 0 0 from congrFun (congrFun (hz.1 8 (by decide) (by decide)) 0) 0]
    refine zs_icmp_ge 79 rfl (by omega) (fun hc_34 => ?_) (fun hc_34 => ?_)
    · exfalso; omega
    · refine zs_aload_n (j := 0) (i := 0) rfl rfl rfl ?_
      refine zs_iload_n (j := 1) (i := 1) rfl rfl rfl ?_
      refine zs_iload (i := 5) rfl rfl ?_
      refine zs_callV (host := "") rfl kX8_271 vX8_has (c_X8_has (zfree (g 8 0 0) (g 8 0 2) (g 33 0)) (k : Int)) [ZI ((zfree (g 8 0 0) (g 8 0 2) (g 33 0) : Nat) : Int), ZI (k : Int)] [] rfl (zroom_of (by omega)) rfl (Nat.le_of_ble_eq_true rfl) (⟨rfl, zfree_lt hn8.2, by omega, by omega⟩) (fun r_41 g_41 hq_41 => ?_)
      obtain ⟨hr_41, hg_41⟩ := hq_41
      rw [hr_41, hg_41]
      show ZVV _ _ _ 44 _ [ZI (if Nat.testBit (zfree (g 8 0 0) (g 8 0 2) (g 33 0)) k = true then 1 else 0)] _
      rw [zfree_bit (by omega)]
      refine zs_if_ne 50 rfl (by omega) (fun hc_44 => ?_) (fun hc_44 => ?_)
      · refine zs_aload_n (j := 0) (i := 0) rfl rfl rfl ?_
        refine zs_getfield (f := 8) (k := 7) rfl rfl (trivial) ?_
        show ZVV _ _ _ _ _ (ZR 33 0 :: _) _
        refine zs_iload_n (j := 3) (i := 3) rfl rfl rfl ?_
        refine zs_iload (i := 5) rfl rfl ?_
        refine zs_iast (n := 6) rfl rfl (by omega) (by omega) ?_
        show ZVV _ _ _ _ _ _ (zup G 33 0 a (k : Int))
        refine zs_iload_n (j := 2) (i := 2) rfl rfl rfl ?_
        have hzB := hz.put (k : Int)
        have hMB := tput_ok hm (zP.rf g) a (v := (k : Int)) ⟨by omega, by omega⟩
        have hHB := mput_hh hh a (v := (k : Int)) (by omega)
        refine zs_aload_n (j := 0) (i := 0) rfl rfl rfl ?_
        show ZVV _ _ _ 60 _ _ _
        refine zs_callV (host := "") rfl kX8_328 vX8_areAll c_X8_areAll [] [ZI s] rfl (zroom_of (by omega)) rfl (Nat.le_of_ble_eq_true rfl) ⟨rfl, hMB.z hzB, hHB.z hzB⟩ (fun r_60 g_60 hq_60 => ?_)
        obtain ⟨hr_60, hz1_60⟩ := hq_60
        rw [hr_60, mT_z hzB, tput_T (zP.rf g)]
        have hz_60 : zPp g a g_60 := zPp.of (hzB.tr hz1_60)
        have hcb := tCB_rng 0 (tput (mT g) a (k : Int)) hn8.2 hn6.2
        show ZVV _ _ _ 63 _ [ZI (if tAll (tput (mT g) a (k : Int)) = true then 1 else 0), ZI s] g_60
        refine zs_if_eq 70 rfl (by omega) (fun hc_63 => ?_) (fun hc_63 => ?_)
        · refine zs_iconst (n := 0) rfl ⟨by omega, by omega⟩ ?_
          refine zs_iadd_r rfl ⟨by omega, by omega⟩ ?_
          refine zs_istore_n (j := 2) (i := 2) rfl rfl (by decide) (by intro r x hr; have hr2 : r = 1 := (by omega); subst hr2; intro z; cases z) ?_
          show ZVV _ _ _ _ [ZR 8 0, ZI ((zfree (g 8 0 0) (g 8 0 2) (g 33 0) : Nat) : Int), ZI (s + 0), ZI (a : Int), ZI (g 33 0 a), ZI (k : Int)] _ _
          refine zs_iinc_r (i := 5) rfl rfl (by intro r x hr; have hr2 : r = 4 := (by omega); subst hr2; intro z; cases z) ⟨by omega, by omega⟩ ?_
          show ZVV _ _ _ _ [ZR 8 0, ZI ((zfree (g 8 0 0) (g 8 0 2) (g 33 0) : Nat) : Int), ZI (s + 0), ZI (a : Int), ZI (g 33 0 a), ZI ((k : Int) + 1)] _ _
          refine zs_goto 28 rfl (by omega) ?_
          have he : (fun h => if tFr (mT g) (h : Int) = true then tCB (tput (mT g) a (h : Int)) 0 else 0) k = (0 : Int) := (if_pos (pfl_t2 hc_44)).trans (if_neg (zif0 hc_63))
          refine ih (k + 1) (s + 0) g_60 (by omega) hz_60 ⟨by omega, by omega⟩ (fun s2 M e2 b2 hM => hq s2 M ?_ b2 hM)
          rw [zsum_v he]
          exact e2
        · refine zs_iconst (n := 1) rfl ⟨by omega, by omega⟩ ?_
          refine zs_goto 71 rfl (by omega) ?_
          refine zs_iadd_r rfl ⟨by omega, by omega⟩ ?_
          refine zs_istore_n (j := 2) (i := 2) rfl rfl (by decide) (by intro r x hr; have hr2 : r = 1 := (by omega); subst hr2; intro z; cases z) ?_
          show ZVV _ _ _ _ [ZR 8 0, ZI ((zfree (g 8 0 0) (g 8 0 2) (g 33 0) : Nat) : Int), ZI (s + 1), ZI (a : Int), ZI (g 33 0 a), ZI (k : Int)] _ _
          refine zs_iinc_r (i := 5) rfl rfl (by intro r x hr; have hr2 : r = 4 := (by omega); subst hr2; intro z; cases z) ⟨by omega, by omega⟩ ?_
          show ZVV _ _ _ _ [ZR 8 0, ZI ((zfree (g 8 0 0) (g 8 0 2) (g 33 0) : Nat) : Int), ZI (s + 1), ZI (a : Int), ZI (g 33 0 a), ZI ((k : Int) + 1)] _ _
          refine zs_goto 28 rfl (by omega) ?_
          have he : (fun h => if tFr (mT g) (h : Int) = true then tCB (tput (mT g) a (h : Int)) 0 else 0) k = (1 : Int) := (if_pos (pfl_t2 hc_44)).trans (if_pos (zif1 hc_63))
          refine ih (k + 1) (s + 1) g_60 (by omega) hz_60 ⟨by omega, by omega⟩ (fun s2 M e2 b2 hM => hq s2 M ?_ b2 hM)
          rw [zsum_v he]
          exact e2
      · refine zs_goto 73 rfl (by omega) ?_
        refine zs_iinc_r (i := 5) rfl rfl (by intro r x hr; have hr2 : r = 4 := (by omega); subst hr2; intro z; cases z) ⟨by omega, by omega⟩ ?_
        show ZVV _ _ _ _ [ZR 8 0, ZI ((zfree (g 8 0 0) (g 8 0 2) (g 33 0) : Nat) : Int), ZI s, ZI (a : Int), ZI (g 33 0 a), ZI ((k : Int) + 1)] _ _
        refine zs_goto 28 rfl (by omega) ?_
        have he : (fun h => if tFr (mT g) (h : Int) = true then tCB (tput (mT g) a (h : Int)) 0 else 0) k = (0 : Int) := if_neg (fun z => hc_44 (by rw [z]; decide))
        refine ih (k + 1) s G (by omega) hz ⟨by omega, by omega⟩ (fun s2 M e2 b2 hM => hq s2 M ?_ b2 hM)
        rw [zsum_v he, Int.add_zero]
        exact e2
theorem l_X8_goodOnes {Y : ZW} {Q : Option ZV → ZG → Prop} {g : ZG} (hm : MOK g) (hh : MHH g) : ∀ (m a : Nat) (s : Int) (z4 z5 : ZV) (G : ZG), (∀ y, z4 ≠ ZJ y) → (∀ y, z5 ≠ ZJ y) → (a : Int) + m = g 8 0 2 → (0 ≤ s ∧ s ≤ 1 * (8 * a)) → zP g G → (∀ M, zP g M → Q (some (ZI (s + zsum (fun a => zsum (fun h => if tFr (mT g) (h : Int) = true then tCB (tput (mT g) a (h : Int)) 0 else 0) (g 8 0 0).toNat 0) m a))) M) → ZVV Y mX8_goodOnes (zcx Y 8 Q) 9 [ZR 8 0, ZI ((zfree (g 8 0 0) (g 8 0 2) (g 33 0) : Nat) : Int), ZI s, ZI (a : Int), z4, z5] [] G := by
  have hn8 := hm.1
  have hn6 := hm.2.2.1
  intro m
  induction m with
  | zero =>
    intro a s z4 z5 G hz4 hz5 hk hs hz hq
    refine zs_iload_n (j := 3) (i := 3) rfl rfl rfl ?_
    refine zs_aload_n (j := 0) (i := 0) rfl rfl rfl ?_
    refine zs_getfield (f := 8) (k := 2) rfl rfl (trivial) ?_
    show ZVV _ _ _ _ _ (ZI (G 8 0 2) :: _) _
    rw [show G 8 0 2 = g 8 0 2 from congrFun (congrFun (hz 8 (by decide)) 0) 2]
    refine zs_icmp_ge 93 rfl (by omega) (fun hc_14 => ?_) (fun hc_14 => ?_)
    · refine zs_iload_n (j := 2) (i := 2) rfl rfl rfl ?_
      exact zs_ireturn rfl rfl (by have hx := hq G hz; rw [show zsum (fun a => zsum (fun h => if tFr (mT g) (h : Int) = true then tCB (tput (mT g) a (h : Int)) 0 else 0) (g 8 0 0).toNat 0) 0 a = 0 from rfl, Int.add_zero] at hx; exact hx)
    · exfalso; omega
  | succ m ih =>
    intro a s z4 z5 G hz4 hz5 hk hs hz hq
    refine zs_iload_n (j := 3) (i := 3) rfl rfl rfl ?_
    refine zs_aload_n (j := 0) (i := 0) rfl rfl rfl ?_
    refine zs_getfield (f := 8) (k := 2) rfl rfl (trivial) ?_
    show ZVV _ _ _ _ _ (ZI (G 8 0 2) :: _) _
    rw [show G 8 0 2 = g 8 0 2 from congrFun (congrFun (hz 8 (by decide)) 0) 2]
    refine zs_icmp_ge 93 rfl (by omega) (fun hc_14 => ?_) (fun hc_14 => ?_)
    · exfalso; omega
    · refine zs_aload_n (j := 0) (i := 0) rfl rfl rfl ?_
      refine zs_getfield (f := 8) (k := 7) rfl rfl (trivial) ?_
      show ZVV _ _ _ _ _ (ZR 33 0 :: _) _
      refine zs_iload_n (j := 3) (i := 3) rfl rfl rfl ?_
      refine zs_iald (n := 6) rfl rfl (by omega) (by omega) ?_
      show ZVV _ _ _ _ _ (ZI (G 33 0 a) :: _) _
      rw [show G 33 0 a = g 33 0 a from congrFun (congrFun (hz 33 (by decide)) 0) a]
      refine zs_istore (i := 4) rfl (by decide) (by intro r x hr; have hr2 : r = 3 := (by omega); subst hr2; intro z; cases z) ?_
      show ZVV _ _ _ _ [ZR 8 0, ZI ((zfree (g 8 0 0) (g 8 0 2) (g 33 0) : Nat) : Int), ZI s, ZI (a : Int), ZI (g 33 0 a), z5] _ _
      refine zs_iconst (n := 0) rfl ⟨by omega, by omega⟩ ?_
      refine zs_istore (i := 5) rfl (by decide) (by intro r x hr; have hr2 : r = 4 := (by omega); subst hr2; intro z; cases z) ?_
      show ZVV _ _ _ _ [ZR 8 0, ZI ((zfree (g 8 0 0) (g 8 0 2) (g 33 0) : Nat) : Int), ZI s, ZI (a : Int), ZI (g 33 0 a), ZI 0] _ _
      refine l_X8_goodOnesb hm hh (by omega) (g 8 0 0).toNat 0 s G (by omega) (hz.pp a) ⟨hs.1, by omega⟩ (fun s2 M e2 b2 hM => ?_)
      refine zs_aload_n (j := 0) (i := 0) rfl rfl rfl ?_
      refine zs_getfield (f := 8) (k := 7) rfl rfl (trivial) ?_
      show ZVV _ _ _ _ _ (ZR 33 0 :: _) _
      refine zs_iload_n (j := 3) (i := 3) rfl rfl rfl ?_
      refine zs_iload (i := 4) rfl rfl ?_
      refine zs_iast (n := 6) rfl rfl (by omega) (by omega) ?_
      show ZVV _ _ _ _ _ _ (zup M 33 0 a (g 33 0 a))
      refine zs_iinc_r (i := 3) rfl rfl (by intro r x hr; have hr2 : r = 2 := (by omega); subst hr2; intro z; cases z) ⟨by omega, by omega⟩ ?_
      show ZVV _ _ _ _ [ZR 8 0, ZI ((zfree (g 8 0 0) (g 8 0 2) (g 33 0) : Nat) : Int), ZI s2, ZI ((a : Int) + 1), ZI (g 33 0 a), ZI (g 8 0 0)] _ _
      refine zs_goto 9 rfl (by omega) ?_
      refine ih (a + 1) s2 _ _ _ (by intro y h; cases h) (by intro y h; cases h) (by omega) ⟨b2.1, by omega⟩ hM.back (fun N hN => ?_)
      have hx := hq N hN
      rw [zsum_v (f := fun a => zsum (fun h => if tFr (mT g) (h : Int) = true then tCB (tput (mT g) a (h : Int)) 0 else 0) (g 8 0 0).toNat 0) (k := a) rfl, ← e2] at hx
      exact hx
theorem c_X8_goodOnes  : ZC mX8_goodOnes 8 (fun av g => av = [ZR 8 0] ∧ MOK g ∧ MHH g) (fun _ g r g' => r = some (ZI (tCB (mT g) 1)) ∧ zP g g') := by
  refine zc_of gX8_goodOnes (fun av g hp => by obtain ⟨rfl, -⟩ := hp; exact Nat.le_of_ble_eq_true rfl) (fun Y av g hwf hrg hp hok => ?_)
  obtain ⟨rfl, hp⟩ := hp
  show ZVV _ _ _ 0 [ZR 8 0, ZX 99, ZX 99, ZX 99, ZX 99, ZX 99] [] _
  obtain ⟨hm, hh⟩ := hp
  have hn8 := hm.1
  have hn6 := hm.2.2.1
  refine zs_aload_n (j := 0) (i := 0) rfl rfl rfl ?_
  refine zs_callV (host := "") rfl kX8_268 vX8_freeOnes (c_X8_freeOnes) [] [] rfl (zroom_of (by omega)) rfl (Nat.le_of_ble_eq_true rfl) ⟨rfl, hm.1, hm.2.2.1⟩ (fun r_1 g_1 hq_1 => ?_)
  obtain ⟨hr_1, hg_1⟩ := hq_1
  rw [hr_1, hg_1]
  show ZVV _ _ _ 4 _ [ZI ((zfree (g 8 0 0) (g 8 0 2) (g 33 0) : Nat) : Int)] g
  refine zs_istore_n (j := 1) (i := 1) rfl rfl (by decide) (by intro r x hr; have hr2 : r = 0 := (by omega); subst hr2; intro z; cases z) ?_
  show ZVV _ _ _ _ [ZR 8 0, ZI ((zfree (g 8 0 0) (g 8 0 2) (g 33 0) : Nat) : Int), ZX 99, ZX 99, ZX 99, ZX 99] _ _
  refine zs_iconst (n := 0) rfl ⟨by omega, by omega⟩ ?_
  refine zs_istore_n (j := 2) (i := 2) rfl rfl (by decide) (by intro r x hr; have hr2 : r = 1 := (by omega); subst hr2; intro z; cases z) ?_
  show ZVV _ _ _ _ [ZR 8 0, ZI ((zfree (g 8 0 0) (g 8 0 2) (g 33 0) : Nat) : Int), ZI 0, ZX 99, ZX 99, ZX 99] _ _
  refine zs_iconst (n := 0) rfl ⟨by omega, by omega⟩ ?_
  refine zs_istore_n (j := 3) (i := 3) rfl rfl (by decide) (by intro r x hr; have hr2 : r = 2 := (by omega); subst hr2; intro z; cases z) ?_
  show ZVV _ _ _ _ [ZR 8 0, ZI ((zfree (g 8 0 0) (g 8 0 2) (g 33 0) : Nat) : Int), ZI 0, ZI 0, ZX 99, ZX 99] _ _
  refine l_X8_goodOnes hm hh (g 8 0 2).toNat 0 0 _ _ g (by intro y h; cases h) (by intro y h; cases h) (by omega) ⟨by decide, by decide⟩ (zP.rf g) (fun M hM => ⟨?_, hM⟩)
  rw [Int.zero_add]
  rfl

theorem l_X8_goodTwosb {Y : ZW} {Q : Option ZV → ZG → Prop} {g : ZG} {a : Nat} (hm : MOK g) (hh : MHH g) (ha : (a : Int) < g 8 0 2) : ∀ (m k : Nat) (s : Int) (G : ZG), (k : Int) + m = g 8 0 0 → zPp g a G → (0 ≤ s ∧ s ≤ 48 * (8 * a + k)) → (∀ (s2 : Int) M, s2 = s + zsum (fun h => if tFr (mT g) (h : Int) = true then tCB (tput (mT g) a (h : Int)) 1 else 0) m k → (0 ≤ s2 ∧ s2 ≤ 48 * (8 * a + g 8 0 0)) → zPp g a M → ZVV Y mX8_goodTwos (zcx Y 9 Q) 71 [ZR 8 0, ZI ((zfree (g 8 0 0) (g 8 0 2) (g 33 0) : Nat) : Int), ZI s2, ZI (a : Int), ZI (g 33 0 a), ZI (g 8 0 0)] [] M) → ZVV Y mX8_goodTwos (zcx Y 9 Q) 28 [ZR 8 0, ZI ((zfree (g 8 0 0) (g 8 0 2) (g 33 0) : Nat) : Int), ZI s, ZI (a : Int), ZI (g 33 0 a), ZI (k : Int)] [] G := by
  have hn8 := hm.1
  have hn6 := hm.2.2.1
  intro m
  induction m with
  | zero =>
    intro k s G hk hz hb hq
    refine zs_iload (i := 5) rfl rfl ?_
    refine zs_aload_n (j := 0) (i := 0) rfl rfl rfl ?_
    refine zs_getfield (f := 8) (k := 0) rfl rfl (trivial) ?_
    show ZVV _ _ _ _ _ (ZI (G 8 0 0) :: _) _
    rw [show G 8 0 0 = g 8 0 0 from congrFun (congrFun (hz.1 8 (by decide) (by decide)) 0) 0]
    refine zs_icmp_ge 71 rfl (by omega) (fun hc_34 => ?_) (fun hc_34 => ?_)
    · rw [show (k : Int) = g 8 0 0 by omega]
      exact hq s G (by show s = s + 0; omega) (by omega) hz
    · exfalso; omega
  | succ m ih =>
    intro k s G hk hz hb hq
    refine zs_iload (i := 5) rfl rfl ?_
    refine zs_aload_n (j := 0) (i := 0) rfl rfl rfl ?_
    refine zs_getfield (f := 8) (k := 0) rfl rfl (trivial) ?_
    show ZVV _ _ _ _ _ (ZI (G 8 0 0) :: _) _
    rw [show G 8 0 0 = g 8 0 0 from congrFun (congrFun (hz.1 8 (by decide) (by decide)) 0) 0]
    refine zs_icmp_ge 71 rfl (by omega) (fun hc_34 => ?_) (fun hc_34 => ?_)
    · exfalso; omega
    · refine zs_aload_n (j := 0) (i := 0) rfl rfl rfl ?_
      refine zs_iload_n (j := 1) (i := 1) rfl rfl rfl ?_
      refine zs_iload (i := 5) rfl rfl ?_
      refine zs_callV (host := "") rfl kX8_271 vX8_has (c_X8_has (zfree (g 8 0 0) (g 8 0 2) (g 33 0)) (k : Int)) [ZI ((zfree (g 8 0 0) (g 8 0 2) (g 33 0) : Nat) : Int), ZI (k : Int)] [] rfl (zroom_of (by omega)) rfl (Nat.le_of_ble_eq_true rfl) (⟨rfl, zfree_lt hn8.2, by omega, by omega⟩) (fun r_41 g_41 hq_41 => ?_)
      obtain ⟨hr_41, hg_41⟩ := hq_41
      rw [hr_41, hg_41]
      show ZVV _ _ _ 44 _ [ZI (if Nat.testBit (zfree (g 8 0 0) (g 8 0 2) (g 33 0)) k = true then 1 else 0)] _
      rw [zfree_bit (by omega)]
      refine zs_if_ne 50 rfl (by omega) (fun hc_44 => ?_) (fun hc_44 => ?_)
      · refine zs_aload_n (j := 0) (i := 0) rfl rfl rfl ?_
        refine zs_getfield (f := 8) (k := 7) rfl rfl (trivial) ?_
        show ZVV _ _ _ _ _ (ZR 33 0 :: _) _
        refine zs_iload_n (j := 3) (i := 3) rfl rfl rfl ?_
        refine zs_iload (i := 5) rfl rfl ?_
        refine zs_iast (n := 6) rfl rfl (by omega) (by omega) ?_
        show ZVV _ _ _ _ _ _ (zup G 33 0 a (k : Int))
        refine zs_iload_n (j := 2) (i := 2) rfl rfl rfl ?_
        have hzB := hz.put (k : Int)
        have hMB := tput_ok hm (zP.rf g) a (v := (k : Int)) ⟨by omega, by omega⟩
        have hHB := mput_hh hh a (v := (k : Int)) (by omega)
        refine zs_aload_n (j := 0) (i := 0) rfl rfl rfl ?_
        show ZVV _ _ _ 60 _ _ _
        refine zs_callV (host := "") rfl kX8_349 vX8_goodOnes c_X8_goodOnes [] [ZI s] rfl (zroom_of (by omega)) rfl (Nat.le_of_ble_eq_true rfl) ⟨rfl, hMB.z hzB, hHB.z hzB⟩ (fun r_60 g_60 hq_60 => ?_)
        obtain ⟨hr_60, hz1_60⟩ := hq_60
        rw [hr_60, mT_z hzB, tput_T (zP.rf g)]
        have hz_60 : zPp g a g_60 := zPp.of (hzB.tr hz1_60)
        have hcb := tCB_rng 1 (tput (mT g) a (k : Int)) hn8.2 hn6.2
        show ZVV _ _ _ 63 _ [ZI (tCB (tput (mT g) a (k : Int)) 1), ZI s] g_60
        refine zs_iadd_r rfl ⟨by omega, by omega⟩ ?_
        refine zs_istore_n (j := 2) (i := 2) rfl rfl (by decide) (by intro r x hr; have hr2 : r = 1 := (by omega); subst hr2; intro z; cases z) ?_
        show ZVV _ _ _ _ [ZR 8 0, ZI ((zfree (g 8 0 0) (g 8 0 2) (g 33 0) : Nat) : Int), ZI (s + (tCB (tput (mT g) a (k : Int)) 1)), ZI (a : Int), ZI (g 33 0 a), ZI (k : Int)] _ _
        refine zs_iinc_r (i := 5) rfl rfl (by intro r x hr; have hr2 : r = 4 := (by omega); subst hr2; intro z; cases z) ⟨by omega, by omega⟩ ?_
        show ZVV _ _ _ _ [ZR 8 0, ZI ((zfree (g 8 0 0) (g 8 0 2) (g 33 0) : Nat) : Int), ZI (s + (tCB (tput (mT g) a (k : Int)) 1)), ZI (a : Int), ZI (g 33 0 a), ZI ((k : Int) + 1)] _ _
        refine zs_goto 28 rfl (by omega) ?_
        have he : (fun h => if tFr (mT g) (h : Int) = true then tCB (tput (mT g) a (h : Int)) 1 else 0) k = (tCB (tput (mT g) a (k : Int)) 1 : Int) := if_pos (pfl_t2 hc_44)
        refine ih (k + 1) (s + (tCB (tput (mT g) a (k : Int)) 1)) g_60 (by omega) hz_60 ⟨by omega, by omega⟩ (fun s2 M e2 b2 hM => hq s2 M ?_ b2 hM)
        rw [zsum_v he]
        exact e2
      · refine zs_goto 65 rfl (by omega) ?_
        refine zs_iinc_r (i := 5) rfl rfl (by intro r x hr; have hr2 : r = 4 := (by omega); subst hr2; intro z; cases z) ⟨by omega, by omega⟩ ?_
        show ZVV _ _ _ _ [ZR 8 0, ZI ((zfree (g 8 0 0) (g 8 0 2) (g 33 0) : Nat) : Int), ZI s, ZI (a : Int), ZI (g 33 0 a), ZI ((k : Int) + 1)] _ _
        refine zs_goto 28 rfl (by omega) ?_
        have he : (fun h => if tFr (mT g) (h : Int) = true then tCB (tput (mT g) a (h : Int)) 1 else 0) k = (0 : Int) := if_neg (fun z => hc_44 (by rw [z]; decide))
        refine ih (k + 1) s G (by omega) hz ⟨by omega, by omega⟩ (fun s2 M e2 b2 hM => hq s2 M ?_ b2 hM)
        rw [zsum_v he, Int.add_zero]
        exact e2
theorem l_X8_goodTwos {Y : ZW} {Q : Option ZV → ZG → Prop} {g : ZG} (hm : MOK g) (hh : MHH g) : ∀ (m a : Nat) (s : Int) (z4 z5 : ZV) (G : ZG), (∀ y, z4 ≠ ZJ y) → (∀ y, z5 ≠ ZJ y) → (a : Int) + m = g 8 0 2 → (0 ≤ s ∧ s ≤ 48 * (8 * a)) → zP g G → (∀ M, zP g M → Q (some (ZI (s + zsum (fun a => zsum (fun h => if tFr (mT g) (h : Int) = true then tCB (tput (mT g) a (h : Int)) 1 else 0) (g 8 0 0).toNat 0) m a))) M) → ZVV Y mX8_goodTwos (zcx Y 9 Q) 9 [ZR 8 0, ZI ((zfree (g 8 0 0) (g 8 0 2) (g 33 0) : Nat) : Int), ZI s, ZI (a : Int), z4, z5] [] G := by
  have hn8 := hm.1
  have hn6 := hm.2.2.1
  intro m
  induction m with
  | zero =>
    intro a s z4 z5 G hz4 hz5 hk hs hz hq
    refine zs_iload_n (j := 3) (i := 3) rfl rfl rfl ?_
    refine zs_aload_n (j := 0) (i := 0) rfl rfl rfl ?_
    refine zs_getfield (f := 8) (k := 2) rfl rfl (trivial) ?_
    show ZVV _ _ _ _ _ (ZI (G 8 0 2) :: _) _
    rw [show G 8 0 2 = g 8 0 2 from congrFun (congrFun (hz 8 (by decide)) 0) 2]
    refine zs_icmp_ge 85 rfl (by omega) (fun hc_14 => ?_) (fun hc_14 => ?_)
    · refine zs_iload_n (j := 2) (i := 2) rfl rfl rfl ?_
      exact zs_ireturn rfl rfl (by have hx := hq G hz; rw [show zsum (fun a => zsum (fun h => if tFr (mT g) (h : Int) = true then tCB (tput (mT g) a (h : Int)) 1 else 0) (g 8 0 0).toNat 0) 0 a = 0 from rfl, Int.add_zero] at hx; exact hx)
    · exfalso; omega
  | succ m ih =>
    intro a s z4 z5 G hz4 hz5 hk hs hz hq
    refine zs_iload_n (j := 3) (i := 3) rfl rfl rfl ?_
    refine zs_aload_n (j := 0) (i := 0) rfl rfl rfl ?_
    refine zs_getfield (f := 8) (k := 2) rfl rfl (trivial) ?_
    show ZVV _ _ _ _ _ (ZI (G 8 0 2) :: _) _
    rw [show G 8 0 2 = g 8 0 2 from congrFun (congrFun (hz 8 (by decide)) 0) 2]
    refine zs_icmp_ge 85 rfl (by omega) (fun hc_14 => ?_) (fun hc_14 => ?_)
    · exfalso; omega
    · refine zs_aload_n (j := 0) (i := 0) rfl rfl rfl ?_
      refine zs_getfield (f := 8) (k := 7) rfl rfl (trivial) ?_
      show ZVV _ _ _ _ _ (ZR 33 0 :: _) _
      refine zs_iload_n (j := 3) (i := 3) rfl rfl rfl ?_
      refine zs_iald (n := 6) rfl rfl (by omega) (by omega) ?_
      show ZVV _ _ _ _ _ (ZI (G 33 0 a) :: _) _
      rw [show G 33 0 a = g 33 0 a from congrFun (congrFun (hz 33 (by decide)) 0) a]
      refine zs_istore (i := 4) rfl (by decide) (by intro r x hr; have hr2 : r = 3 := (by omega); subst hr2; intro z; cases z) ?_
      show ZVV _ _ _ _ [ZR 8 0, ZI ((zfree (g 8 0 0) (g 8 0 2) (g 33 0) : Nat) : Int), ZI s, ZI (a : Int), ZI (g 33 0 a), z5] _ _
      refine zs_iconst (n := 0) rfl ⟨by omega, by omega⟩ ?_
      refine zs_istore (i := 5) rfl (by decide) (by intro r x hr; have hr2 : r = 4 := (by omega); subst hr2; intro z; cases z) ?_
      show ZVV _ _ _ _ [ZR 8 0, ZI ((zfree (g 8 0 0) (g 8 0 2) (g 33 0) : Nat) : Int), ZI s, ZI (a : Int), ZI (g 33 0 a), ZI 0] _ _
      refine l_X8_goodTwosb hm hh (by omega) (g 8 0 0).toNat 0 s G (by omega) (hz.pp a) ⟨hs.1, by omega⟩ (fun s2 M e2 b2 hM => ?_)
      refine zs_aload_n (j := 0) (i := 0) rfl rfl rfl ?_
      refine zs_getfield (f := 8) (k := 7) rfl rfl (trivial) ?_
      show ZVV _ _ _ _ _ (ZR 33 0 :: _) _
      refine zs_iload_n (j := 3) (i := 3) rfl rfl rfl ?_
      refine zs_iload (i := 4) rfl rfl ?_
      refine zs_iast (n := 6) rfl rfl (by omega) (by omega) ?_
      show ZVV _ _ _ _ _ _ (zup M 33 0 a (g 33 0 a))
      refine zs_iinc_r (i := 3) rfl rfl (by intro r x hr; have hr2 : r = 2 := (by omega); subst hr2; intro z; cases z) ⟨by omega, by omega⟩ ?_
      show ZVV _ _ _ _ [ZR 8 0, ZI ((zfree (g 8 0 0) (g 8 0 2) (g 33 0) : Nat) : Int), ZI s2, ZI ((a : Int) + 1), ZI (g 33 0 a), ZI (g 8 0 0)] _ _
      refine zs_goto 9 rfl (by omega) ?_
      refine ih (a + 1) s2 _ _ _ (by intro y h; cases h) (by intro y h; cases h) (by omega) ⟨b2.1, by omega⟩ hM.back (fun N hN => ?_)
      have hx := hq N hN
      rw [zsum_v (f := fun a => zsum (fun h => if tFr (mT g) (h : Int) = true then tCB (tput (mT g) a (h : Int)) 1 else 0) (g 8 0 0).toNat 0) (k := a) rfl, ← e2] at hx
      exact hx
theorem c_X8_goodTwos  : ZC mX8_goodTwos 9 (fun av g => av = [ZR 8 0] ∧ MOK g ∧ MHH g) (fun _ g r g' => r = some (ZI (tCB (mT g) 2)) ∧ zP g g') := by
  refine zc_of gX8_goodTwos (fun av g hp => by obtain ⟨rfl, -⟩ := hp; exact Nat.le_of_ble_eq_true rfl) (fun Y av g hwf hrg hp hok => ?_)
  obtain ⟨rfl, hp⟩ := hp
  show ZVV _ _ _ 0 [ZR 8 0, ZX 99, ZX 99, ZX 99, ZX 99, ZX 99] [] _
  obtain ⟨hm, hh⟩ := hp
  have hn8 := hm.1
  have hn6 := hm.2.2.1
  refine zs_aload_n (j := 0) (i := 0) rfl rfl rfl ?_
  refine zs_callV (host := "") rfl kX8_268 vX8_freeOnes (c_X8_freeOnes) [] [] rfl (zroom_of (by omega)) rfl (Nat.le_of_ble_eq_true rfl) ⟨rfl, hm.1, hm.2.2.1⟩ (fun r_1 g_1 hq_1 => ?_)
  obtain ⟨hr_1, hg_1⟩ := hq_1
  rw [hr_1, hg_1]
  show ZVV _ _ _ 4 _ [ZI ((zfree (g 8 0 0) (g 8 0 2) (g 33 0) : Nat) : Int)] g
  refine zs_istore_n (j := 1) (i := 1) rfl rfl (by decide) (by intro r x hr; have hr2 : r = 0 := (by omega); subst hr2; intro z; cases z) ?_
  show ZVV _ _ _ _ [ZR 8 0, ZI ((zfree (g 8 0 0) (g 8 0 2) (g 33 0) : Nat) : Int), ZX 99, ZX 99, ZX 99, ZX 99] _ _
  refine zs_iconst (n := 0) rfl ⟨by omega, by omega⟩ ?_
  refine zs_istore_n (j := 2) (i := 2) rfl rfl (by decide) (by intro r x hr; have hr2 : r = 1 := (by omega); subst hr2; intro z; cases z) ?_
  show ZVV _ _ _ _ [ZR 8 0, ZI ((zfree (g 8 0 0) (g 8 0 2) (g 33 0) : Nat) : Int), ZI 0, ZX 99, ZX 99, ZX 99] _ _
  refine zs_iconst (n := 0) rfl ⟨by omega, by omega⟩ ?_
  refine zs_istore_n (j := 3) (i := 3) rfl rfl (by decide) (by intro r x hr; have hr2 : r = 2 := (by omega); subst hr2; intro z; cases z) ?_
  show ZVV _ _ _ _ [ZR 8 0, ZI ((zfree (g 8 0 0) (g 8 0 2) (g 33 0) : Nat) : Int), ZI 0, ZI 0, ZX 99, ZX 99] _ _
  refine l_X8_goodTwos hm hh (g 8 0 2).toNat 0 0 _ _ g (by intro y h; cases h) (by intro y h; cases h) (by omega) ⟨by decide, by decide⟩ (zP.rf g) (fun M hM => ⟨?_, hM⟩)
  rw [Int.zero_add]
  rfl

def mWays (g : ZG) : Int := g 8 0 2 * ((pc8 (zfree (g 8 0 0) (g 8 0 2) (g 33 0)) : Nat) : Int)
def mOdds (g : ZG) (n t : Int) : Int := if n < 0 ∨ 2 < n ∨ t < 0 ∨ 1 < t then NOJ else if n = 0 ∨ mWays g = 0 then (if t = 1 ∨ tAll (mT g) = true then 1 else 0) else if n = 1 then mLow (tCB (mT g) 1) (mWays g) t else mLow (tCB (mT g) 2) (mWays g * mWays g) t
theorem c_X8_odds (n t : Int) : ZC mX8_odds 10 (fun av g => av = [ZR 8 0, ZI n, ZI t] ∧ MPI g) (fun _ g r g' => r = some (ZJ (mOdds g n t)) ∧ zA g g') := by
  refine zc_of gX8_odds (fun av g hp => by obtain ⟨rfl, -⟩ := hp; exact Nat.le_of_ble_eq_true rfl) (fun Y av g hwf hrg hp hok => ?_)
  obtain ⟨rfl, hp⟩ := hp
  show ZVV _ _ _ 0 [ZR 8 0, ZI n, ZI t, ZX 99] [] _
  obtain ⟨hm, hh, h3, h26⟩ := hp
  have hn8 := hm.1
  have hn6 := hm.2.2.1
  have hcb1 := tCB_rng 1 (mT g) hn8.2 hn6.2
  have hcb2 := tCB_rng 2 (mT g) hn8.2 hn6.2
  have hpl := pc8_le (zfree (g 8 0 0) (g 8 0 2) (g 33 0))
  have hwb := mulb (a := g 8 0 2) (b := ((pc8 (zfree (g 8 0 0) (g 8 0 2) (g 33 0)) : Nat) : Int)) (A := 6) (B := 8) hn6 ⟨by omega, by omega⟩
  have hwr : 0 ≤ mWays g ∧ mWays g ≤ 48 := hwb
  have hww := mulb hwr hwr
  refine zs_aload_n (j := 0) (i := 0) rfl rfl rfl ?_
  refine zs_iload_n (j := 1) (i := 1) rfl rfl rfl ?_
  refine zs_iconst (n := 0) rfl ⟨by omega, by omega⟩ ?_
  refine zs_iconst (n := 2) rfl ⟨by omega, by omega⟩ ?_
  refine zs_callV (host := "") rfl kX8_170 vX8_in (c_X8_in n 0 2) [ZI n, ZI 0, ZI 2] [] rfl (zroom_of (by omega)) rfl (Nat.le_of_ble_eq_true rfl) (⟨rfl, trivial⟩) (fun r_4 g_4 hq_4 => ?_)
  obtain ⟨hr_4, hg_4⟩ := hq_4
  rw [hr_4, hg_4]
  show ZVV _ _ _ 7 _ [ZI (if 0 ≤ n ∧ n ≤ 2 then 1 else 0)] _
  refine zs_if_eq 20 rfl (by omega) (fun hc_7 => ?_) (fun hc_7 => ?_)
  · refine zs_ldc2 (x := (-9223372036854775808)) rfl rfl ?_
    exact zs_lreturn rfl rfl (⟨by unfold mOdds; rw [if_pos (by omega)]; rfl, zA.rf g⟩)
  · refine zs_aload_n (j := 0) (i := 0) rfl rfl rfl ?_
    refine zs_iload_n (j := 2) (i := 2) rfl rfl rfl ?_
    refine zs_iconst (n := 0) rfl ⟨by omega, by omega⟩ ?_
    refine zs_iconst (n := 1) rfl ⟨by omega, by omega⟩ ?_
    refine zs_callV (host := "") rfl kX8_170 vX8_in (c_X8_in t 0 1) [ZI t, ZI 0, ZI 1] [] rfl (zroom_of (by omega)) rfl (Nat.le_of_ble_eq_true rfl) (⟨rfl, trivial⟩) (fun r_14 g_14 hq_14 => ?_)
    obtain ⟨hr_14, hg_14⟩ := hq_14
    rw [hr_14, hg_14]
    show ZVV _ _ _ 17 _ [ZI (if 0 ≤ t ∧ t ≤ 1 then 1 else 0)] _
    refine zs_if_ne 24 rfl (by omega) (fun hc_17 => ?_) (fun hc_17 => ?_)
    · refine zs_aload_n (j := 0) (i := 0) rfl rfl rfl ?_
      refine zs_getfield (f := 8) (k := 2) rfl rfl (trivial) ?_
      show ZVV _ _ _ _ _ (ZI (g 8 0 2) :: _) _
      refine zs_aload_n (j := 0) (i := 0) rfl rfl rfl ?_
      refine zs_aload_n (j := 0) (i := 0) rfl rfl rfl ?_
      refine zs_callV (host := "") rfl kX8_268 vX8_freeOnes (c_X8_freeOnes) [] [ZR 8 0, ZI (g 8 0 2)] rfl (zroom_of (by omega)) rfl (Nat.le_of_ble_eq_true rfl) ⟨rfl, hm.1, hm.2.2.1⟩ (fun r_30 g_30 hq_30 => ?_)
      obtain ⟨hr_30, hg_30⟩ := hq_30
      rw [hr_30, hg_30]
      show ZVV _ _ _ 33 _ [ZI ((zfree (g 8 0 0) (g 8 0 2) (g 33 0) : Nat) : Int), ZR 8 0, ZI (g 8 0 2)] g
      refine zs_callV (host := "") rfl kX8_354 vX8_ones (c_X8_ones (zfree (g 8 0 0) (g 8 0 2) (g 33 0))) [ZI ((zfree (g 8 0 0) (g 8 0 2) (g 33 0) : Nat) : Int)] [ZI (g 8 0 2)] rfl (zroom_of (by omega)) rfl (Nat.le_of_ble_eq_true rfl) (⟨rfl, Nat.lt_of_lt_of_le (zmk_lt _ _) (Nat.pow_le_pow_right (by decide) (show (g 8 0 0).toNat ≤ 8 by omega)), trivial⟩) (fun r_33 g_33 hq_33 => ?_)
      obtain ⟨hr_33, hg_33⟩ := hq_33
      rw [hr_33, hg_33]
      show ZVV _ _ _ 36 _ [ZI ((pc8 (zfree (g 8 0 0) (g 8 0 2) (g 33 0)) : Nat) : Int), ZI (g 8 0 2)] _
      refine zs_imul_r rfl ⟨by omega, by omega⟩ ?_
      show ZVV _ _ _ 37 _ [ZI (mWays g)] g
      show ZVV _ _ _ 37 _ _ _
      refine zs_istore_n (j := 3) (i := 3) rfl rfl (by decide) (by intro r x hr; have hr2 : r = 2 := (by omega); subst hr2; intro z; cases z) ?_
      show ZVV _ _ _ _ [ZR 8 0, ZI n, ZI t, ZI (mWays g)] _ _
      refine zs_iload_n (j := 1) (i := 1) rfl rfl rfl ?_
      refine zs_if_eq 46 rfl (by omega) (fun hc_39 => ?_) (fun hc_39 => ?_)
      · refine zs_iload_n (j := 2) (i := 2) rfl rfl rfl ?_
        refine zs_iconst (n := 1) rfl ⟨by omega, by omega⟩ ?_
        refine zs_icmp_eq 58 rfl (by omega) (fun hc_48 => ?_) (fun hc_48 => ?_)
        · refine zs_lconst (n := 1) rfl ?_
          show ZVV _ _ _ _ _ (ZJ 1 :: _) _
          refine zs_goto 63 rfl (by omega) ?_
          exact zs_lreturn rfl rfl (⟨by unfold mOdds; rw [if_neg (by omega), if_pos (show n = 0 ∨ mWays g = 0 by omega), if_pos (show t = 1 ∨ tAll (mT g) = true from by first | exact Or.inl (by omega) | exact Or.inr (zif1 hc_55))], zA.rf g⟩)
        · refine zs_aload_n (j := 0) (i := 0) rfl rfl rfl ?_
          refine zs_callV (host := "") rfl kX8_328 vX8_areAll (c_X8_areAll) [] [] rfl (zroom_of (by omega)) rfl (Nat.le_of_ble_eq_true rfl) ⟨rfl, hm, hh⟩ (fun r_52 g_52 hq_52 => ?_)
          obtain ⟨hr_52, hz1_52⟩ := hq_52
          rw [hr_52]
          have hz_52 := (show zP g g from (zP.rf g)).tr hz1_52
          have e8_52 : g_52 8 = g 8 := hz_52 8 (by decide)
          have e30_52 : g_52 30 = g 30 := hz_52 30 (by decide)
          have e31_52 : g_52 31 = g 31 := hz_52 31 (by decide)
          have e32_52 : g_52 32 = g 32 := hz_52 32 (by decide)
          have e33_52 : g_52 33 = g 33 := hz_52 33 (by decide)
          have e35_52 : g_52 35 = g 35 := hz_52 35 (by decide)
          have e36_52 : g_52 36 = g 36 := hz_52 36 (by decide)
          have e37_52 : g_52 37 = g 37 := hz_52 37 (by decide)
          have e38_52 : g_52 38 = g 38 := hz_52 38 (by decide)
          have e39_52 : g_52 39 = g 39 := hz_52 39 (by decide)
          have e40_52 : g_52 40 = g 40 := hz_52 40 (by decide)
          have e44_52 : g_52 44 = g 44 := hz_52 44 (by decide)
          show ZVV _ _ _ 55 _ [ZI (if tAll (mT g) = true then 1 else 0)] g_52
          refine zs_if_eq 62 rfl (by omega) (fun hc_55 => ?_) (fun hc_55 => ?_)
          · refine zs_lconst (n := 0) rfl ?_
            show ZVV _ _ _ _ _ (ZJ 0 :: _) _
            exact zs_lreturn rfl rfl (⟨by unfold mOdds; rw [if_neg (by omega), if_pos (show n = 0 ∨ mWays g = 0 by omega), if_neg (show ¬ (t = 1 ∨ tAll (mT g) = true) from fun z => z.elim (fun y => by omega) (zif0 hc_55))], hz_52.a⟩)
          · refine zs_lconst (n := 1) rfl ?_
            show ZVV _ _ _ _ _ (ZJ 1 :: _) _
            refine zs_goto 63 rfl (by omega) ?_
            exact zs_lreturn rfl rfl (⟨by unfold mOdds; rw [if_neg (by omega), if_pos (show n = 0 ∨ mWays g = 0 by omega), if_pos (show t = 1 ∨ tAll (mT g) = true from by first | exact Or.inl (by omega) | exact Or.inr (zif1 hc_55))], hz_52.a⟩)
      · refine zs_iload_n (j := 3) (i := 3) rfl rfl rfl ?_
        refine zs_if_ne 64 rfl (by omega) (fun hc_43 => ?_) (fun hc_43 => ?_)
        · refine zs_iload_n (j := 1) (i := 1) rfl rfl rfl ?_
          refine zs_iconst (n := 1) rfl ⟨by omega, by omega⟩ ?_
          refine zs_icmp_ne 82 rfl (by omega) (fun hc_66 => ?_) (fun hc_66 => ?_)
          · refine zs_aload_n (j := 0) (i := 0) rfl rfl rfl ?_
            refine zs_aload_n (j := 0) (i := 0) rfl rfl rfl ?_
            refine zs_callV (host := "") rfl kX8_361 vX8_goodTwos (c_X8_goodTwos) [] [ZR 8 0] rfl (zroom_of (by omega)) rfl (Nat.le_of_ble_eq_true rfl) ⟨rfl, hm, hh⟩ (fun r_84 g_84 hq_84 => ?_)
            obtain ⟨hr_84, hz1_84⟩ := hq_84
            rw [hr_84]
            have hz_84 := (show zP g g from (zP.rf g)).tr hz1_84
            have e8_84 : g_84 8 = g 8 := hz_84 8 (by decide)
            have e30_84 : g_84 30 = g 30 := hz_84 30 (by decide)
            have e31_84 : g_84 31 = g 31 := hz_84 31 (by decide)
            have e32_84 : g_84 32 = g 32 := hz_84 32 (by decide)
            have e33_84 : g_84 33 = g 33 := hz_84 33 (by decide)
            have e35_84 : g_84 35 = g 35 := hz_84 35 (by decide)
            have e36_84 : g_84 36 = g 36 := hz_84 36 (by decide)
            have e37_84 : g_84 37 = g 37 := hz_84 37 (by decide)
            have e38_84 : g_84 38 = g 38 := hz_84 38 (by decide)
            have e39_84 : g_84 39 = g 39 := hz_84 39 (by decide)
            have e40_84 : g_84 40 = g 40 := hz_84 40 (by decide)
            have e44_84 : g_84 44 = g 44 := hz_84 44 (by decide)
            show ZVV _ _ _ 87 _ [ZI (tCB (mT g) 2), ZR 8 0] g_84
            refine zs_iload_n (j := 3) (i := 3) rfl rfl rfl ?_
            refine zs_iload_n (j := 3) (i := 3) rfl rfl rfl ?_
            refine zs_imul_r rfl ⟨by omega, by omega⟩ ?_
            refine zs_iload_n (j := 2) (i := 2) rfl rfl rfl ?_
            show ZVV _ _ _ 91 _ _ _
            refine zs_callV (host := "") rfl kX8_357 vX8_lowest (c_X8_lowest (tCB (mT g) 2) (mWays g * mWays g) t) [ZI (tCB (mT g) 2), ZI (mWays g * mWays g), ZI t] [] rfl (zroom_of (by omega)) rfl (Nat.le_of_ble_eq_true rfl) ⟨rfl, hcb2.1, by exact Int.mul_pos (by omega) (by omega)⟩ (fun r_91 g_91 hq_91 => ?_)
            obtain ⟨hr_91, hg_91⟩ := hq_91
            rw [hr_91, hg_91]
            show ZVV _ _ _ 94 _ [ZJ (mLow (tCB (mT g) 2) (mWays g * mWays g) t)] g_84
            exact zs_lreturn rfl rfl (⟨by unfold mOdds; rw [if_neg (by omega), if_neg (show ¬ (n = 0 ∨ mWays g = 0) by omega), if_neg (by omega)], hz_84.a⟩)
          · refine zs_aload_n (j := 0) (i := 0) rfl rfl rfl ?_
            refine zs_aload_n (j := 0) (i := 0) rfl rfl rfl ?_
            refine zs_callV (host := "") rfl kX8_349 vX8_goodOnes (c_X8_goodOnes) [] [ZR 8 0] rfl (zroom_of (by omega)) rfl (Nat.le_of_ble_eq_true rfl) ⟨rfl, hm, hh⟩ (fun r_71 g_71 hq_71 => ?_)
            obtain ⟨hr_71, hz1_71⟩ := hq_71
            rw [hr_71]
            have hz_71 := (show zP g g from (zP.rf g)).tr hz1_71
            have e8_71 : g_71 8 = g 8 := hz_71 8 (by decide)
            have e30_71 : g_71 30 = g 30 := hz_71 30 (by decide)
            have e31_71 : g_71 31 = g 31 := hz_71 31 (by decide)
            have e32_71 : g_71 32 = g 32 := hz_71 32 (by decide)
            have e33_71 : g_71 33 = g 33 := hz_71 33 (by decide)
            have e35_71 : g_71 35 = g 35 := hz_71 35 (by decide)
            have e36_71 : g_71 36 = g 36 := hz_71 36 (by decide)
            have e37_71 : g_71 37 = g 37 := hz_71 37 (by decide)
            have e38_71 : g_71 38 = g 38 := hz_71 38 (by decide)
            have e39_71 : g_71 39 = g 39 := hz_71 39 (by decide)
            have e40_71 : g_71 40 = g 40 := hz_71 40 (by decide)
            have e44_71 : g_71 44 = g 44 := hz_71 44 (by decide)
            show ZVV _ _ _ 74 _ [ZI (tCB (mT g) 1), ZR 8 0] g_71
            refine zs_iload_n (j := 3) (i := 3) rfl rfl rfl ?_
            refine zs_iload_n (j := 2) (i := 2) rfl rfl rfl ?_
            refine zs_callV (host := "") rfl kX8_357 vX8_lowest (c_X8_lowest (tCB (mT g) 1) (mWays g) t) [ZI (tCB (mT g) 1), ZI (mWays g), ZI t] [] rfl (zroom_of (by omega)) rfl (Nat.le_of_ble_eq_true rfl) ⟨rfl, hcb1.1, by omega⟩ (fun r_76 g_76 hq_76 => ?_)
            obtain ⟨hr_76, hg_76⟩ := hq_76
            rw [hr_76, hg_76]
            show ZVV _ _ _ 79 _ [ZJ (mLow (tCB (mT g) 1) (mWays g) t)] g_71
            refine zs_goto 94 rfl (by omega) ?_
            show ZVV _ _ _ 94 _ _ _
            exact zs_lreturn rfl rfl (⟨by unfold mOdds; rw [if_neg (by omega), if_neg (show ¬ (n = 0 ∨ mWays g = 0) by omega), if_pos (by omega)], hz_71.a⟩)
        · refine zs_iload_n (j := 2) (i := 2) rfl rfl rfl ?_
          refine zs_iconst (n := 1) rfl ⟨by omega, by omega⟩ ?_
          refine zs_icmp_eq 58 rfl (by omega) (fun hc_48 => ?_) (fun hc_48 => ?_)
          · refine zs_lconst (n := 1) rfl ?_
            show ZVV _ _ _ _ _ (ZJ 1 :: _) _
            refine zs_goto 63 rfl (by omega) ?_
            exact zs_lreturn rfl rfl (⟨by unfold mOdds; rw [if_neg (by omega), if_pos (show n = 0 ∨ mWays g = 0 by omega), if_pos (show t = 1 ∨ tAll (mT g) = true from by first | exact Or.inl (by omega) | exact Or.inr (zif1 hc_55))], zA.rf g⟩)
          · refine zs_aload_n (j := 0) (i := 0) rfl rfl rfl ?_
            refine zs_callV (host := "") rfl kX8_328 vX8_areAll (c_X8_areAll) [] [] rfl (zroom_of (by omega)) rfl (Nat.le_of_ble_eq_true rfl) ⟨rfl, hm, hh⟩ (fun r_52 g_52 hq_52 => ?_)
            obtain ⟨hr_52, hz1_52⟩ := hq_52
            rw [hr_52]
            have hz_52 := (show zP g g from (zP.rf g)).tr hz1_52
            have e8_52 : g_52 8 = g 8 := hz_52 8 (by decide)
            have e30_52 : g_52 30 = g 30 := hz_52 30 (by decide)
            have e31_52 : g_52 31 = g 31 := hz_52 31 (by decide)
            have e32_52 : g_52 32 = g 32 := hz_52 32 (by decide)
            have e33_52 : g_52 33 = g 33 := hz_52 33 (by decide)
            have e35_52 : g_52 35 = g 35 := hz_52 35 (by decide)
            have e36_52 : g_52 36 = g 36 := hz_52 36 (by decide)
            have e37_52 : g_52 37 = g 37 := hz_52 37 (by decide)
            have e38_52 : g_52 38 = g 38 := hz_52 38 (by decide)
            have e39_52 : g_52 39 = g 39 := hz_52 39 (by decide)
            have e40_52 : g_52 40 = g 40 := hz_52 40 (by decide)
            have e44_52 : g_52 44 = g 44 := hz_52 44 (by decide)
            show ZVV _ _ _ 55 _ [ZI (if tAll (mT g) = true then 1 else 0)] g_52
            refine zs_if_eq 62 rfl (by omega) (fun hc_55 => ?_) (fun hc_55 => ?_)
            · refine zs_lconst (n := 0) rfl ?_
              show ZVV _ _ _ _ _ (ZJ 0 :: _) _
              exact zs_lreturn rfl rfl (⟨by unfold mOdds; rw [if_neg (by omega), if_pos (show n = 0 ∨ mWays g = 0 by omega), if_neg (show ¬ (t = 1 ∨ tAll (mT g) = true) from fun z => z.elim (fun y => by omega) (zif0 hc_55))], hz_52.a⟩)
            · refine zs_lconst (n := 1) rfl ?_
              show ZVV _ _ _ _ _ (ZJ 1 :: _) _
              refine zs_goto 63 rfl (by omega) ?_
              exact zs_lreturn rfl rfl (⟨by unfold mOdds; rw [if_neg (by omega), if_pos (show n = 0 ∨ mWays g = 0 by omega), if_pos (show t = 1 ∨ tAll (mT g) = true from by first | exact Or.inl (by omega) | exact Or.inr (zif1 hc_55))], hz_52.a⟩)
    · refine zs_ldc2 (x := (-9223372036854775808)) rfl rfl ?_
      exact zs_lreturn rfl rfl (⟨by unfold mOdds; rw [if_pos (by omega)]; rfl, zA.rf g⟩)

