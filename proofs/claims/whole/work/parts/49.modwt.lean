theorem zsum_v {f : Nat → Int} {n k : Nat} {v s : Int} (h : f k = v) : s + zsum f (n + 1) k = s + v + zsum f n (k + 1) := by rw [zsum_s, h, Int.add_assoc]
def mfc (g : ZG) : Int := if g 8 0 9 < 0 then 0 else 10 * g 8 0 9
def mbh (g : ZG) : Int := if g 8 0 9 < 0 then 0 else 10 * g 8 0 9 + g 35 0 (g 8 0 9).toNat
def MCL (g : ZG) : Prop := (-1 ≤ g 8 0 9 ∧ g 8 0 9 ≤ 5) ∧ (0 ≤ g 8 0 9 → 0 ≤ g 35 0 (g 8 0 9).toNat ∧ g 35 0 (g 8 0 9).toNat ≤ 10) ∧ ∀ c : Nat, mfc g ≤ c → (c : Int) < mbh g → (0 ≤ g 36 0 c ∧ g 36 0 c ≤ 2) ∧ (0 ≤ g 37 0 c ∧ g 37 0 c ≤ 99) ∧ (0 ≤ g 38 0 c ∧ g 38 0 c ≤ g 39 0 c ∧ g 39 0 c ≤ 600) ∧ mwf (g 40 0) (g 39 0 c - g 38 0 c).toNat (g 38 0 c).toNat 0
theorem mfc_z {g G : ZG} (h : zP g G) : mfc G = mfc g := by unfold mfc; rw [h 8 (by decide)]
theorem mbh_z {g G : ZG} (h : zP g G) : mbh G = mbh g := by unfold mbh; rw [h 8 (by decide), h 35 (by decide)]
theorem MCL.z {g G : ZG} (k : MCL g) (h : zP g G) : MCL G := by
  unfold MCL
  rw [mfc_z h, mbh_z h, h 8 (by decide), h 35 (by decide), h 36 (by decide), h 37 (by decide), h 38 (by decide), h 39 (by decide), h 40 (by decide)]
  exact k
theorem MCL.rng {g : ZG} (h : MCL g) : 0 ≤ mfc g ∧ mfc g ≤ mbh g ∧ mbh g ≤ mfc g + 10 ∧ mbh g ≤ 60 := by
  have h1 := h.1
  have h2 := h.2.1
  unfold mfc mbh
  by_cases hn : g 8 0 9 < 0
  · rw [if_pos hn, if_pos hn]; omega
  · rw [if_neg hn, if_neg hn]; have := h2 (by omega); omega
def MOK (g : ZG) : Prop := (3 ≤ g 8 0 0 ∧ g 8 0 0 ≤ 8) ∧ (0 ≤ g 8 0 1 ∧ g 8 0 1 ≤ 2) ∧ (0 ≤ g 8 0 2 ∧ g 8 0 2 ≤ 6) ∧ (0 ≤ g 8 0 3 ∧ g 8 0 3 ≤ 100000) ∧ (-1 ≤ g 8 0 26 ∧ g 8 0 26 ≤ 100) ∧ MCL g ∧ ∀ p : Nat, (p : Int) < g 8 0 2 → (-1 ≤ g 33 0 p ∧ g 33 0 p < g 8 0 0) ∧ (0 ≤ g 32 0 p ∧ g 32 0 p ≤ 2) ∧ (0 ≤ g 30 0 p ∧ g 30 0 p ≤ 6) ∧ (0 ≤ g 31 0 p ∧ g 31 0 p ≤ 9)
theorem MOK.z {g G : ZG} (k : MOK g) (h : zP g G) : MOK G := by
  obtain ⟨k1, k2, k3, k4, k5, k6, k7⟩ := k
  refine ⟨?_, ?_, ?_, ?_, ?_, k6.z h, ?_⟩
  · rw [h 8 (by decide)]; exact k1
  · rw [h 8 (by decide)]; exact k2
  · rw [h 8 (by decide)]; exact k3
  · rw [h 8 (by decide)]; exact k4
  · rw [h 8 (by decide)]; exact k5
  · rw [h 8 (by decide), h 33 (by decide), h 32 (by decide), h 30 (by decide), h 31 (by decide)]; exact k7
def MS (g : ZG) (c : Nat) (p h f : Int) : Bool := mSo g (zfa p (g 32 0 p.toNat) (g 30 0 p.toNat) h f (g 8 0 3 % 60)) c
theorem mSo_z {g G : ZG} (k : zP g G) (fa : Nat → Int) (c : Nat) : mSo G fa c = mSo g fa c := by unfold mSo; rw [k 38 (by decide), k 39 (by decide), k 40 (by decide)]
theorem MS_z {g G : ZG} (k : zP g G) (c : Nat) (p h f : Int) : MS G c p h f = MS g c p h f := by unfold MS; rw [mSo_z k, k 32 (by decide), k 30 (by decide), k 8 (by decide)]
def mWs (g : ZG) (w : Int) (fa : Nat → Int) : Int := zsum (fun c => if g 36 0 c = w ∧ mSo g fa c = true then g 37 0 c else 0) (mbh g - mfc g).toNat (mfc g).toNat
def mMin (g : ZG) (fa : Nat → Int) (n k : Nat) (a : Int) : Int := match n with
  | 0 => a
  | n + 1 => mMin g fa n (k + 1) (if g 36 0 k = 1 ∧ g 37 0 k < a ∧ mSo g fa k = true then g 37 0 k else a)
def mWh (g : ZG) : Bool := decide (zfst (fun c => decide (g 36 0 c = 0)) (mbh g - mfc g).toNat (mfc g).toNat ≠ -1)
def mWw (g : ZG) (fa : Nat → Int) : Int := if 100 < (if mWh g = true then mWs g 0 fa else 33) then 100 else (if mWh g = true then mWs g 0 fa else 33)
def mW (g : ZG) : Int → Int → Int → Int → Int → Int → Int × Int × Int := fun p s k h f m => (mWw g (zfa p s k h f m), mMin g (zfa p s k h f m) (mbh g - mfc g).toNat (mfc g).toNat 100, mWs g 2 (zfa p s k h f m))
def mT (g : ZG) : ZT := ((g 8 0 0, g 8 0 1, g 8 0 2, g 8 0 3), (g 30 0, g 31 0, g 32 0, g 33 0), mW g, g 8 0 26)
theorem mWs_z {g G : ZG} (k : zP g G) (w : Int) (fa : Nat → Int) : mWs G w fa = mWs g w fa := by
  unfold mWs
  rw [mfc_z k, mbh_z k, k 36 (by decide), k 37 (by decide)]
  exact congrArg (fun z => zsum z _ _) (funext fun c => by rw [mSo_z k])
theorem mMin_z {g G : ZG} (h : zP g G) (fa : Nat → Int) : ∀ (n k : Nat) (a : Int), mMin G fa n k a = mMin g fa n k a := by
  intro n
  induction n with
  | zero => intro k a; rfl
  | succ n ih => intro k a; unfold mMin; rw [ih, mSo_z h, h 36 (by decide), h 37 (by decide)]
theorem mWh_z {g G : ZG} (k : zP g G) : mWh G = mWh g := by unfold mWh; rw [mfc_z k, mbh_z k, k 36 (by decide)]
theorem mW_z {g G : ZG} (h : zP g G) : mW G = mW g := by
  funext p s k hh f m
  unfold mW mWw
  rw [mWs_z h, mWs_z h, mMin_z h, mWh_z h, mfc_z h, mbh_z h]
theorem mT_z {g G : ZG} (h : zP g G) : mT G = mT g := by
  unfold mT
  rw [mW_z h, h 8 (by decide), h 30 (by decide), h 31 (by decide), h 32 (by decide), h 33 (by decide)]
theorem mWs_r {g : ZG} (h : MCL g) {w : Int} {fa : Nat → Int} : 0 ≤ mWs g w fa ∧ mWs g w fa ≤ 990 := by
  have hr := h.rng
  have := zsum_rng (f := fun c => if g 36 0 c = w ∧ mSo g fa c = true then g 37 0 c else 0) (a := 0) (b := 99) (n := (mbh g - mfc g).toNat) (k := (mfc g).toNat) (fun j h1 h2 => by
    have := (h.2.2 j (by omega) (by omega)).2.1
    split <;> omega)
  unfold mWs
  omega
theorem c_X8_firstClause  : ZC mX8_firstClause 1 (fun av g => av = [ZR 8 0] ∧ (-1 ≤ g 8 0 9 ∧ g 8 0 9 ≤ 5) ∧ (0 ≤ g 8 0 9 → 0 ≤ g 35 0 (g 8 0 9).toNat ∧ g 35 0 (g 8 0 9).toNat ≤ 10)) (fun _ g r g' => r = some (ZI (mfc g)) ∧ g' = g) := by
  refine zc_of gX8_firstClause (fun av g hp => by obtain ⟨rfl, -⟩ := hp; exact Nat.le_of_ble_eq_true rfl) (fun Y av g hwf hrg hp hok => ?_)
  obtain ⟨rfl, hp⟩ := hp
  show ZVV _ _ _ 0 [ZR 8 0] [] _
  have h35 := hp.2
  refine zs_aload_n (j := 0) (i := 0) rfl rfl rfl ?_
  refine zs_getfield (f := 8) (k := 9) rfl rfl (trivial) ?_
  show ZVV _ _ _ _ _ (ZI (g 8 0 9) :: _) _
  refine zs_if_ge 11 rfl (by omega) (fun hc_4 => ?_) (fun hc_4 => ?_)
  · refine zs_bipush (n := 10) rfl ⟨by omega, by omega⟩ ?_
    refine zs_aload_n (j := 0) (i := 0) rfl rfl rfl ?_
    refine zs_getfield (f := 8) (k := 9) rfl rfl (trivial) ?_
    show ZVV _ _ _ _ _ (ZI (g 8 0 9) :: _) _
    refine zs_imul_r rfl ⟨by omega, by omega⟩ ?_
    exact zs_ireturn rfl rfl (⟨by unfold mfc; first | (rw [if_pos (by omega)]) | (rw [if_neg (by omega)]), rfl⟩)
  · refine zs_iconst (n := 0) rfl ⟨by omega, by omega⟩ ?_
    refine zs_goto 18 rfl (by omega) ?_
    exact zs_ireturn rfl rfl (⟨by unfold mfc; first | (rw [if_pos (by omega)]) | (rw [if_neg (by omega)]), rfl⟩)

theorem c_X8_behind  : ZC mX8_behind 1 (fun av g => av = [ZR 8 0] ∧ (-1 ≤ g 8 0 9 ∧ g 8 0 9 ≤ 5) ∧ (0 ≤ g 8 0 9 → 0 ≤ g 35 0 (g 8 0 9).toNat ∧ g 35 0 (g 8 0 9).toNat ≤ 10)) (fun _ g r g' => r = some (ZI (mbh g)) ∧ g' = g) := by
  refine zc_of gX8_behind (fun av g hp => by obtain ⟨rfl, -⟩ := hp; exact Nat.le_of_ble_eq_true rfl) (fun Y av g hwf hrg hp hok => ?_)
  obtain ⟨rfl, hp⟩ := hp
  show ZVV _ _ _ 0 [ZR 8 0] [] _
  have h35 := hp.2
  refine zs_aload_n (j := 0) (i := 0) rfl rfl rfl ?_
  refine zs_getfield (f := 8) (k := 9) rfl rfl (trivial) ?_
  show ZVV _ _ _ _ _ (ZI (g 8 0 9) :: _) _
  refine zs_if_ge 11 rfl (by omega) (fun hc_4 => ?_) (fun hc_4 => ?_)
  · refine zs_bipush (n := 10) rfl ⟨by omega, by omega⟩ ?_
    refine zs_aload_n (j := 0) (i := 0) rfl rfl rfl ?_
    refine zs_getfield (f := 8) (k := 9) rfl rfl (trivial) ?_
    show ZVV _ _ _ _ _ (ZI (g 8 0 9) :: _) _
    refine zs_imul_r rfl ⟨by omega, by omega⟩ ?_
    refine zs_aload_n (j := 0) (i := 0) rfl rfl rfl ?_
    refine zs_getfield (f := 8) (k := 14) rfl rfl (trivial) ?_
    show ZVV _ _ _ _ _ (ZR 35 0 :: _) _
    refine zs_aload_n (j := 0) (i := 0) rfl rfl rfl ?_
    show ZVV _ _ _ 23 _ _ _
    refine zs_getfield (f := 8) (k := 9) rfl rfl (trivial) ?_
    show ZVV _ _ _ _ _ (ZI (g 8 0 9) :: _) _
    refine zs_iald (n := 6) rfl rfl (by omega) (by omega) ?_
    refine zs_iadd_r rfl ⟨by omega, by omega⟩ ?_
    exact zs_ireturn rfl rfl (⟨by unfold mbh; first | (rw [if_pos (by omega)]) | (rw [if_neg (by omega)]), rfl⟩)
  · refine zs_iconst (n := 0) rfl ⟨by omega, by omega⟩ ?_
    refine zs_goto 28 rfl (by omega) ?_
    exact zs_ireturn rfl rfl (⟨by unfold mbh; first | (rw [if_pos (by omega)]) | (rw [if_neg (by omega)]), rfl⟩)

theorem so_pre {g : ZG} (hm : MOK g) {c : Nat} {p : Int} (hc : mfc g ≤ c ∧ (c : Int) < mbh g) (hp : 0 ≤ p ∧ p < 6) : (0 ≤ p ∧ p < 6) ∧ 0 ≤ g 8 0 3 ∧ (0 ≤ (c : Int) ∧ (c : Int) < 60) ∧ (0 ≤ g 38 0 (c : Int).toNat ∧ g 38 0 (c : Int).toNat ≤ g 39 0 (c : Int).toNat ∧ g 39 0 (c : Int).toNat ≤ 600) ∧ mwf (g 40 0) (g 39 0 (c : Int).toNat - g 38 0 (c : Int).toNat).toNat (g 38 0 (c : Int).toNat).toNat 0 := by
  have h6 := hm.2.2.2.2.2.1
  have hr := h6.rng
  have hx := h6.2.2 c hc.1 hc.2
  exact ⟨hp, hm.2.2.2.1.1, ⟨by omega, by omega⟩, hx.2.2.1, hx.2.2.2⟩
theorem l_X8_sumOf {Y : ZW} {Q : Option ZV → ZG → Prop} {g : ZG} {w p h f : Int} (hm : MOK g) (hpp : 0 ≤ p ∧ p < 6) : ∀ (m k : Nat) (s : Int) (G : ZG), (k : Int) + m = mbh g → zP g G → (mfc g ≤ k ∧ 0 ≤ s ∧ s ≤ 99 * (k - mfc g)) → (∀ M, zP g M → Q (some (ZI (s + zsum (fun c => if g 36 0 c = w ∧ mSo g (zfa p (g 32 0 p.toNat) (g 30 0 p.toNat) h f (g 8 0 3 % 60)) c = true then g 37 0 c else 0) m k))) M) → ZVV Y mX8_sumOf (zcx Y 3 Q) 9 [ZR 8 0, ZI w, ZI p, ZI h, ZI f, ZI s, ZI (k : Int)] [] G := by
  have hr := hm.2.2.2.2.2.1.rng
  intro m
  induction m with
  | zero =>
    intro k s G hk hz hs hq
    have e8_G : G 8 = g 8 := hz 8 (by decide)
    have e30_G : G 30 = g 30 := hz 30 (by decide)
    have e31_G : G 31 = g 31 := hz 31 (by decide)
    have e32_G : G 32 = g 32 := hz 32 (by decide)
    have e33_G : G 33 = g 33 := hz 33 (by decide)
    have e35_G : G 35 = g 35 := hz 35 (by decide)
    have e36_G : G 36 = g 36 := hz 36 (by decide)
    have e37_G : G 37 = g 37 := hz 37 (by decide)
    have e38_G : G 38 = g 38 := hz 38 (by decide)
    have e39_G : G 39 = g 39 := hz 39 (by decide)
    have e40_G : G 40 = g 40 := hz 40 (by decide)
    have e44_G : G 44 = g 44 := hz 44 (by decide)
    refine zs_iload (i := 6) rfl rfl ?_
    refine zs_aload_n (j := 0) (i := 0) rfl rfl rfl ?_
    refine zs_callV (host := "") rfl kX8_241 vX8_behind (c_X8_behind) [] [ZI (k : Int)] rfl (zroom_of (by omega)) rfl (Nat.le_of_ble_eq_true rfl) ⟨rfl, ((hm.2.2.2.2.2.1.z hz).1), ((hm.2.2.2.2.2.1.z hz).2.1)⟩ (fun r_12 g_12 hq_12 => ?_)
    obtain ⟨hr_12, hg_12⟩ := hq_12
    rw [hr_12, hg_12, mbh_z hz]
    show ZVV _ _ _ 15 _ [ZI (mbh g), ZI (k : Int)] G
    refine zs_icmp_ge 64 rfl (by omega) (fun hc_15 => ?_) (fun hc_15 => ?_)
    · refine zs_iload (i := 5) rfl rfl ?_
      exact zs_ireturn rfl rfl (by have hh := hq G hz; rw [show zsum (fun c => if g 36 0 c = w ∧ mSo g (zfa p (g 32 0 p.toNat) (g 30 0 p.toNat) h f (g 8 0 3 % 60)) c = true then g 37 0 c else 0) 0 k = 0 from rfl, Int.add_zero] at hh; exact hh)
    · exfalso; omega
  | succ m ih =>
    intro k s G hk hz hs hq
    have e8_G : G 8 = g 8 := hz 8 (by decide)
    have e30_G : G 30 = g 30 := hz 30 (by decide)
    have e31_G : G 31 = g 31 := hz 31 (by decide)
    have e32_G : G 32 = g 32 := hz 32 (by decide)
    have e33_G : G 33 = g 33 := hz 33 (by decide)
    have e35_G : G 35 = g 35 := hz 35 (by decide)
    have e36_G : G 36 = g 36 := hz 36 (by decide)
    have e37_G : G 37 = g 37 := hz 37 (by decide)
    have e38_G : G 38 = g 38 := hz 38 (by decide)
    have e39_G : G 39 = g 39 := hz 39 (by decide)
    have e40_G : G 40 = g 40 := hz 40 (by decide)
    have e44_G : G 44 = g 44 := hz 44 (by decide)
    refine zs_iload (i := 6) rfl rfl ?_
    refine zs_aload_n (j := 0) (i := 0) rfl rfl rfl ?_
    refine zs_callV (host := "") rfl kX8_241 vX8_behind (c_X8_behind) [] [ZI (k : Int)] rfl (zroom_of (by omega)) rfl (Nat.le_of_ble_eq_true rfl) ⟨rfl, ((hm.2.2.2.2.2.1.z hz).1), ((hm.2.2.2.2.2.1.z hz).2.1)⟩ (fun r_12 g_12 hq_12 => ?_)
    obtain ⟨hr_12, hg_12⟩ := hq_12
    rw [hr_12, hg_12, mbh_z hz]
    show ZVV _ _ _ 15 _ [ZI (mbh g), ZI (k : Int)] G
    refine zs_icmp_ge 64 rfl (by omega) (fun hc_15 => ?_) (fun hc_15 => ?_)
    · exfalso; omega
    · refine zs_iload (i := 5) rfl rfl ?_
      refine zs_aload_n (j := 0) (i := 0) rfl rfl rfl ?_
      refine zs_getfield (f := 8) (k := 15) rfl rfl (trivial) ?_
      show ZVV _ _ _ _ _ (ZR 36 0 :: _) _
      refine zs_iload (i := 6) rfl rfl ?_
      refine zs_iald (n := 60) rfl rfl (by omega) (by omega) ?_
      show ZVV _ _ _ _ _ (ZI (G 36 0 k) :: _) _
      rw [e36_G]
      refine zs_iload_n (j := 1) (i := 1) rfl rfl rfl ?_
      refine zs_icmp_ne 54 rfl (by omega) (fun hc_28 => ?_) (fun hc_28 => ?_)
      · refine zs_iconst (n := 0) rfl ⟨by omega, by omega⟩ ?_
        refine zs_iadd_r rfl ⟨by have := (hm.2.2.2.2.2.1.2.2 k (by omega) (by omega)).2.1; omega, by have := (hm.2.2.2.2.2.1.2.2 k (by omega) (by omega)).2.1; omega⟩ ?_
        refine zs_istore (i := 5) rfl (by decide) (by intro r x hr; have hr2 : r = 4 := (by omega); subst hr2; intro z; cases z) ?_
        show ZVV _ _ _ _ [ZR 8 0, ZI w, ZI p, ZI h, ZI f, ZI (s + 0), ZI (k : Int)] _ _
        refine zs_iinc_r (i := 6) rfl rfl (by intro r x hr; have hr2 : r = 5 := (by omega); subst hr2; intro z; cases z) ⟨by omega, by omega⟩ ?_
        show ZVV _ _ _ _ [ZR 8 0, ZI w, ZI p, ZI h, ZI f, ZI (s + 0), ZI ((k : Int) + 1)] _ _
        refine zs_goto 9 rfl (by omega) ?_
        have hk1 := (hm.2.2.2.2.2.1.2.2 k (by omega) (by omega)).2.1
        have he : (fun c => if g 36 0 c = w ∧ mSo g (zfa p (g 32 0 p.toNat) (g 30 0 p.toNat) h f (g 8 0 3 % 60)) c = true then g 37 0 c else 0) k = 0 := if_neg (fun z => by first | exact hc_28 z.1 | exact zif0 hc_41 z.2)
        refine ih (k + 1) (s + 0) G (by omega) hz ⟨by omega, by omega⟩ (fun M hM => ?_)
        have hh := hq M hM
        rw [zsum_v he] at hh
        exact hh
      · refine zs_aload_n (j := 0) (i := 0) rfl rfl rfl ?_
        refine zs_iload (i := 6) rfl rfl ?_
        refine zs_iload_n (j := 2) (i := 2) rfl rfl rfl ?_
        refine zs_iload_n (j := 3) (i := 3) rfl rfl rfl ?_
        refine zs_iload (i := 4) rfl rfl ?_
        refine zs_callV (host := "") rfl kX8_244 vX8_isSo (c_X8_isSo (k : Int) p h f) [ZI (k : Int), ZI p, ZI h, ZI f] [ZI s] rfl (zroom_of (by omega)) rfl (Nat.le_of_ble_eq_true rfl) ⟨rfl, so_pre (hm.z hz) (by rw [mfc_z hz, mbh_z hz]; exact ⟨by omega, by omega⟩) hpp⟩ (fun r_38 g_38 hq_38 => ?_)
        obtain ⟨hr_38, hz1_38⟩ := hq_38
        rw [hr_38, show mSo G (zfa p (G 32 0 p.toNat) (G 30 0 p.toNat) h f (G 8 0 3 % 60)) (k : Int).toNat = MS g k p h f from MS_z hz k p h f]
        have hz_38 := (show zP g G from hz).tr hz1_38
        have e8_38 : g_38 8 = g 8 := hz_38 8 (by decide)
        have e30_38 : g_38 30 = g 30 := hz_38 30 (by decide)
        have e31_38 : g_38 31 = g 31 := hz_38 31 (by decide)
        have e32_38 : g_38 32 = g 32 := hz_38 32 (by decide)
        have e33_38 : g_38 33 = g 33 := hz_38 33 (by decide)
        have e35_38 : g_38 35 = g 35 := hz_38 35 (by decide)
        have e36_38 : g_38 36 = g 36 := hz_38 36 (by decide)
        have e37_38 : g_38 37 = g 37 := hz_38 37 (by decide)
        have e38_38 : g_38 38 = g 38 := hz_38 38 (by decide)
        have e39_38 : g_38 39 = g 39 := hz_38 39 (by decide)
        have e40_38 : g_38 40 = g 40 := hz_38 40 (by decide)
        have e44_38 : g_38 44 = g 44 := hz_38 44 (by decide)
        show ZVV _ _ _ 41 _ [ZI (if MS g k p h f = true then 1 else 0), ZI s] g_38
        refine zs_if_eq 54 rfl (by omega) (fun hc_41 => ?_) (fun hc_41 => ?_)
        · refine zs_iconst (n := 0) rfl ⟨by omega, by omega⟩ ?_
          refine zs_iadd_r rfl ⟨by have := (hm.2.2.2.2.2.1.2.2 k (by omega) (by omega)).2.1; omega, by have := (hm.2.2.2.2.2.1.2.2 k (by omega) (by omega)).2.1; omega⟩ ?_
          refine zs_istore (i := 5) rfl (by decide) (by intro r x hr; have hr2 : r = 4 := (by omega); subst hr2; intro z; cases z) ?_
          show ZVV _ _ _ _ [ZR 8 0, ZI w, ZI p, ZI h, ZI f, ZI (s + 0), ZI (k : Int)] _ _
          refine zs_iinc_r (i := 6) rfl rfl (by intro r x hr; have hr2 : r = 5 := (by omega); subst hr2; intro z; cases z) ⟨by omega, by omega⟩ ?_
          show ZVV _ _ _ _ [ZR 8 0, ZI w, ZI p, ZI h, ZI f, ZI (s + 0), ZI ((k : Int) + 1)] _ _
          refine zs_goto 9 rfl (by omega) ?_
          have hk1 := (hm.2.2.2.2.2.1.2.2 k (by omega) (by omega)).2.1
          have he : (fun c => if g 36 0 c = w ∧ mSo g (zfa p (g 32 0 p.toNat) (g 30 0 p.toNat) h f (g 8 0 3 % 60)) c = true then g 37 0 c else 0) k = 0 := if_neg (fun z => by first | exact hc_28 z.1 | exact zif0 hc_41 z.2)
          refine ih (k + 1) (s + 0) g_38 (by omega) hz_38 ⟨by omega, by omega⟩ (fun M hM => ?_)
          have hh := hq M hM
          rw [zsum_v he] at hh
          exact hh
        · refine zs_aload_n (j := 0) (i := 0) rfl rfl rfl ?_
          refine zs_getfield (f := 8) (k := 16) rfl rfl (trivial) ?_
          show ZVV _ _ _ _ _ (ZR 37 0 :: _) _
          refine zs_iload (i := 6) rfl rfl ?_
          refine zs_iald (n := 60) rfl rfl (by omega) (by omega) ?_
          show ZVV _ _ _ _ _ (ZI (g_38 37 0 k) :: _) _
          rw [e37_38]
          refine zs_goto 55 rfl (by omega) ?_
          refine zs_iadd_r rfl ⟨by have := (hm.2.2.2.2.2.1.2.2 k (by omega) (by omega)).2.1; omega, by have := (hm.2.2.2.2.2.1.2.2 k (by omega) (by omega)).2.1; omega⟩ ?_
          refine zs_istore (i := 5) rfl (by decide) (by intro r x hr; have hr2 : r = 4 := (by omega); subst hr2; intro z; cases z) ?_
          show ZVV _ _ _ _ [ZR 8 0, ZI w, ZI p, ZI h, ZI f, ZI (s + (g 37 0 k)), ZI (k : Int)] _ _
          show ZVV _ _ _ 58 _ _ _
          refine zs_iinc_r (i := 6) rfl rfl (by intro r x hr; have hr2 : r = 5 := (by omega); subst hr2; intro z; cases z) ⟨by omega, by omega⟩ ?_
          show ZVV _ _ _ _ [ZR 8 0, ZI w, ZI p, ZI h, ZI f, ZI (s + (g 37 0 k)), ZI ((k : Int) + 1)] _ _
          refine zs_goto 9 rfl (by omega) ?_
          have hk1 := (hm.2.2.2.2.2.1.2.2 k (by omega) (by omega)).2.1
          have he : (fun c => if g 36 0 c = w ∧ mSo g (zfa p (g 32 0 p.toNat) (g 30 0 p.toNat) h f (g 8 0 3 % 60)) c = true then g 37 0 c else 0) k = g 37 0 k := if_pos ⟨Classical.not_not.mp hc_28, zif1 hc_41⟩
          refine ih (k + 1) (s + g 37 0 k) g_38 (by omega) hz_38 ⟨by omega, by omega⟩ (fun M hM => ?_)
          have hh := hq M hM
          rw [zsum_v he] at hh
          exact hh
theorem c_X8_sumOf (w p h f : Int) : ZC mX8_sumOf 3 (fun av g => av = [ZR 8 0, ZI w, ZI p, ZI h, ZI f] ∧ MOK g ∧ (0 ≤ p ∧ p < 6)) (fun _ g r g' => r = some (ZI (mWs g w (zfa p (g 32 0 p.toNat) (g 30 0 p.toNat) h f (g 8 0 3 % 60)))) ∧ zP g g') := by
  refine zc_of gX8_sumOf (fun av g hp => by obtain ⟨rfl, -⟩ := hp; exact Nat.le_of_ble_eq_true rfl) (fun Y av g hwf hrg hp hok => ?_)
  obtain ⟨rfl, hp⟩ := hp
  show ZVV _ _ _ 0 [ZR 8 0, ZI w, ZI p, ZI h, ZI f, ZX 99, ZX 99] [] _
  obtain ⟨hm, hpp⟩ := hp
  have hr := hm.2.2.2.2.2.1.rng
  refine zs_iconst (n := 0) rfl ⟨by omega, by omega⟩ ?_
  refine zs_istore (i := 5) rfl (by decide) (by intro r x hr; have hr2 : r = 4 := (by omega); subst hr2; intro z; cases z) ?_
  show ZVV _ _ _ _ [ZR 8 0, ZI w, ZI p, ZI h, ZI f, ZI 0, ZX 99] _ _
  refine zs_aload_n (j := 0) (i := 0) rfl rfl rfl ?_
  refine zs_callV (host := "") rfl kX8_238 vX8_firstClause (c_X8_firstClause) [] [] rfl (zroom_of (by omega)) rfl (Nat.le_of_ble_eq_true rfl) ⟨rfl, hm.2.2.2.2.2.1.1, hm.2.2.2.2.2.1.2.1⟩ (fun r_4 g_4 hq_4 => ?_)
  obtain ⟨hr_4, hg_4⟩ := hq_4
  rw [hr_4, hg_4]
  show ZVV _ _ _ 7 _ [ZI (mfc g)] g
  refine zs_istore (i := 6) rfl (by decide) (by intro r x hr; have hr2 : r = 5 := (by omega); subst hr2; intro z; cases z) ?_
  show ZVV _ _ _ _ [ZR 8 0, ZI w, ZI p, ZI h, ZI f, ZI 0, ZI (mfc g)] _ _
  rw [show mfc g = (((mfc g).toNat : Nat) : Int) by omega]
  refine l_X8_sumOf hm hpp (mbh g - mfc g).toNat (mfc g).toNat 0 g (by omega) (zP.rf g) ⟨by omega, by omega, by omega⟩ (fun M hM => ⟨?_, hM⟩)
  rw [Int.zero_add]
  rfl

theorem l_X8_mostOf {Y : ZW} {Q : Option ZV → ZG → Prop} {g : ZG} {p h f : Int} (hm : MOK g) (hpp : 0 ≤ p ∧ p < 6) : ∀ (m k : Nat) (s : Int) (G : ZG), (k : Int) + m = mbh g → zP g G → mfc g ≤ k → (∀ M, zP g M → Q (some (ZI (mMin g (zfa p (g 32 0 p.toNat) (g 30 0 p.toNat) h f (g 8 0 3 % 60)) m k s))) M) → ZVV Y mX8_mostOf (zcx Y 3 Q) 10 [ZR 8 0, ZI p, ZI h, ZI f, ZI s, ZI (k : Int)] [] G := by
  have hr := hm.2.2.2.2.2.1.rng
  intro m
  induction m with
  | zero =>
    intro k s G hk hz hs hq
    have e8_G : G 8 = g 8 := hz 8 (by decide)
    have e30_G : G 30 = g 30 := hz 30 (by decide)
    have e31_G : G 31 = g 31 := hz 31 (by decide)
    have e32_G : G 32 = g 32 := hz 32 (by decide)
    have e33_G : G 33 = g 33 := hz 33 (by decide)
    have e35_G : G 35 = g 35 := hz 35 (by decide)
    have e36_G : G 36 = g 36 := hz 36 (by decide)
    have e37_G : G 37 = g 37 := hz 37 (by decide)
    have e38_G : G 38 = g 38 := hz 38 (by decide)
    have e39_G : G 39 = g 39 := hz 39 (by decide)
    have e40_G : G 40 = g 40 := hz 40 (by decide)
    have e44_G : G 44 = g 44 := hz 44 (by decide)
    refine zs_iload (i := 5) rfl rfl ?_
    refine zs_aload_n (j := 0) (i := 0) rfl rfl rfl ?_
    refine zs_callV (host := "") rfl kX8_241 vX8_behind (c_X8_behind) [] [ZI (k : Int)] rfl (zroom_of (by omega)) rfl (Nat.le_of_ble_eq_true rfl) ⟨rfl, ((hm.2.2.2.2.2.1.z hz).1), ((hm.2.2.2.2.2.1.z hz).2.1)⟩ (fun r_13 g_13 hq_13 => ?_)
    obtain ⟨hr_13, hg_13⟩ := hq_13
    rw [hr_13, hg_13, mbh_z hz]
    show ZVV _ _ _ 16 _ [ZI (mbh g), ZI (k : Int)] G
    refine zs_icmp_ge 69 rfl (by omega) (fun hc_16 => ?_) (fun hc_16 => ?_)
    · refine zs_iload (i := 4) rfl rfl ?_
      exact zs_ireturn rfl rfl (hq G hz)
    · exfalso; omega
  | succ m ih =>
    intro k s G hk hz hs hq
    have e8_G : G 8 = g 8 := hz 8 (by decide)
    have e30_G : G 30 = g 30 := hz 30 (by decide)
    have e31_G : G 31 = g 31 := hz 31 (by decide)
    have e32_G : G 32 = g 32 := hz 32 (by decide)
    have e33_G : G 33 = g 33 := hz 33 (by decide)
    have e35_G : G 35 = g 35 := hz 35 (by decide)
    have e36_G : G 36 = g 36 := hz 36 (by decide)
    have e37_G : G 37 = g 37 := hz 37 (by decide)
    have e38_G : G 38 = g 38 := hz 38 (by decide)
    have e39_G : G 39 = g 39 := hz 39 (by decide)
    have e40_G : G 40 = g 40 := hz 40 (by decide)
    have e44_G : G 44 = g 44 := hz 44 (by decide)
    refine zs_iload (i := 5) rfl rfl ?_
    refine zs_aload_n (j := 0) (i := 0) rfl rfl rfl ?_
    refine zs_callV (host := "") rfl kX8_241 vX8_behind (c_X8_behind) [] [ZI (k : Int)] rfl (zroom_of (by omega)) rfl (Nat.le_of_ble_eq_true rfl) ⟨rfl, ((hm.2.2.2.2.2.1.z hz).1), ((hm.2.2.2.2.2.1.z hz).2.1)⟩ (fun r_13 g_13 hq_13 => ?_)
    obtain ⟨hr_13, hg_13⟩ := hq_13
    rw [hr_13, hg_13, mbh_z hz]
    show ZVV _ _ _ 16 _ [ZI (mbh g), ZI (k : Int)] G
    refine zs_icmp_ge 69 rfl (by omega) (fun hc_16 => ?_) (fun hc_16 => ?_)
    · exfalso; omega
    · refine zs_aload_n (j := 0) (i := 0) rfl rfl rfl ?_
      refine zs_getfield (f := 8) (k := 15) rfl rfl (trivial) ?_
      show ZVV _ _ _ _ _ (ZR 36 0 :: _) _
      refine zs_iload (i := 5) rfl rfl ?_
      refine zs_iald (n := 60) rfl rfl (by omega) (by omega) ?_
      show ZVV _ _ _ _ _ (ZI (G 36 0 k) :: _) _
      rw [e36_G]
      refine zs_iconst (n := 1) rfl ⟨by omega, by omega⟩ ?_
      refine zs_icmp_ne 63 rfl (by omega) (fun hc_27 => ?_) (fun hc_27 => ?_)
      · refine zs_iinc_r (i := 5) rfl rfl (by intro r x hr; have hr2 : r = 4 := (by omega); subst hr2; intro z; cases z) ⟨by omega, by omega⟩ ?_
        show ZVV _ _ _ _ [ZR 8 0, ZI p, ZI h, ZI f, ZI s, ZI ((k : Int) + 1)] _ _
        refine zs_goto 10 rfl (by omega) ?_
        have hk1 := (hm.2.2.2.2.2.1.2.2 k (by omega) (by omega)).2.1
        have he : (if g 36 0 k = 1 ∧ g 37 0 k < s ∧ mSo g (zfa p (g 32 0 p.toNat) (g 30 0 p.toNat) h f (g 8 0 3 % 60)) k = true then g 37 0 k else s) = s := if_neg (fun z => by first | exact hc_27 z.1 | (have := z.2.1; omega) | exact zif0 hc_51 z.2.2)
        refine ih (k + 1) (s) G (by omega) hz (by omega) (fun M hM => ?_)
        have hh := hq M hM
        rw [show mMin g (zfa p (g 32 0 p.toNat) (g 30 0 p.toNat) h f (g 8 0 3 % 60)) (m + 1) k s = mMin g (zfa p (g 32 0 p.toNat) (g 30 0 p.toNat) h f (g 8 0 3 % 60)) m (k + 1) (if g 36 0 k = 1 ∧ g 37 0 k < s ∧ mSo g (zfa p (g 32 0 p.toNat) (g 30 0 p.toNat) h f (g 8 0 3 % 60)) k = true then g 37 0 k else s) from rfl, he] at hh
        exact hh
      · refine zs_aload_n (j := 0) (i := 0) rfl rfl rfl ?_
        refine zs_getfield (f := 8) (k := 16) rfl rfl (trivial) ?_
        show ZVV _ _ _ _ _ (ZR 37 0 :: _) _
        refine zs_iload (i := 5) rfl rfl ?_
        refine zs_iald (n := 60) rfl rfl (by omega) (by omega) ?_
        show ZVV _ _ _ _ _ (ZI (G 37 0 k) :: _) _
        rw [e37_G]
        refine zs_iload (i := 4) rfl rfl ?_
        refine zs_icmp_ge 63 rfl (by omega) (fun hc_39 => ?_) (fun hc_39 => ?_)
        · refine zs_iinc_r (i := 5) rfl rfl (by intro r x hr; have hr2 : r = 4 := (by omega); subst hr2; intro z; cases z) ⟨by omega, by omega⟩ ?_
          show ZVV _ _ _ _ [ZR 8 0, ZI p, ZI h, ZI f, ZI s, ZI ((k : Int) + 1)] _ _
          refine zs_goto 10 rfl (by omega) ?_
          have hk1 := (hm.2.2.2.2.2.1.2.2 k (by omega) (by omega)).2.1
          have he : (if g 36 0 k = 1 ∧ g 37 0 k < s ∧ mSo g (zfa p (g 32 0 p.toNat) (g 30 0 p.toNat) h f (g 8 0 3 % 60)) k = true then g 37 0 k else s) = s := if_neg (fun z => by first | exact hc_27 z.1 | (have := z.2.1; omega) | exact zif0 hc_51 z.2.2)
          refine ih (k + 1) (s) G (by omega) hz (by omega) (fun M hM => ?_)
          have hh := hq M hM
          rw [show mMin g (zfa p (g 32 0 p.toNat) (g 30 0 p.toNat) h f (g 8 0 3 % 60)) (m + 1) k s = mMin g (zfa p (g 32 0 p.toNat) (g 30 0 p.toNat) h f (g 8 0 3 % 60)) m (k + 1) (if g 36 0 k = 1 ∧ g 37 0 k < s ∧ mSo g (zfa p (g 32 0 p.toNat) (g 30 0 p.toNat) h f (g 8 0 3 % 60)) k = true then g 37 0 k else s) from rfl, he] at hh
          exact hh
        · refine zs_aload_n (j := 0) (i := 0) rfl rfl rfl ?_
          refine zs_iload (i := 5) rfl rfl ?_
          refine zs_iload_n (j := 1) (i := 1) rfl rfl rfl ?_
          refine zs_iload_n (j := 2) (i := 2) rfl rfl rfl ?_
          refine zs_iload_n (j := 3) (i := 3) rfl rfl rfl ?_
          refine zs_callV (host := "") rfl kX8_244 vX8_isSo (c_X8_isSo (k : Int) p h f) [ZI (k : Int), ZI p, ZI h, ZI f] [] rfl (zroom_of (by omega)) rfl (Nat.le_of_ble_eq_true rfl) ⟨rfl, so_pre (hm.z hz) (by rw [mfc_z hz, mbh_z hz]; exact ⟨by omega, by omega⟩) hpp⟩ (fun r_48 g_48 hq_48 => ?_)
          obtain ⟨hr_48, hz1_48⟩ := hq_48
          rw [hr_48, show mSo G (zfa p (G 32 0 p.toNat) (G 30 0 p.toNat) h f (G 8 0 3 % 60)) (k : Int).toNat = MS g k p h f from MS_z hz k p h f]
          have hz_48 := (show zP g G from hz).tr hz1_48
          have e8_48 : g_48 8 = g 8 := hz_48 8 (by decide)
          have e30_48 : g_48 30 = g 30 := hz_48 30 (by decide)
          have e31_48 : g_48 31 = g 31 := hz_48 31 (by decide)
          have e32_48 : g_48 32 = g 32 := hz_48 32 (by decide)
          have e33_48 : g_48 33 = g 33 := hz_48 33 (by decide)
          have e35_48 : g_48 35 = g 35 := hz_48 35 (by decide)
          have e36_48 : g_48 36 = g 36 := hz_48 36 (by decide)
          have e37_48 : g_48 37 = g 37 := hz_48 37 (by decide)
          have e38_48 : g_48 38 = g 38 := hz_48 38 (by decide)
          have e39_48 : g_48 39 = g 39 := hz_48 39 (by decide)
          have e40_48 : g_48 40 = g 40 := hz_48 40 (by decide)
          have e44_48 : g_48 44 = g 44 := hz_48 44 (by decide)
          show ZVV _ _ _ 51 _ [ZI (if MS g k p h f = true then 1 else 0)] g_48
          refine zs_if_eq 63 rfl (by omega) (fun hc_51 => ?_) (fun hc_51 => ?_)
          · refine zs_iinc_r (i := 5) rfl rfl (by intro r x hr; have hr2 : r = 4 := (by omega); subst hr2; intro z; cases z) ⟨by omega, by omega⟩ ?_
            show ZVV _ _ _ _ [ZR 8 0, ZI p, ZI h, ZI f, ZI s, ZI ((k : Int) + 1)] _ _
            refine zs_goto 10 rfl (by omega) ?_
            have hk1 := (hm.2.2.2.2.2.1.2.2 k (by omega) (by omega)).2.1
            have he : (if g 36 0 k = 1 ∧ g 37 0 k < s ∧ mSo g (zfa p (g 32 0 p.toNat) (g 30 0 p.toNat) h f (g 8 0 3 % 60)) k = true then g 37 0 k else s) = s := if_neg (fun z => by first | exact hc_27 z.1 | (have := z.2.1; omega) | exact zif0 hc_51 z.2.2)
            refine ih (k + 1) (s) g_48 (by omega) hz_48 (by omega) (fun M hM => ?_)
            have hh := hq M hM
            rw [show mMin g (zfa p (g 32 0 p.toNat) (g 30 0 p.toNat) h f (g 8 0 3 % 60)) (m + 1) k s = mMin g (zfa p (g 32 0 p.toNat) (g 30 0 p.toNat) h f (g 8 0 3 % 60)) m (k + 1) (if g 36 0 k = 1 ∧ g 37 0 k < s ∧ mSo g (zfa p (g 32 0 p.toNat) (g 30 0 p.toNat) h f (g 8 0 3 % 60)) k = true then g 37 0 k else s) from rfl, he] at hh
            exact hh
          · refine zs_aload_n (j := 0) (i := 0) rfl rfl rfl ?_
            refine zs_getfield (f := 8) (k := 16) rfl rfl (trivial) ?_
            show ZVV _ _ _ _ _ (ZR 37 0 :: _) _
            refine zs_iload (i := 5) rfl rfl ?_
            refine zs_iald (n := 60) rfl rfl (by omega) (by omega) ?_
            show ZVV _ _ _ _ _ (ZI (g_48 37 0 k) :: _) _
            rw [e37_48]
            refine zs_istore (i := 4) rfl (by decide) (by intro r x hr; have hr2 : r = 3 := (by omega); subst hr2; intro z; cases z) ?_
            show ZVV _ _ _ _ [ZR 8 0, ZI p, ZI h, ZI f, ZI (g 37 0 k), ZI (k : Int)] _ _
            refine zs_iinc_r (i := 5) rfl rfl (by intro r x hr; have hr2 : r = 4 := (by omega); subst hr2; intro z; cases z) ⟨by omega, by omega⟩ ?_
            show ZVV _ _ _ _ [ZR 8 0, ZI p, ZI h, ZI f, ZI (g 37 0 k), ZI ((k : Int) + 1)] _ _
            refine zs_goto 10 rfl (by omega) ?_
            have hk1 := (hm.2.2.2.2.2.1.2.2 k (by omega) (by omega)).2.1
            have he : (if g 36 0 k = 1 ∧ g 37 0 k < s ∧ mSo g (zfa p (g 32 0 p.toNat) (g 30 0 p.toNat) h f (g 8 0 3 % 60)) k = true then g 37 0 k else s) = g 37 0 k := if_pos ⟨Classical.not_not.mp hc_27, by omega, zif1 hc_51⟩
            refine ih (k + 1) (g 37 0 k) g_48 (by omega) hz_48 (by omega) (fun M hM => ?_)
            have hh := hq M hM
            rw [show mMin g (zfa p (g 32 0 p.toNat) (g 30 0 p.toNat) h f (g 8 0 3 % 60)) (m + 1) k s = mMin g (zfa p (g 32 0 p.toNat) (g 30 0 p.toNat) h f (g 8 0 3 % 60)) m (k + 1) (if g 36 0 k = 1 ∧ g 37 0 k < s ∧ mSo g (zfa p (g 32 0 p.toNat) (g 30 0 p.toNat) h f (g 8 0 3 % 60)) k = true then g 37 0 k else s) from rfl, he] at hh
            exact hh
theorem c_X8_mostOf (p h f : Int) : ZC mX8_mostOf 3 (fun av g => av = [ZR 8 0, ZI p, ZI h, ZI f] ∧ MOK g ∧ (0 ≤ p ∧ p < 6)) (fun _ g r g' => r = some (ZI (mW g p (g 32 0 p.toNat) (g 30 0 p.toNat) h f (g 8 0 3 % 60)).2.1) ∧ zP g g') := by
  refine zc_of gX8_mostOf (fun av g hp => by obtain ⟨rfl, -⟩ := hp; exact Nat.le_of_ble_eq_true rfl) (fun Y av g hwf hrg hp hok => ?_)
  obtain ⟨rfl, hp⟩ := hp
  show ZVV _ _ _ 0 [ZR 8 0, ZI p, ZI h, ZI f, ZX 99, ZX 99] [] _
  obtain ⟨hm, hpp⟩ := hp
  have hr := hm.2.2.2.2.2.1.rng
  refine zs_bipush (n := 100) rfl ⟨by omega, by omega⟩ ?_
  refine zs_istore (i := 4) rfl (by decide) (by intro r x hr; have hr2 : r = 3 := (by omega); subst hr2; intro z; cases z) ?_
  show ZVV _ _ _ _ [ZR 8 0, ZI p, ZI h, ZI f, ZI 100, ZX 99] _ _
  refine zs_aload_n (j := 0) (i := 0) rfl rfl rfl ?_
  refine zs_callV (host := "") rfl kX8_238 vX8_firstClause (c_X8_firstClause) [] [] rfl (zroom_of (by omega)) rfl (Nat.le_of_ble_eq_true rfl) ⟨rfl, hm.2.2.2.2.2.1.1, hm.2.2.2.2.2.1.2.1⟩ (fun r_5 g_5 hq_5 => ?_)
  obtain ⟨hr_5, hg_5⟩ := hq_5
  rw [hr_5, hg_5]
  show ZVV _ _ _ 8 _ [ZI (mfc g)] g
  refine zs_istore (i := 5) rfl (by decide) (by intro r x hr; have hr2 : r = 4 := (by omega); subst hr2; intro z; cases z) ?_
  show ZVV _ _ _ _ [ZR 8 0, ZI p, ZI h, ZI f, ZI 100, ZI (mfc g)] _ _
  rw [show mfc g = (((mfc g).toNat : Nat) : Int) by omega]
  exact l_X8_mostOf hm hpp (mbh g - mfc g).toNat (mfc g).toNat 100 g (by omega) (zP.rf g) (by omega) (fun M hM => ⟨rfl, hM⟩)

theorem l_X8_wishOf {Y : ZW} {Q : Option ZV → ZG → Prop} {g : ZG} {p h f : Int} (hm : MOK g) (hpp : 0 ≤ p ∧ p < 6) : ∀ (m k : Nat) (b : Int), (k : Int) + m = mbh g → mfc g ≤ k → (b = 0 ∨ b = 1) → (∀ M, zP g M → Q (some (ZI (if 100 < (if (b = 1 ∨ zfst (fun c => decide (g 36 0 c = 0)) m k ≠ -1) then mWs g 0 (zfa p (g 32 0 p.toNat) (g 30 0 p.toNat) h f (g 8 0 3 % 60)) else 33) then 100 else (if (b = 1 ∨ zfst (fun c => decide (g 36 0 c = 0)) m k ≠ -1) then mWs g 0 (zfa p (g 32 0 p.toNat) (g 30 0 p.toNat) h f (g 8 0 3 % 60)) else 33)))) M) → ZVV Y mX8_wishOf (zcx Y 4 Q) 21 [ZR 8 0, ZI p, ZI h, ZI f, ZI b, ZI (k : Int)] [] g := by
  have hr := hm.2.2.2.2.2.1.rng
  intro m
  induction m with
  | zero =>
    intro k b hk hs hb hq
    refine zs_iload (i := 5) rfl rfl ?_
    refine zs_aload_n (j := 0) (i := 0) rfl rfl rfl ?_
    refine zs_callV (host := "") rfl kX8_241 vX8_behind (c_X8_behind) [] [ZI (k : Int)] rfl (zroom_of (by omega)) rfl (Nat.le_of_ble_eq_true rfl) ⟨rfl, hm.2.2.2.2.2.1.1, hm.2.2.2.2.2.1.2.1⟩ (fun r_24 g_24 hq_24 => ?_)
    obtain ⟨hr_24, hg_24⟩ := hq_24
    rw [hr_24, hg_24]
    show ZVV _ _ _ 27 _ [ZI (mbh g), ZI (k : Int)] g
    refine zs_icmp_ge 56 rfl (by omega) (fun hc_27 => ?_) (fun hc_27 => ?_)
    · refine zs_iload (i := 4) rfl rfl ?_
      refine zs_if_eq 72 rfl (by omega) (fun hc_58 => ?_) (fun hc_58 => ?_)
      · refine zs_bipush (n := 33) rfl ⟨by omega, by omega⟩ ?_
        refine zs_istore (i := 5) rfl (by decide) (by intro r x hr; have hr2 : r = 4 := (by omega); subst hr2; intro z; cases z) ?_
        show ZVV _ _ _ _ [ZR 8 0, ZI p, ZI h, ZI f, ZI b, ZI 33] _ _
        refine zs_iload (i := 5) rfl rfl ?_
        refine zs_bipush (n := 100) rfl ⟨by omega, by omega⟩ ?_
        refine zs_icmp_le 88 rfl (by omega) (fun hc_80 => ?_) (fun hc_80 => ?_)
        · refine zs_iload (i := 5) rfl rfl ?_
          exact zs_ireturn rfl rfl (by
      have hws := mWs_r hm.2.2.2.2.2.1 (w := 0) (fa := zfa p (g 32 0 p.toNat) (g 30 0 p.toNat) h f (g 8 0 3 % 60))
      have hh := hq g (zP.rf g)
      first
      | (rw [if_pos (show b = 1 ∨ zfst (fun c => decide (g 36 0 c = 0)) 0 k ≠ -1 from by omega)] at hh; first | (rw [if_pos (by omega)] at hh; exact hh) | (rw [if_neg (by omega)] at hh; exact hh))
      | (rw [if_neg (show ¬ (b = 1 ∨ zfst (fun c => decide (g 36 0 c = 0)) 0 k ≠ -1) from fun z => z.elim (fun y => by omega) (fun y => y rfl))] at hh; first | (rw [if_pos (by omega)] at hh; exact hh) | (rw [if_neg (by omega)] at hh; exact hh)))
        · refine zs_bipush (n := 100) rfl ⟨by omega, by omega⟩ ?_
          refine zs_goto 90 rfl (by omega) ?_
          exact zs_ireturn rfl rfl (by
      have hws := mWs_r hm.2.2.2.2.2.1 (w := 0) (fa := zfa p (g 32 0 p.toNat) (g 30 0 p.toNat) h f (g 8 0 3 % 60))
      have hh := hq g (zP.rf g)
      first
      | (rw [if_pos (show b = 1 ∨ zfst (fun c => decide (g 36 0 c = 0)) 0 k ≠ -1 from by omega)] at hh; first | (rw [if_pos (by omega)] at hh; exact hh) | (rw [if_neg (by omega)] at hh; exact hh))
      | (rw [if_neg (show ¬ (b = 1 ∨ zfst (fun c => decide (g 36 0 c = 0)) 0 k ≠ -1) from fun z => z.elim (fun y => by omega) (fun y => y rfl))] at hh; first | (rw [if_pos (by omega)] at hh; exact hh) | (rw [if_neg (by omega)] at hh; exact hh)))
      · refine zs_aload_n (j := 0) (i := 0) rfl rfl rfl ?_
        refine zs_iconst (n := 0) rfl ⟨by omega, by omega⟩ ?_
        refine zs_iload_n (j := 1) (i := 1) rfl rfl rfl ?_
        refine zs_iload_n (j := 2) (i := 2) rfl rfl rfl ?_
        refine zs_iload_n (j := 3) (i := 3) rfl rfl rfl ?_
        refine zs_callV (host := "") rfl kX8_248 vX8_sumOf (c_X8_sumOf 0 p h f) [ZI 0, ZI p, ZI h, ZI f] [] rfl (zroom_of (by omega)) rfl (Nat.le_of_ble_eq_true rfl) ⟨rfl, hm.z (zP.rf g), hpp⟩ (fun r_66 g_66 hq_66 => ?_)
        obtain ⟨hr_66, hz1_66⟩ := hq_66
        rw [hr_66]
        have hz_66 := (show zP g g from (zP.rf g)).tr hz1_66
        have e8_66 : g_66 8 = g 8 := hz_66 8 (by decide)
        have e30_66 : g_66 30 = g 30 := hz_66 30 (by decide)
        have e31_66 : g_66 31 = g 31 := hz_66 31 (by decide)
        have e32_66 : g_66 32 = g 32 := hz_66 32 (by decide)
        have e33_66 : g_66 33 = g 33 := hz_66 33 (by decide)
        have e35_66 : g_66 35 = g 35 := hz_66 35 (by decide)
        have e36_66 : g_66 36 = g 36 := hz_66 36 (by decide)
        have e37_66 : g_66 37 = g 37 := hz_66 37 (by decide)
        have e38_66 : g_66 38 = g 38 := hz_66 38 (by decide)
        have e39_66 : g_66 39 = g 39 := hz_66 39 (by decide)
        have e40_66 : g_66 40 = g 40 := hz_66 40 (by decide)
        have e44_66 : g_66 44 = g 44 := hz_66 44 (by decide)
        show ZVV _ _ _ 69 _ [ZI (mWs g 0 (zfa p (g 32 0 p.toNat) (g 30 0 p.toNat) h f (g 8 0 3 % 60)))] g_66
        refine zs_goto 74 rfl (by omega) ?_
        show ZVV _ _ _ 74 _ _ _
        refine zs_istore (i := 5) rfl (by decide) (by intro r x hr; have hr2 : r = 4 := (by omega); subst hr2; intro z; cases z) ?_
        show ZVV _ _ _ _ [ZR 8 0, ZI p, ZI h, ZI f, ZI b, ZI (mWs g 0 (zfa p (g 32 0 p.toNat) (g 30 0 p.toNat) h f (g 8 0 3 % 60)))] _ _
        refine zs_iload (i := 5) rfl rfl ?_
        refine zs_bipush (n := 100) rfl ⟨by omega, by omega⟩ ?_
        refine zs_icmp_le 88 rfl (by omega) (fun hc_80 => ?_) (fun hc_80 => ?_)
        · refine zs_iload (i := 5) rfl rfl ?_
          exact zs_ireturn rfl rfl (by
      have hws := mWs_r hm.2.2.2.2.2.1 (w := 0) (fa := zfa p (g 32 0 p.toNat) (g 30 0 p.toNat) h f (g 8 0 3 % 60))
      have hh := hq g_66 hz_66
      first
      | (rw [if_pos (show b = 1 ∨ zfst (fun c => decide (g 36 0 c = 0)) 0 k ≠ -1 from by omega)] at hh; first | (rw [if_pos (by omega)] at hh; exact hh) | (rw [if_neg (by omega)] at hh; exact hh))
      | (rw [if_neg (show ¬ (b = 1 ∨ zfst (fun c => decide (g 36 0 c = 0)) 0 k ≠ -1) from fun z => z.elim (fun y => by omega) (fun y => y rfl))] at hh; first | (rw [if_pos (by omega)] at hh; exact hh) | (rw [if_neg (by omega)] at hh; exact hh)))
        · refine zs_bipush (n := 100) rfl ⟨by omega, by omega⟩ ?_
          refine zs_goto 90 rfl (by omega) ?_
          exact zs_ireturn rfl rfl (by
      have hws := mWs_r hm.2.2.2.2.2.1 (w := 0) (fa := zfa p (g 32 0 p.toNat) (g 30 0 p.toNat) h f (g 8 0 3 % 60))
      have hh := hq g_66 hz_66
      first
      | (rw [if_pos (show b = 1 ∨ zfst (fun c => decide (g 36 0 c = 0)) 0 k ≠ -1 from by omega)] at hh; first | (rw [if_pos (by omega)] at hh; exact hh) | (rw [if_neg (by omega)] at hh; exact hh))
      | (rw [if_neg (show ¬ (b = 1 ∨ zfst (fun c => decide (g 36 0 c = 0)) 0 k ≠ -1) from fun z => z.elim (fun y => by omega) (fun y => y rfl))] at hh; first | (rw [if_pos (by omega)] at hh; exact hh) | (rw [if_neg (by omega)] at hh; exact hh)))
    · exfalso; omega
  | succ m ih =>
    intro k b hk hs hb hq
    refine zs_iload (i := 5) rfl rfl ?_
    refine zs_aload_n (j := 0) (i := 0) rfl rfl rfl ?_
    refine zs_callV (host := "") rfl kX8_241 vX8_behind (c_X8_behind) [] [ZI (k : Int)] rfl (zroom_of (by omega)) rfl (Nat.le_of_ble_eq_true rfl) ⟨rfl, hm.2.2.2.2.2.1.1, hm.2.2.2.2.2.1.2.1⟩ (fun r_24 g_24 hq_24 => ?_)
    obtain ⟨hr_24, hg_24⟩ := hq_24
    rw [hr_24, hg_24]
    show ZVV _ _ _ 27 _ [ZI (mbh g), ZI (k : Int)] g
    refine zs_icmp_ge 56 rfl (by omega) (fun hc_27 => ?_) (fun hc_27 => ?_)
    · exfalso; omega
    · refine zs_iload (i := 4) rfl rfl ?_
      refine zs_aload_n (j := 0) (i := 0) rfl rfl rfl ?_
      refine zs_getfield (f := 8) (k := 15) rfl rfl (trivial) ?_
      show ZVV _ _ _ _ _ (ZR 36 0 :: _) _
      refine zs_iload (i := 5) rfl rfl ?_
      refine zs_iald (n := 60) rfl rfl (by omega) (by omega) ?_
      show ZVV _ _ _ _ _ (ZI (g 36 0 k) :: _) _
      refine zs_if_ne 46 rfl (by omega) (fun hc_39 => ?_) (fun hc_39 => ?_)
      · refine zs_iconst (n := 0) rfl ⟨by omega, by omega⟩ ?_
        refine zs_ior rfl ?_
        refine zs_istore (i := 4) rfl (by decide) (by intro r x hr; have hr2 : r = 3 := (by omega); subst hr2; intro z; cases z) ?_
        show ZVV _ _ _ _ [ZR 8 0, ZI p, ZI h, ZI f, ZI (zor b 0), ZI (k : Int)] _ _
        refine zs_iinc_r (i := 5) rfl rfl (by intro r x hr; have hr2 : r = 4 := (by omega); subst hr2; intro z; cases z) ⟨by omega, by omega⟩ ?_
        show ZVV _ _ _ _ [ZR 8 0, ZI p, ZI h, ZI f, ZI (zor b 0), ZI ((k : Int) + 1)] _ _
        refine zs_goto 21 rfl (by omega) ?_
        have hb1 : zor b 0 = b := by rcases hb with rfl | rfl <;> decide
        rw [hb1]
        refine ih (k + 1) b (by omega) (by omega) hb (fun M hM => ?_)
        have hh := hq M hM
        rw [zfst_f (P := fun c => decide (g 36 0 c = 0)) (decide_eq_false (by omega))] at hh
        exact hh
      · refine zs_iconst (n := 1) rfl ⟨by omega, by omega⟩ ?_
        refine zs_goto 47 rfl (by omega) ?_
        refine zs_ior rfl ?_
        refine zs_istore (i := 4) rfl (by decide) (by intro r x hr; have hr2 : r = 3 := (by omega); subst hr2; intro z; cases z) ?_
        show ZVV _ _ _ _ [ZR 8 0, ZI p, ZI h, ZI f, ZI (zor b 1), ZI (k : Int)] _ _
        refine zs_iinc_r (i := 5) rfl rfl (by intro r x hr; have hr2 : r = 4 := (by omega); subst hr2; intro z; cases z) ⟨by omega, by omega⟩ ?_
        show ZVV _ _ _ _ [ZR 8 0, ZI p, ZI h, ZI f, ZI (zor b 1), ZI ((k : Int) + 1)] _ _
        refine zs_goto 21 rfl (by omega) ?_
        have hb1 : zor b 1 = 1 := by rcases hb with rfl | rfl <;> decide
        rw [hb1]
        refine ih (k + 1) 1 (by omega) (by omega) (Or.inr rfl) (fun M hM => ?_)
        have hh := hq M hM
        rw [zfst_t (P := fun c => decide (g 36 0 c = 0)) (decide_eq_true (by omega))] at hh
        rw [if_pos (show b = 1 ∨ (k : Int) ≠ -1 from Or.inr (by omega))] at hh
        rw [if_pos (show (1 : Int) = 1 ∨ _ from Or.inl rfl)]
        exact hh
theorem c_X8_wishOf (p h f : Int) : ZC mX8_wishOf 4 (fun av g => av = [ZR 8 0, ZI p, ZI h, ZI f] ∧ MOK g ∧ (0 ≤ p ∧ p < 6)) (fun _ g r g' => r = some (ZI (if 0 ≤ g 8 0 26 then g 8 0 26 else (mW g p (g 32 0 p.toNat) (g 30 0 p.toNat) h f (g 8 0 3 % 60)).1)) ∧ zP g g') := by
  refine zc_of gX8_wishOf (fun av g hp => by obtain ⟨rfl, -⟩ := hp; exact Nat.le_of_ble_eq_true rfl) (fun Y av g hwf hrg hp hok => ?_)
  obtain ⟨rfl, hp⟩ := hp
  show ZVV _ _ _ 0 [ZR 8 0, ZI p, ZI h, ZI f, ZX 99, ZX 99] [] _
  obtain ⟨hm, hpp⟩ := hp
  have hr := hm.2.2.2.2.2.1.rng
  refine zs_aload_n (j := 0) (i := 0) rfl rfl rfl ?_
  refine zs_getfield (f := 8) (k := 26) rfl rfl (trivial) ?_
  show ZVV _ _ _ _ _ (ZI (g 8 0 26) :: _) _
  refine zs_if_lt 12 rfl (by omega) (fun hc_4 => ?_) (fun hc_4 => ?_)
  · refine zs_iconst (n := 0) rfl ⟨by omega, by omega⟩ ?_
    refine zs_istore (i := 4) rfl (by decide) (by intro r x hr; have hr2 : r = 3 := (by omega); subst hr2; intro z; cases z) ?_
    show ZVV _ _ _ _ [ZR 8 0, ZI p, ZI h, ZI f, ZI 0, ZX 99] _ _
    refine zs_aload_n (j := 0) (i := 0) rfl rfl rfl ?_
    refine zs_callV (host := "") rfl kX8_238 vX8_firstClause (c_X8_firstClause) [] [] rfl (zroom_of (by omega)) rfl (Nat.le_of_ble_eq_true rfl) ⟨rfl, hm.2.2.2.2.2.1.1, hm.2.2.2.2.2.1.2.1⟩ (fun r_16 g_16 hq_16 => ?_)
    obtain ⟨hr_16, hg_16⟩ := hq_16
    rw [hr_16, hg_16]
    show ZVV _ _ _ 19 _ [ZI (mfc g)] g
    refine zs_istore (i := 5) rfl (by decide) (by intro r x hr; have hr2 : r = 4 := (by omega); subst hr2; intro z; cases z) ?_
    show ZVV _ _ _ _ [ZR 8 0, ZI p, ZI h, ZI f, ZI 0, ZI (mfc g)] _ _
    rw [show mfc g = (((mfc g).toNat : Nat) : Int) by omega]
    refine l_X8_wishOf hm hpp (mbh g - mfc g).toNat (mfc g).toNat 0 (by omega) (by omega) (Or.inl rfl) (fun M hM => ⟨?_, hM⟩)
    rw [if_neg (show ¬ 0 ≤ g 8 0 26 by omega)]
    refine congrArg (fun z => some (ZI z)) ?_
    have e : (if ((0 : Int) = 1 ∨ zfst (fun c => decide (g 36 0 c = 0)) (mbh g - mfc g).toNat (mfc g).toNat ≠ -1) then mWs g 0 (zfa p (g 32 0 p.toNat) (g 30 0 p.toNat) h f (g 8 0 3 % 60)) else 33) = (if mWh g = true then mWs g 0 (zfa p (g 32 0 p.toNat) (g 30 0 p.toNat) h f (g 8 0 3 % 60)) else 33) := by
      by_cases hw : zfst (fun c => decide (g 36 0 c = 0)) (mbh g - mfc g).toNat (mfc g).toNat ≠ -1
      · rw [if_pos (Or.inr hw), if_pos (show mWh g = true from decide_eq_true hw)]
      · rw [if_neg (fun z => z.elim (fun y => absurd y (by decide)) hw), if_neg (show ¬ mWh g = true from fun z => hw (of_decide_eq_true z))]
    rw [e]
    rfl
  · refine zs_aload_n (j := 0) (i := 0) rfl rfl rfl ?_
    refine zs_getfield (f := 8) (k := 26) rfl rfl (trivial) ?_
    show ZVV _ _ _ _ _ (ZI (g 8 0 26) :: _) _
    exact zs_ireturn rfl rfl (⟨by rw [if_pos (by omega)], zP.rf g⟩)

