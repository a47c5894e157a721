def zP (g G : ZG) : Prop := ∀ f, f ≠ 43 → G f = g f
theorem zP.rf (g : ZG) : zP g g := fun _ _ => rfl
theorem zP.tr {a b c : ZG} (h : zP a b) (k : zP b c) : zP a c := fun f hf => (k f hf).trans (h f hf)
theorem zP.up {g G : ZG} (h : zP g G) (k : Nat) (v : Int) : zP g (zup G 43 0 k v) := fun f hf => (zup_nf _ _ _ _ hf).trans (h f hf)
def mcmp (fa : Nat → Int) (t : Int) : Bool := if t / 100 % 10 = 0 then decide (fa (t / 1000).toNat < t % 100) else if t / 100 % 10 = 1 then decide (fa (t / 1000).toNat = t % 100) else decide (t % 100 < fa (t / 1000).toNat)
def mev1 (fa : Nat → Int) (t : Int) (bs : List Bool) : List Bool := if t = -33 then (!bs.headD false) :: bs.tail else if t = -38 then (bs.tail.headD false && bs.headD false) :: bs.tail.tail else if t < 0 then (bs.tail.headD false || bs.headD false) :: bs.tail.tail else mcmp fa t :: bs
def mev (fa tk : Nat → Int) (n k : Nat) (bs : List Bool) : List Bool := match n with
  | 0 => bs
  | n + 1 => mev fa tk n (k + 1) (mev1 fa (tk k) bs)
def mht (t : Int) (h : Nat) : Prop := if t = -33 then 1 ≤ h else if t < 0 then 2 ≤ h else h ≤ 98
def mnx (t : Int) (h : Nat) : Nat := if t = -33 then h else if t < 0 then h - 1 else h + 1
def mwf (tk : Nat → Int) (n k h : Nat) : Prop := match n with
  | 0 => h = 1
  | n + 1 => (-128 ≤ tk k ∧ tk k < 6000) ∧ mht (tk k) h ∧ mwf tk n (k + 1) (mnx (tk k) h)
def PL (G : ZG) (bs : List Bool) : Prop := match bs with
  | [] => True
  | b :: r => G 43 0 r.length = (if b = true then 1 else 0) ∧ PL G r
theorem PL.far {G : ZG} {k : Nat} {v : Int} : ∀ {bs : List Bool}, bs.length ≤ k → PL G bs → PL (zup G 43 0 k v) bs := by
  intro bs
  induction bs with
  | nil => intro _ _; trivial
  | cons b r ih =>
    intro hk h
    have hk : r.length + 1 ≤ k := hk
    exact ⟨(zup_nk _ _ _ _ _ _ (by omega)).trans h.1, ih (by omega) h.2⟩
theorem PL.push {G : ZG} {bs : List Bool} {b : Bool} {k : Nat} {v : Int} (hk : k = bs.length) (hv : v = if b = true then 1 else 0) (h : PL G bs) : PL (zup G 43 0 k v) (b :: bs) := by
  subst hk hv
  exact ⟨zup_eq _ _ _ _ _, h.far (Nat.le_refl _)⟩
theorem lcons {bs : List Bool} (h : 1 ≤ bs.length) : ∃ b r, bs = b :: r := by
  cases bs with
  | nil => exact absurd h (by decide)
  | cons b r => exact ⟨b, r, rfl⟩
theorem lcons2 {bs : List Bool} (h : 2 ≤ bs.length) : ∃ b c r, bs = b :: c :: r := by
  obtain ⟨b, r, rfl⟩ := lcons (Nat.le_trans (by decide) h)
  obtain ⟨c, r, rfl⟩ := lcons (bs := r) (by have h : 2 ≤ r.length + 1 := h; omega)
  exact ⟨b, c, r, rfl⟩
theorem zn1 {b : Bool} (h : ¬ (if b = true then (1 : Int) else 0) ≠ 0) : (1 : Int) = if (!b) = true then 1 else 0 := by rw [pfl_f h]; rfl
theorem zn0 {b : Bool} (h : (if b = true then (1 : Int) else 0) ≠ 0) : (0 : Int) = if (!b) = true then 1 else 0 := by
  cases b
  · exact absurd rfl h
  · rfl
theorem za0 {b c : Bool} (h : (if b = true then (1 : Int) else 0) = 0) : (0 : Int) = if (b && c) = true then 1 else 0 := by
  cases b
  · rfl
  · exact absurd h (by decide)
theorem za1 {b c : Bool} (h : ¬ (if b = true then (1 : Int) else 0) = 0) (k : (if c = true then (1 : Int) else 0) = 0) : (0 : Int) = if (b && c) = true then 1 else 0 := by
  cases b
  · rfl
  · cases c
    · rfl
    · exact absurd k (by decide)
theorem za2 {b c : Bool} (h : ¬ (if b = true then (1 : Int) else 0) = 0) (k : ¬ (if c = true then (1 : Int) else 0) = 0) : (1 : Int) = if (b && c) = true then 1 else 0 := by rw [zif1 h, zif1 k]; rfl
theorem zo0 {b c : Bool} (h : (if b = true then (1 : Int) else 0) ≠ 0) : (1 : Int) = if (b || c) = true then 1 else 0 := by
  cases b
  · exact absurd rfl h
  · rfl
theorem zo1 {b c : Bool} (h : ¬ (if b = true then (1 : Int) else 0) ≠ 0) (k : (if c = true then (1 : Int) else 0) = 0) : (0 : Int) = if (b || c) = true then 1 else 0 := by
  rw [pfl_f h]
  cases c
  · rfl
  · exact absurd k (by decide)
theorem zo2 {b c : Bool} (h : ¬ (if b = true then (1 : Int) else 0) ≠ 0) (k : ¬ (if c = true then (1 : Int) else 0) = 0) : (1 : Int) = if (b || c) = true then 1 else 0 := by rw [pfl_f h, zif1 k]; rfl
theorem mht_n {t : Int} {h : Nat} (k : mht t h) (e : t = -33) : 1 ≤ h := by unfold mht at k; rwa [if_pos e] at k
theorem mht_b {t : Int} {h : Nat} (k : mht t h) (e : t ≠ -33) (e2 : t < 0) : 2 ≤ h := by unfold mht at k; rwa [if_neg e, if_pos e2] at k
theorem mht_t {t : Int} {h : Nat} (k : mht t h) (e2 : ¬ t < 0) : h ≤ 98 := by unfold mht at k; rwa [if_neg (by omega), if_neg e2] at k
theorem c_X8_factOf (i p h f : Int) : ZC mX8_factOf 1 (fun av g => av = [ZR 8 0, ZI i, ZI p, ZI h, ZI f] ∧ 0 ≤ i ∧ (0 ≤ p ∧ p < 6) ∧ 0 ≤ g 8 0 3) (fun _ g r g' => r = some (ZI ((zfa p (g 32 0 p.toNat) (g 30 0 p.toNat) h f (g 8 0 3 % 60)) i.toNat)) ∧ g' = g) := by
  refine zc_of gX8_factOf (fun av g hp => by obtain ⟨rfl, -⟩ := hp; exact Nat.le_of_ble_eq_true rfl) (fun Y av g hwf hrg hp hok => ?_)
  obtain ⟨rfl, hp⟩ := hp
  show ZVV _ _ _ 0 [ZR 8 0, ZI i, ZI p, ZI h, ZI f] [] _
  have hpp := hp.2.1
  refine zs_iload_n (j := 1) (i := 1) rfl rfl rfl ?_
  by_cases hs_1_0 : i = 0
  · refine zs_tsIn 36 rfl (by omega) (by omega) (off := 35) (by rw [hs_1_0]; rfl) (by omega) ?_
    refine zs_iload_n (j := 2) (i := 2) rfl rfl rfl ?_
    exact zs_ireturn rfl rfl (⟨by rw [show i = ((0 : Nat) : Int) by omega]; rfl, rfl⟩)
  by_cases hs_1_1 : i = 1
  · refine zs_tsIn 38 rfl (by omega) (by omega) (off := 37) (by rw [hs_1_1]; rfl) (by omega) ?_
    refine zs_aload_n (j := 0) (i := 0) rfl rfl rfl ?_
    refine zs_getfield (f := 8) (k := 6) rfl rfl (trivial) ?_
    show ZVV _ _ _ _ _ (ZR 32 0 :: _) _
    refine zs_iload_n (j := 2) (i := 2) rfl rfl rfl ?_
    refine zs_iald (n := 6) rfl rfl (by omega) (by omega) ?_
    exact zs_ireturn rfl rfl (⟨by rw [show i = ((1 : Nat) : Int) by omega]; rfl, rfl⟩)
  by_cases hs_1_2 : i = 2
  · refine zs_tsIn 45 rfl (by omega) (by omega) (off := 44) (by rw [hs_1_2]; rfl) (by omega) ?_
    refine zs_aload_n (j := 0) (i := 0) rfl rfl rfl ?_
    refine zs_getfield (f := 8) (k := 4) rfl rfl (trivial) ?_
    show ZVV _ _ _ _ _ (ZR 30 0 :: _) _
    refine zs_iload_n (j := 2) (i := 2) rfl rfl rfl ?_
    refine zs_iald (n := 6) rfl rfl (by omega) (by omega) ?_
    exact zs_ireturn rfl rfl (⟨by rw [show i = ((2 : Nat) : Int) by omega]; rfl, rfl⟩)
  by_cases hs_1_3 : i = 3
  · refine zs_tsIn 52 rfl (by omega) (by omega) (off := 51) (by rw [hs_1_3]; rfl) (by omega) ?_
    refine zs_iload_n (j := 3) (i := 3) rfl rfl rfl ?_
    exact zs_ireturn rfl rfl (⟨by rw [show i = ((3 : Nat) : Int) by omega]; rfl, rfl⟩)
  by_cases hs_1_4 : i = 4
  · refine zs_tsIn 54 rfl (by omega) (by omega) (off := 53) (by rw [hs_1_4]; rfl) (by omega) ?_
    refine zs_iload (i := 4) rfl rfl ?_
    exact zs_ireturn rfl rfl (⟨by rw [show i = ((4 : Nat) : Int) by omega]; rfl, rfl⟩)
  refine zs_tsOut 57 rfl (by omega) (by omega) ?_
  refine zs_aload_n (j := 0) (i := 0) rfl rfl rfl ?_
  refine zs_getfield (f := 8) (k := 3) rfl rfl (trivial) ?_
  show ZVV _ _ _ _ _ (ZI (g 8 0 3) :: _) _
  refine zs_bipush (n := 60) rfl ⟨by omega, by omega⟩ ?_
  refine zs_irem_p rfl (hp.2.2) (by omega) ?_
  exact zs_ireturn rfl rfl (⟨by rw [show i = ((((i.toNat - 5) + 5 : Nat)) : Int) by omega]; rfl, rfl⟩)

set_option maxHeartbeats 4000000 in
theorem l_X8_isSo {Y : ZW} {Q : Option ZV → ZG → Prop} {g : ZG} {c p h f : Int} (hpp : 0 ≤ p ∧ p < 6) (hgn : 0 ≤ g 8 0 3) (hc0 : 0 ≤ c ∧ c < 60) (hto : g 39 0 c.toNat ≤ 600) : ∀ (m k : Nat) (x : Int) (bs : List Bool) (z7 z8 z9 : ZV) (G : ZG), (∀ y, z7 ≠ ZJ y) → (∀ y, z8 ≠ ZJ y) → (∀ y, z9 ≠ ZJ y) → (k : Int) + m = g 39 0 c.toNat → x = (bs.length : Int) → bs.length ≤ 99 → zP g G → PL G bs → mwf (g 40 0) m k bs.length → (∀ M, zP g M → Q (some (ZI (if (mev (zfa p (g 32 0 p.toNat) (g 30 0 p.toNat) h f (g 8 0 3 % 60)) (g 40 0) m k bs).headD false = true then 1 else 0))) M) → ZVV Y mX8_isSo (zcx Y 2 Q) 11 [ZR 8 0, ZI c, ZI p, ZI h, ZI f, ZI x, ZI (k : Int), z7, z8, z9] [] G := by
  intro m
  induction m with
  | zero =>
    intro k x bs z7 z8 z9 G hz7 hz8 hz9 hk hx hl99 hz hPL hw hq
    have e8_G : G 8 = g 8 := hz 8 (by decide)
    have e30_G : G 30 = g 30 := hz 30 (by decide)
    have e32_G : G 32 = g 32 := hz 32 (by decide)
    have e35_G : G 35 = g 35 := hz 35 (by decide)
    have e36_G : G 36 = g 36 := hz 36 (by decide)
    have e37_G : G 37 = g 37 := hz 37 (by decide)
    have e38_G : G 38 = g 38 := hz 38 (by decide)
    have e39_G : G 39 = g 39 := hz 39 (by decide)
    have e40_G : G 40 = g 40 := hz 40 (by decide)
    refine zs_iload (i := 6) rfl rfl ?_
    refine zs_aload_n (j := 0) (i := 0) rfl rfl rfl ?_
    refine zs_getfield (f := 8) (k := 18) rfl rfl (trivial) ?_
    show ZVV _ _ _ _ _ (ZR 39 0 :: _) _
    refine zs_iload_n (j := 1) (i := 1) rfl rfl rfl ?_
    refine zs_iald (n := 60) rfl rfl (by omega) (by omega) ?_
    show ZVV _ _ _ _ _ (ZI (G 39 0 c.toNat) :: _) _
    rw [e39_G]
    refine zs_icmp_ge 255 rfl (by omega) (fun hc_19 => ?_) (fun hc_19 => ?_)
    · refine zs_aload_n (j := 0) (i := 0) rfl rfl rfl ?_
      refine zs_getfield (f := 8) (k := 25) rfl rfl (trivial) ?_
      show ZVV _ _ _ _ _ (ZR 43 0 :: _) _
      refine zs_iconst (n := 0) rfl ⟨by omega, by omega⟩ ?_
      refine zs_zald (n := 100) rfl rfl (by omega) (by omega) ?_
      show ZVV _ _ _ _ _ (ZI (G 43 0 0) :: _) _
      obtain ⟨b0, r, hbs⟩ := lcons (Nat.le_of_eq hw.symm)
      rw [hbs] at hw hPL hq
      have hr0 : r = [] := List.eq_nil_of_length_eq_zero (by have hw : r.length + 1 = 1 := hw; omega)
      subst hr0
      rw [show G 43 0 0 = if b0 = true then 1 else 0 from hPL.1]
      exact zs_zreturn rfl rfl ((by split <;> decide)) (hq G hz)
    · exfalso; omega
  | succ m ih =>
    intro k x bs z7 z8 z9 G hz7 hz8 hz9 hk hx hl99 hz hPL hw hq
    obtain ⟨hrt, hht, hw2⟩ := hw
    have e8_G : G 8 = g 8 := hz 8 (by decide)
    have e30_G : G 30 = g 30 := hz 30 (by decide)
    have e32_G : G 32 = g 32 := hz 32 (by decide)
    have e35_G : G 35 = g 35 := hz 35 (by decide)
    have e36_G : G 36 = g 36 := hz 36 (by decide)
    have e37_G : G 37 = g 37 := hz 37 (by decide)
    have e38_G : G 38 = g 38 := hz 38 (by decide)
    have e39_G : G 39 = g 39 := hz 39 (by decide)
    have e40_G : G 40 = g 40 := hz 40 (by decide)
    refine zs_iload (i := 6) rfl rfl ?_
    refine zs_aload_n (j := 0) (i := 0) rfl rfl rfl ?_
    refine zs_getfield (f := 8) (k := 18) rfl rfl (trivial) ?_
    show ZVV _ _ _ _ _ (ZR 39 0 :: _) _
    refine zs_iload_n (j := 1) (i := 1) rfl rfl rfl ?_
    refine zs_iald (n := 60) rfl rfl (by omega) (by omega) ?_
    show ZVV _ _ _ _ _ (ZI (G 39 0 c.toNat) :: _) _
    rw [e39_G]
    refine zs_icmp_ge 255 rfl (by omega) (fun hc_19 => ?_) (fun hc_19 => ?_)
    · exfalso; omega
    · refine zs_aload_n (j := 0) (i := 0) rfl rfl rfl ?_
      refine zs_getfield (f := 8) (k := 19) rfl rfl (trivial) ?_
      show ZVV _ _ _ _ _ (ZR 40 0 :: _) _
      refine zs_iload (i := 6) rfl rfl ?_
      refine zs_iald (n := 600) rfl rfl (by omega) (by omega) ?_
      show ZVV _ _ _ _ _ (ZI (G 40 0 k) :: _) _
      rw [e40_G]
      refine zs_istore (i := 7) rfl (by decide) (by intro r x hr; have hr2 : r = 6 := (by omega); subst hr2; intro z; cases z) ?_
      show ZVV _ _ _ _ [ZR 8 0, ZI c, ZI p, ZI h, ZI f, ZI x, ZI (k : Int), ZI (g 40 0 k), z8, z9] _ _
      refine zs_iload (i := 7) rfl rfl ?_
      refine zs_bipush (n := (-33)) rfl ⟨by omega, by omega⟩ ?_
      show ZVV _ _ _ 35 _ _ _
      refine zs_icmp_ne 67 rfl (by omega) (fun hc_35 => ?_) (fun hc_35 => ?_)
      · refine zs_iload (i := 7) rfl rfl ?_
        refine zs_if_ge 151 rfl (by omega) (fun hc_69 => ?_) (fun hc_69 => ?_)
        · have h98 := mht_t hht (by omega)
          refine zs_aload_n (j := 0) (i := 0) rfl rfl rfl ?_
          refine zs_iload (i := 7) rfl rfl ?_
          refine zs_sipush (n := 1000) rfl ⟨by omega, by omega⟩ ?_
          refine zs_idiv_p rfl (by omega) (by omega) ?_
          refine zs_iload_n (j := 2) (i := 2) rfl rfl rfl ?_
          refine zs_iload_n (j := 3) (i := 3) rfl rfl rfl ?_
          refine zs_iload (i := 4) rfl rfl ?_
          show ZVV _ _ _ 162 _ _ _
          refine zs_callV (host := "") rfl kX8_234 vX8_factOf (c_X8_factOf (g 40 0 k / 1000) p h f) [ZI (g 40 0 k / 1000), ZI p, ZI h, ZI f] [] rfl (zroom_of (by omega)) rfl (Nat.le_of_ble_eq_true rfl) ⟨rfl, by omega, hpp, by rw [e8_G]; exact hgn⟩ (fun r_162 g_162 hq_162 => ?_)
          obtain ⟨hr_162, hg_162⟩ := hq_162
          rw [hr_162, hg_162, e32_G, e30_G, e8_G]
          show ZVV _ _ _ 165 _ [ZI ((zfa p (g 32 0 p.toNat) (g 30 0 p.toNat) h f (g 8 0 3 % 60)) ((g 40 0 k) / 1000).toNat)] _
          refine zs_istore (i := 8) rfl (by decide) (by intro r x hr; have hr2 : r = 7 := (by omega); subst hr2; intro z; cases z) ?_
          show ZVV _ _ _ _ [ZR 8 0, ZI c, ZI p, ZI h, ZI f, ZI x, ZI (k : Int), ZI (g 40 0 k), ZI ((zfa p (g 32 0 p.toNat) (g 30 0 p.toNat) h f (g 8 0 3 % 60)) ((g 40 0 k) / 1000).toNat), z9] _ _
          refine zs_iload (i := 7) rfl rfl ?_
          refine zs_bipush (n := 100) rfl ⟨by omega, by omega⟩ ?_
          refine zs_idiv_p rfl (by omega) (by omega) ?_
          refine zs_bipush (n := 10) rfl ⟨by omega, by omega⟩ ?_
          refine zs_irem_p rfl (by omega) (by omega) ?_
          refine zs_istore (i := 9) rfl (by decide) (by intro r x hr; have hr2 : r = 8 := (by omega); subst hr2; intro z; cases z) ?_
          show ZVV _ _ _ _ [ZR 8 0, ZI c, ZI p, ZI h, ZI f, ZI x, ZI (k : Int), ZI (g 40 0 k), ZI ((zfa p (g 32 0 p.toNat) (g 30 0 p.toNat) h f (g 8 0 3 % 60)) ((g 40 0 k) / 1000).toNat), ZI (((g 40 0 k) / 100) % 10)] _ _
          show ZVV _ _ _ 177 _ _ _
          refine zs_aload_n (j := 0) (i := 0) rfl rfl rfl ?_
          refine zs_getfield (f := 8) (k := 25) rfl rfl (trivial) ?_
          show ZVV _ _ _ _ _ (ZR 43 0 :: _) _
          refine zs_iload (i := 5) rfl rfl ?_
          refine zs_iload (i := 9) rfl rfl ?_
          refine zs_if_ne 206 rfl (by omega) (fun hc_185 => ?_) (fun hc_185 => ?_)
          · refine zs_iload (i := 9) rfl rfl ?_
            refine zs_iconst (n := 1) rfl ⟨by omega, by omega⟩ ?_
            refine zs_icmp_ne 230 rfl (by omega) (fun hc_209 => ?_) (fun hc_209 => ?_)
            · refine zs_iload (i := 8) rfl rfl ?_
              refine zs_iload (i := 7) rfl rfl ?_
              refine zs_bipush (n := 100) rfl ⟨by omega, by omega⟩ ?_
              refine zs_irem_p rfl (by omega) (by omega) ?_
              refine zs_icmp_le 244 rfl (by omega) (fun hc_237 => ?_) (fun hc_237 => ?_)
              · refine zs_iconst (n := 0) rfl ⟨by omega, by omega⟩ ?_
                refine zs_zast (n := 100) rfl rfl (by omega) (by omega) ((by decide)) ?_
                refine zs_iinc_r (i := 5) rfl rfl (by intro r x hr; have hr2 : r = 4 := (by omega); subst hr2; intro z; cases z) ⟨by omega, by omega⟩ ?_
                show ZVV _ _ _ _ [ZR 8 0, ZI c, ZI p, ZI h, ZI f, ZI (x + 1), ZI (k : Int), ZI (g 40 0 k), ZI ((zfa p (g 32 0 p.toNat) (g 30 0 p.toNat) h f (g 8 0 3 % 60)) ((g 40 0 k) / 1000).toNat), ZI (((g 40 0 k) / 100) % 10)] _ _
                refine zs_iinc_r (i := 6) rfl rfl (by intro r x hr; have hr2 : r = 5 := (by omega); subst hr2; intro z; cases z) ⟨by omega, by omega⟩ ?_
                show ZVV _ _ _ _ [ZR 8 0, ZI c, ZI p, ZI h, ZI f, ZI (x + 1), ZI ((k : Int) + 1), ZI (g 40 0 k), ZI ((zfa p (g 32 0 p.toNat) (g 30 0 p.toNat) h f (g 8 0 3 % 60)) ((g 40 0 k) / 1000).toNat), ZI (((g 40 0 k) / 100) % 10)] _ _
                refine zs_goto 11 rfl (by omega) ?_
                have hbb : mcmp (zfa p (g 32 0 p.toNat) (g 30 0 p.toNat) h f (g 8 0 3 % 60)) (g 40 0 k) = false := by unfold mcmp; first | (rw [if_pos (by omega)]; first | exact decide_eq_true (by omega) | exact decide_eq_false (by omega)) | (rw [if_neg (by omega), if_pos (by omega)]; first | exact decide_eq_true (by omega) | exact decide_eq_false (by omega)) | (rw [if_neg (by omega), if_neg (by omega)]; first | exact decide_eq_true (by omega) | exact decide_eq_false (by omega))
                have he1 : mev1 (zfa p (g 32 0 p.toNat) (g 30 0 p.toNat) h f (g 8 0 3 % 60)) (g 40 0 k) bs = mcmp (zfa p (g 32 0 p.toNat) (g 30 0 p.toNat) h f (g 8 0 3 % 60)) (g 40 0 k) :: bs := by unfold mev1; rw [if_neg hc_35, if_neg (by omega), if_neg (by omega)]
                exact ih (k + 1) _ (mcmp (zfa p (g 32 0 p.toNat) (g 30 0 p.toNat) h f (g 8 0 3 % 60)) (g 40 0 k) :: bs) _ _ _ _ (by intro y h; cases h) (by first | exact hz8 | (intro y h; cases h)) (by first | exact hz9 | (intro y h; cases h)) (by omega) (by show x + 1 = ((bs.length + 1 : Nat) : Int); omega) (by show bs.length + 1 ≤ 99; omega) (hz.up _ _) (PL.push (by omega) (by rw [hbb]; rfl) hPL) (by have hh := hw2; rw [show mnx (g 40 0 k) bs.length = bs.length + 1 from by unfold mnx; rw [if_neg hc_35, if_neg (by omega)]] at hh; exact hh) (fun M hM => by have hh := hq M hM; rw [show mev (zfa p (g 32 0 p.toNat) (g 30 0 p.toNat) h f (g 8 0 3 % 60)) (g 40 0) (m + 1) k bs = mev (zfa p (g 32 0 p.toNat) (g 30 0 p.toNat) h f (g 8 0 3 % 60)) (g 40 0) m (k + 1) (mev1 (zfa p (g 32 0 p.toNat) (g 30 0 p.toNat) h f (g 8 0 3 % 60)) (g 40 0 k) bs) from rfl, he1] at hh; exact hh)
              · refine zs_iconst (n := 1) rfl ⟨by omega, by omega⟩ ?_
                refine zs_goto 245 rfl (by omega) ?_
                refine zs_zast (n := 100) rfl rfl (by omega) (by omega) ((by decide)) ?_
                refine zs_iinc_r (i := 5) rfl rfl (by intro r x hr; have hr2 : r = 4 := (by omega); subst hr2; intro z; cases z) ⟨by omega, by omega⟩ ?_
                show ZVV _ _ _ _ [ZR 8 0, ZI c, ZI p, ZI h, ZI f, ZI (x + 1), ZI (k : Int), ZI (g 40 0 k), ZI ((zfa p (g 32 0 p.toNat) (g 30 0 p.toNat) h f (g 8 0 3 % 60)) ((g 40 0 k) / 1000).toNat), ZI (((g 40 0 k) / 100) % 10)] _ _
                refine zs_iinc_r (i := 6) rfl rfl (by intro r x hr; have hr2 : r = 5 := (by omega); subst hr2; intro z; cases z) ⟨by omega, by omega⟩ ?_
                show ZVV _ _ _ _ [ZR 8 0, ZI c, ZI p, ZI h, ZI f, ZI (x + 1), ZI ((k : Int) + 1), ZI (g 40 0 k), ZI ((zfa p (g 32 0 p.toNat) (g 30 0 p.toNat) h f (g 8 0 3 % 60)) ((g 40 0 k) / 1000).toNat), ZI (((g 40 0 k) / 100) % 10)] _ _
                refine zs_goto 11 rfl (by omega) ?_
                have hbb : mcmp (zfa p (g 32 0 p.toNat) (g 30 0 p.toNat) h f (g 8 0 3 % 60)) (g 40 0 k) = true := by unfold mcmp; first | (rw [if_pos (by omega)]; first | exact decide_eq_true (by omega) | exact decide_eq_false (by omega)) | (rw [if_neg (by omega), if_pos (by omega)]; first | exact decide_eq_true (by omega) | exact decide_eq_false (by omega)) | (rw [if_neg (by omega), if_neg (by omega)]; first | exact decide_eq_true (by omega) | exact decide_eq_false (by omega))
                have he1 : mev1 (zfa p (g 32 0 p.toNat) (g 30 0 p.toNat) h f (g 8 0 3 % 60)) (g 40 0 k) bs = mcmp (zfa p (g 32 0 p.toNat) (g 30 0 p.toNat) h f (g 8 0 3 % 60)) (g 40 0 k) :: bs := by unfold mev1; rw [if_neg hc_35, if_neg (by omega), if_neg (by omega)]
                exact ih (k + 1) _ (mcmp (zfa p (g 32 0 p.toNat) (g 30 0 p.toNat) h f (g 8 0 3 % 60)) (g 40 0 k) :: bs) _ _ _ _ (by intro y h; cases h) (by first | exact hz8 | (intro y h; cases h)) (by first | exact hz9 | (intro y h; cases h)) (by omega) (by show x + 1 = ((bs.length + 1 : Nat) : Int); omega) (by show bs.length + 1 ≤ 99; omega) (hz.up _ _) (PL.push (by omega) (by rw [hbb]; rfl) hPL) (by have hh := hw2; rw [show mnx (g 40 0 k) bs.length = bs.length + 1 from by unfold mnx; rw [if_neg hc_35, if_neg (by omega)]] at hh; exact hh) (fun M hM => by have hh := hq M hM; rw [show mev (zfa p (g 32 0 p.toNat) (g 30 0 p.toNat) h f (g 8 0 3 % 60)) (g 40 0) (m + 1) k bs = mev (zfa p (g 32 0 p.toNat) (g 30 0 p.toNat) h f (g 8 0 3 % 60)) (g 40 0) m (k + 1) (mev1 (zfa p (g 32 0 p.toNat) (g 30 0 p.toNat) h f (g 8 0 3 % 60)) (g 40 0 k) bs) from rfl, he1] at hh; exact hh)
            · refine zs_iload (i := 8) rfl rfl ?_
              refine zs_iload (i := 7) rfl rfl ?_
              refine zs_bipush (n := 100) rfl ⟨by omega, by omega⟩ ?_
              refine zs_irem_p rfl (by omega) (by omega) ?_
              refine zs_icmp_ne 226 rfl (by omega) (fun hc_219 => ?_) (fun hc_219 => ?_)
              · refine zs_iconst (n := 0) rfl ⟨by omega, by omega⟩ ?_
                refine zs_goto 245 rfl (by omega) ?_
                refine zs_zast (n := 100) rfl rfl (by omega) (by omega) ((by decide)) ?_
                refine zs_iinc_r (i := 5) rfl rfl (by intro r x hr; have hr2 : r = 4 := (by omega); subst hr2; intro z; cases z) ⟨by omega, by omega⟩ ?_
                show ZVV _ _ _ _ [ZR 8 0, ZI c, ZI p, ZI h, ZI f, ZI (x + 1), ZI (k : Int), ZI (g 40 0 k), ZI ((zfa p (g 32 0 p.toNat) (g 30 0 p.toNat) h f (g 8 0 3 % 60)) ((g 40 0 k) / 1000).toNat), ZI (((g 40 0 k) / 100) % 10)] _ _
                refine zs_iinc_r (i := 6) rfl rfl (by intro r x hr; have hr2 : r = 5 := (by omega); subst hr2; intro z; cases z) ⟨by omega, by omega⟩ ?_
                show ZVV _ _ _ _ [ZR 8 0, ZI c, ZI p, ZI h, ZI f, ZI (x + 1), ZI ((k : Int) + 1), ZI (g 40 0 k), ZI ((zfa p (g 32 0 p.toNat) (g 30 0 p.toNat) h f (g 8 0 3 % 60)) ((g 40 0 k) / 1000).toNat), ZI (((g 40 0 k) / 100) % 10)] _ _
                refine zs_goto 11 rfl (by omega) ?_
                have hbb : mcmp (zfa p (g 32 0 p.toNat) (g 30 0 p.toNat) h f (g 8 0 3 % 60)) (g 40 0 k) = false := by unfold mcmp; first | (rw [if_pos (by omega)]; first | exact decide_eq_true (by omega) | exact decide_eq_false (by omega)) | (rw [if_neg (by omega), if_pos (by omega)]; first | exact decide_eq_true (by omega) | exact decide_eq_false (by omega)) | (rw [if_neg (by omega), if_neg (by omega)]; first | exact decide_eq_true (by omega) | exact decide_eq_false (by omega))
                have he1 : mev1 (zfa p (g 32 0 p.toNat) (g 30 0 p.toNat) h f (g 8 0 3 % 60)) (g 40 0 k) bs = mcmp (zfa p (g 32 0 p.toNat) (g 30 0 p.toNat) h f (g 8 0 3 % 60)) (g 40 0 k) :: bs := by unfold mev1; rw [if_neg hc_35, if_neg (by omega), if_neg (by omega)]
                exact ih (k + 1) _ (mcmp (zfa p (g 32 0 p.toNat) (g 30 0 p.toNat) h f (g 8 0 3 % 60)) (g 40 0 k) :: bs) _ _ _ _ (by intro y h; cases h) (by first | exact hz8 | (intro y h; cases h)) (by first | exact hz9 | (intro y h; cases h)) (by omega) (by show x + 1 = ((bs.length + 1 : Nat) : Int); omega) (by show bs.length + 1 ≤ 99; omega) (hz.up _ _) (PL.push (by omega) (by rw [hbb]; rfl) hPL) (by have hh := hw2; rw [show mnx (g 40 0 k) bs.length = bs.length + 1 from by unfold mnx; rw [if_neg hc_35, if_neg (by omega)]] at hh; exact hh) (fun M hM => by have hh := hq M hM; rw [show mev (zfa p (g 32 0 p.toNat) (g 30 0 p.toNat) h f (g 8 0 3 % 60)) (g 40 0) (m + 1) k bs = mev (zfa p (g 32 0 p.toNat) (g 30 0 p.toNat) h f (g 8 0 3 % 60)) (g 40 0) m (k + 1) (mev1 (zfa p (g 32 0 p.toNat) (g 30 0 p.toNat) h f (g 8 0 3 % 60)) (g 40 0 k) bs) from rfl, he1] at hh; exact hh)
              · refine zs_iconst (n := 1) rfl ⟨by omega, by omega⟩ ?_
                refine zs_goto 245 rfl (by omega) ?_
                refine zs_zast (n := 100) rfl rfl (by omega) (by omega) ((by decide)) ?_
                refine zs_iinc_r (i := 5) rfl rfl (by intro r x hr; have hr2 : r = 4 := (by omega); subst hr2; intro z; cases z) ⟨by omega, by omega⟩ ?_
                show ZVV _ _ _ _ [ZR 8 0, ZI c, ZI p, ZI h, ZI f, ZI (x + 1), ZI (k : Int), ZI (g 40 0 k), ZI ((zfa p (g 32 0 p.toNat) (g 30 0 p.toNat) h f (g 8 0 3 % 60)) ((g 40 0 k) / 1000).toNat), ZI (((g 40 0 k) / 100) % 10)] _ _
                refine zs_iinc_r (i := 6) rfl rfl (by intro r x hr; have hr2 : r = 5 := (by omega); subst hr2; intro z; cases z) ⟨by omega, by omega⟩ ?_
                show ZVV _ _ _ _ [ZR 8 0, ZI c, ZI p, ZI h, ZI f, ZI (x + 1), ZI ((k : Int) + 1), ZI (g 40 0 k), ZI ((zfa p (g 32 0 p.toNat) (g 30 0 p.toNat) h f (g 8 0 3 % 60)) ((g 40 0 k) / 1000).toNat), ZI (((g 40 0 k) / 100) % 10)] _ _
                refine zs_goto 11 rfl (by omega) ?_
                have hbb : mcmp (zfa p (g 32 0 p.toNat) (g 30 0 p.toNat) h f (g 8 0 3 % 60)) (g 40 0 k) = true := by unfold mcmp; first | (rw [if_pos (by omega)]; first | exact decide_eq_true (by omega) | exact decide_eq_false (by omega)) | (rw [if_neg (by omega), if_pos (by omega)]; first | exact decide_eq_true (by omega) | exact decide_eq_false (by omega)) | (rw [if_neg (by omega), if_neg (by omega)]; first | exact decide_eq_true (by omega) | exact decide_eq_false (by omega))
                have he1 : mev1 (zfa p (g 32 0 p.toNat) (g 30 0 p.toNat) h f (g 8 0 3 % 60)) (g 40 0 k) bs = mcmp (zfa p (g 32 0 p.toNat) (g 30 0 p.toNat) h f (g 8 0 3 % 60)) (g 40 0 k) :: bs := by unfold mev1; rw [if_neg hc_35, if_neg (by omega), if_neg (by omega)]
                exact ih (k + 1) _ (mcmp (zfa p (g 32 0 p.toNat) (g 30 0 p.toNat) h f (g 8 0 3 % 60)) (g 40 0 k) :: bs) _ _ _ _ (by intro y h; cases h) (by first | exact hz8 | (intro y h; cases h)) (by first | exact hz9 | (intro y h; cases h)) (by omega) (by show x + 1 = ((bs.length + 1 : Nat) : Int); omega) (by show bs.length + 1 ≤ 99; omega) (hz.up _ _) (PL.push (by omega) (by rw [hbb]; rfl) hPL) (by have hh := hw2; rw [show mnx (g 40 0 k) bs.length = bs.length + 1 from by unfold mnx; rw [if_neg hc_35, if_neg (by omega)]] at hh; exact hh) (fun M hM => by have hh := hq M hM; rw [show mev (zfa p (g 32 0 p.toNat) (g 30 0 p.toNat) h f (g 8 0 3 % 60)) (g 40 0) (m + 1) k bs = mev (zfa p (g 32 0 p.toNat) (g 30 0 p.toNat) h f (g 8 0 3 % 60)) (g 40 0) m (k + 1) (mev1 (zfa p (g 32 0 p.toNat) (g 30 0 p.toNat) h f (g 8 0 3 % 60)) (g 40 0 k) bs) from rfl, he1] at hh; exact hh)
          · refine zs_iload (i := 8) rfl rfl ?_
            refine zs_iload (i := 7) rfl rfl ?_
            refine zs_bipush (n := 100) rfl ⟨by omega, by omega⟩ ?_
            refine zs_irem_p rfl (by omega) (by omega) ?_
            refine zs_icmp_ge 202 rfl (by omega) (fun hc_195 => ?_) (fun hc_195 => ?_)
            · refine zs_iconst (n := 0) rfl ⟨by omega, by omega⟩ ?_
              refine zs_goto 245 rfl (by omega) ?_
              refine zs_zast (n := 100) rfl rfl (by omega) (by omega) ((by decide)) ?_
              refine zs_iinc_r (i := 5) rfl rfl (by intro r x hr; have hr2 : r = 4 := (by omega); subst hr2; intro z; cases z) ⟨by omega, by omega⟩ ?_
              show ZVV _ _ _ _ [ZR 8 0, ZI c, ZI p, ZI h, ZI f, ZI (x + 1), ZI (k : Int), ZI (g 40 0 k), ZI ((zfa p (g 32 0 p.toNat) (g 30 0 p.toNat) h f (g 8 0 3 % 60)) ((g 40 0 k) / 1000).toNat), ZI (((g 40 0 k) / 100) % 10)] _ _
              refine zs_iinc_r (i := 6) rfl rfl (by intro r x hr; have hr2 : r = 5 := (by omega); subst hr2; intro z; cases z) ⟨by omega, by omega⟩ ?_
              show ZVV _ _ _ _ [ZR 8 0, ZI c, ZI p, ZI h, ZI f, ZI (x + 1), ZI ((k : Int) + 1), ZI (g 40 0 k), ZI ((zfa p (g 32 0 p.toNat) (g 30 0 p.toNat) h f (g 8 0 3 % 60)) ((g 40 0 k) / 1000).toNat), ZI (((g 40 0 k) / 100) % 10)] _ _
              refine zs_goto 11 rfl (by omega) ?_
              have hbb : mcmp (zfa p (g 32 0 p.toNat) (g 30 0 p.toNat) h f (g 8 0 3 % 60)) (g 40 0 k) = false := by unfold mcmp; first | (rw [if_pos (by omega)]; first | exact decide_eq_true (by omega) | exact decide_eq_false (by omega)) | (rw [if_neg (by omega), if_pos (by omega)]; first | exact decide_eq_true (by omega) | exact decide_eq_false (by omega)) | (rw [if_neg (by omega), if_neg (by omega)]; first | exact decide_eq_true (by omega) | exact decide_eq_false (by omega))
              have he1 : mev1 (zfa p (g 32 0 p.toNat) (g 30 0 p.toNat) h f (g 8 0 3 % 60)) (g 40 0 k) bs = mcmp (zfa p (g 32 0 p.toNat) (g 30 0 p.toNat) h f (g 8 0 3 % 60)) (g 40 0 k) :: bs := by unfold mev1; rw [if_neg hc_35, if_neg (by omega), if_neg (by omega)]
              exact ih (k + 1) _ (mcmp (zfa p (g 32 0 p.toNat) (g 30 0 p.toNat) h f (g 8 0 3 % 60)) (g 40 0 k) :: bs) _ _ _ _ (by intro y h; cases h) (by first | exact hz8 | (intro y h; cases h)) (by first | exact hz9 | (intro y h; cases h)) (by omega) (by show x + 1 = ((bs.length + 1 : Nat) : Int); omega) (by show bs.length + 1 ≤ 99; omega) (hz.up _ _) (PL.push (by omega) (by rw [hbb]; rfl) hPL) (by have hh := hw2; rw [show mnx (g 40 0 k) bs.length = bs.length + 1 from by unfold mnx; rw [if_neg hc_35, if_neg (by omega)]] at hh; exact hh) (fun M hM => by have hh := hq M hM; rw [show mev (zfa p (g 32 0 p.toNat) (g 30 0 p.toNat) h f (g 8 0 3 % 60)) (g 40 0) (m + 1) k bs = mev (zfa p (g 32 0 p.toNat) (g 30 0 p.toNat) h f (g 8 0 3 % 60)) (g 40 0) m (k + 1) (mev1 (zfa p (g 32 0 p.toNat) (g 30 0 p.toNat) h f (g 8 0 3 % 60)) (g 40 0 k) bs) from rfl, he1] at hh; exact hh)
            · refine zs_iconst (n := 1) rfl ⟨by omega, by omega⟩ ?_
              refine zs_goto 245 rfl (by omega) ?_
              refine zs_zast (n := 100) rfl rfl (by omega) (by omega) ((by decide)) ?_
              refine zs_iinc_r (i := 5) rfl rfl (by intro r x hr; have hr2 : r = 4 := (by omega); subst hr2; intro z; cases z) ⟨by omega, by omega⟩ ?_
              show ZVV _ _ _ _ [ZR 8 0, ZI c, ZI p, ZI h, ZI f, ZI (x + 1), ZI (k : Int), ZI (g 40 0 k), ZI ((zfa p (g 32 0 p.toNat) (g 30 0 p.toNat) h f (g 8 0 3 % 60)) ((g 40 0 k) / 1000).toNat), ZI (((g 40 0 k) / 100) % 10)] _ _
              refine zs_iinc_r (i := 6) rfl rfl (by intro r x hr; have hr2 : r = 5 := (by omega); subst hr2; intro z; cases z) ⟨by omega, by omega⟩ ?_
              show ZVV _ _ _ _ [ZR 8 0, ZI c, ZI p, ZI h, ZI f, ZI (x + 1), ZI ((k : Int) + 1), ZI (g 40 0 k), ZI ((zfa p (g 32 0 p.toNat) (g 30 0 p.toNat) h f (g 8 0 3 % 60)) ((g 40 0 k) / 1000).toNat), ZI (((g 40 0 k) / 100) % 10)] _ _
              refine zs_goto 11 rfl (by omega) ?_
              have hbb : mcmp (zfa p (g 32 0 p.toNat) (g 30 0 p.toNat) h f (g 8 0 3 % 60)) (g 40 0 k) = true := by unfold mcmp; first | (rw [if_pos (by omega)]; first | exact decide_eq_true (by omega) | exact decide_eq_false (by omega)) | (rw [if_neg (by omega), if_pos (by omega)]; first | exact decide_eq_true (by omega) | exact decide_eq_false (by omega)) | (rw [if_neg (by omega), if_neg (by omega)]; first | exact decide_eq_true (by omega) | exact decide_eq_false (by omega))
              have he1 : mev1 (zfa p (g 32 0 p.toNat) (g 30 0 p.toNat) h f (g 8 0 3 % 60)) (g 40 0 k) bs = mcmp (zfa p (g 32 0 p.toNat) (g 30 0 p.toNat) h f (g 8 0 3 % 60)) (g 40 0 k) :: bs := by unfold mev1; rw [if_neg hc_35, if_neg (by omega), if_neg (by omega)]
              exact ih (k + 1) _ (mcmp (zfa p (g 32 0 p.toNat) (g 30 0 p.toNat) h f (g 8 0 3 % 60)) (g 40 0 k) :: bs) _ _ _ _ (by intro y h; cases h) (by first | exact hz8 | (intro y h; cases h)) (by first | exact hz9 | (intro y h; cases h)) (by omega) (by show x + 1 = ((bs.length + 1 : Nat) : Int); omega) (by show bs.length + 1 ≤ 99; omega) (hz.up _ _) (PL.push (by omega) (by rw [hbb]; rfl) hPL) (by have hh := hw2; rw [show mnx (g 40 0 k) bs.length = bs.length + 1 from by unfold mnx; rw [if_neg hc_35, if_neg (by omega)]] at hh; exact hh) (fun M hM => by have hh := hq M hM; rw [show mev (zfa p (g 32 0 p.toNat) (g 30 0 p.toNat) h f (g 8 0 3 % 60)) (g 40 0) (m + 1) k bs = mev (zfa p (g 32 0 p.toNat) (g 30 0 p.toNat) h f (g 8 0 3 % 60)) (g 40 0) m (k + 1) (mev1 (zfa p (g 32 0 p.toNat) (g 30 0 p.toNat) h f (g 8 0 3 % 60)) (g 40 0 k) bs) from rfl, he1] at hh; exact hh)
        · refine zs_iinc_r (i := 5) rfl rfl (by intro r x hr; have hr2 : r = 4 := (by omega); subst hr2; intro z; cases z) ⟨by omega, by omega⟩ ?_
          show ZVV _ _ _ _ [ZR 8 0, ZI c, ZI p, ZI h, ZI f, ZI (x + (-1)), ZI (k : Int), ZI (g 40 0 k), z8, z9] _ _
          obtain ⟨b0, b1, r, hbs⟩ := lcons2 (mht_b hht hc_35 (by omega))
          have hx2 : x = ((r.length + 1 + 1 : Nat) : Int) := by rw [hbs] at hx; exact hx
          have hP2 := hPL
          rw [hbs] at hP2
          refine zs_aload_n (j := 0) (i := 0) rfl rfl rfl ?_
          refine zs_getfield (f := 8) (k := 25) rfl rfl (trivial) ?_
          show ZVV _ _ _ _ _ (ZR 43 0 :: _) _
          refine zs_iload (i := 5) rfl rfl ?_
          refine zs_iconst (n := 1) rfl ⟨by omega, by omega⟩ ?_
          refine zs_isub_r rfl ⟨by omega, by omega⟩ ?_
          refine zs_iload (i := 7) rfl rfl ?_
          show ZVV _ _ _ 85 _ _ _
          refine zs_bipush (n := (-38)) rfl ⟨by omega, by omega⟩ ?_
          refine zs_icmp_ne 120 rfl (by omega) (fun hc_87 => ?_) (fun hc_87 => ?_)
          · skip
            refine zs_aload_n (j := 0) (i := 0) rfl rfl rfl ?_
            refine zs_getfield (f := 8) (k := 25) rfl rfl (trivial) ?_
            show ZVV _ _ _ _ _ (ZR 43 0 :: _) _
            refine zs_iload (i := 5) rfl rfl ?_
            refine zs_iconst (n := 1) rfl ⟨by omega, by omega⟩ ?_
            refine zs_isub_r rfl ⟨by omega, by omega⟩ ?_
            refine zs_zald (n := 100) rfl rfl (by omega) (by omega) ?_
            rw [show G 43 0 ((x + (-1)) - 1).toNat = if b1 = true then 1 else 0 from by rw [show (x + (-1) - 1).toNat = r.length by omega]; exact hP2.2.1]
            refine zs_if_ne 142 rfl (by omega) (fun hc_129 => ?_) (fun hc_129 => ?_)
            · refine zs_iconst (n := 1) rfl ⟨by omega, by omega⟩ ?_
              refine zs_goto 147 rfl (by omega) ?_
              refine zs_zast (n := 100) rfl rfl (by omega) (by omega) ((by decide)) ?_
              refine zs_goto 249 rfl (by omega) ?_
              refine zs_iinc_r (i := 6) rfl rfl (by intro r x hr; have hr2 : r = 5 := (by omega); subst hr2; intro z; cases z) ⟨by omega, by omega⟩ ?_
              show ZVV _ _ _ _ [ZR 8 0, ZI c, ZI p, ZI h, ZI f, ZI (x + (-1)), ZI ((k : Int) + 1), ZI (g 40 0 k), z8, z9] _ _
              refine zs_goto 11 rfl (by omega) ?_
              have hbb : (1 : Int) = if (b1 || b0) = true then 1 else 0 := by first | exact zo0 hc_129 | exact zo1 hc_129 hc_139 | exact zo2 hc_129 hc_139
              have he1 : mev1 (zfa p (g 32 0 p.toNat) (g 30 0 p.toNat) h f (g 8 0 3 % 60)) (g 40 0 k) bs = (b1 || b0) :: r := by unfold mev1; rw [if_neg hc_35, if_neg hc_87, if_pos (by omega), hbs]; rfl
              exact ih (k + 1) _ ((b1 || b0) :: r) _ _ _ _ (by intro y h; cases h) (by first | exact hz8 | (intro y h; cases h)) (by first | exact hz9 | (intro y h; cases h)) (by omega) (by show x + (-1) = ((r.length + 1 : Nat) : Int); omega) (by rw [hbs] at hl99; have hl99 : r.length + 1 + 1 ≤ 99 := hl99; show r.length + 1 ≤ 99; omega) (hz.up _ _) (PL.push (b := (b1 || b0)) (by omega) hbb hP2.2.2) (by have hh := hw2; rw [show mnx (g 40 0 k) bs.length = r.length + 1 from by unfold mnx; rw [if_neg hc_35, if_pos (by omega), hbs]; rfl] at hh; exact hh) (fun M hM => by have hh := hq M hM; rw [show mev (zfa p (g 32 0 p.toNat) (g 30 0 p.toNat) h f (g 8 0 3 % 60)) (g 40 0) (m + 1) k bs = mev (zfa p (g 32 0 p.toNat) (g 30 0 p.toNat) h f (g 8 0 3 % 60)) (g 40 0) m (k + 1) (mev1 (zfa p (g 32 0 p.toNat) (g 30 0 p.toNat) h f (g 8 0 3 % 60)) (g 40 0 k) bs) from rfl, he1] at hh; exact hh)
            · refine zs_aload_n (j := 0) (i := 0) rfl rfl rfl ?_
              refine zs_getfield (f := 8) (k := 25) rfl rfl (trivial) ?_
              show ZVV _ _ _ _ _ (ZR 43 0 :: _) _
              refine zs_iload (i := 5) rfl rfl ?_
              refine zs_zald (n := 100) rfl rfl (by omega) (by omega) ?_
              rw [show G 43 0 (x + (-1)).toNat = if b0 = true then 1 else 0 from by rw [show (x + (-1)).toNat = r.length + 1 by omega]; exact hP2.1]
              refine zs_if_eq 146 rfl (by omega) (fun hc_139 => ?_) (fun hc_139 => ?_)
              · refine zs_iconst (n := 0) rfl ⟨by omega, by omega⟩ ?_
                refine zs_zast (n := 100) rfl rfl (by omega) (by omega) ((by decide)) ?_
                refine zs_goto 249 rfl (by omega) ?_
                refine zs_iinc_r (i := 6) rfl rfl (by intro r x hr; have hr2 : r = 5 := (by omega); subst hr2; intro z; cases z) ⟨by omega, by omega⟩ ?_
                show ZVV _ _ _ _ [ZR 8 0, ZI c, ZI p, ZI h, ZI f, ZI (x + (-1)), ZI ((k : Int) + 1), ZI (g 40 0 k), z8, z9] _ _
                refine zs_goto 11 rfl (by omega) ?_
                have hbb : (0 : Int) = if (b1 || b0) = true then 1 else 0 := by first | exact zo0 hc_129 | exact zo1 hc_129 hc_139 | exact zo2 hc_129 hc_139
                have he1 : mev1 (zfa p (g 32 0 p.toNat) (g 30 0 p.toNat) h f (g 8 0 3 % 60)) (g 40 0 k) bs = (b1 || b0) :: r := by unfold mev1; rw [if_neg hc_35, if_neg hc_87, if_pos (by omega), hbs]; rfl
                exact ih (k + 1) _ ((b1 || b0) :: r) _ _ _ _ (by intro y h; cases h) (by first | exact hz8 | (intro y h; cases h)) (by first | exact hz9 | (intro y h; cases h)) (by omega) (by show x + (-1) = ((r.length + 1 : Nat) : Int); omega) (by rw [hbs] at hl99; have hl99 : r.length + 1 + 1 ≤ 99 := hl99; show r.length + 1 ≤ 99; omega) (hz.up _ _) (PL.push (b := (b1 || b0)) (by omega) hbb hP2.2.2) (by have hh := hw2; rw [show mnx (g 40 0 k) bs.length = r.length + 1 from by unfold mnx; rw [if_neg hc_35, if_pos (by omega), hbs]; rfl] at hh; exact hh) (fun M hM => by have hh := hq M hM; rw [show mev (zfa p (g 32 0 p.toNat) (g 30 0 p.toNat) h f (g 8 0 3 % 60)) (g 40 0) (m + 1) k bs = mev (zfa p (g 32 0 p.toNat) (g 30 0 p.toNat) h f (g 8 0 3 % 60)) (g 40 0) m (k + 1) (mev1 (zfa p (g 32 0 p.toNat) (g 30 0 p.toNat) h f (g 8 0 3 % 60)) (g 40 0 k) bs) from rfl, he1] at hh; exact hh)
              · refine zs_iconst (n := 1) rfl ⟨by omega, by omega⟩ ?_
                refine zs_goto 147 rfl (by omega) ?_
                refine zs_zast (n := 100) rfl rfl (by omega) (by omega) ((by decide)) ?_
                refine zs_goto 249 rfl (by omega) ?_
                refine zs_iinc_r (i := 6) rfl rfl (by intro r x hr; have hr2 : r = 5 := (by omega); subst hr2; intro z; cases z) ⟨by omega, by omega⟩ ?_
                show ZVV _ _ _ _ [ZR 8 0, ZI c, ZI p, ZI h, ZI f, ZI (x + (-1)), ZI ((k : Int) + 1), ZI (g 40 0 k), z8, z9] _ _
                refine zs_goto 11 rfl (by omega) ?_
                have hbb : (1 : Int) = if (b1 || b0) = true then 1 else 0 := by first | exact zo0 hc_129 | exact zo1 hc_129 hc_139 | exact zo2 hc_129 hc_139
                have he1 : mev1 (zfa p (g 32 0 p.toNat) (g 30 0 p.toNat) h f (g 8 0 3 % 60)) (g 40 0 k) bs = (b1 || b0) :: r := by unfold mev1; rw [if_neg hc_35, if_neg hc_87, if_pos (by omega), hbs]; rfl
                exact ih (k + 1) _ ((b1 || b0) :: r) _ _ _ _ (by intro y h; cases h) (by first | exact hz8 | (intro y h; cases h)) (by first | exact hz9 | (intro y h; cases h)) (by omega) (by show x + (-1) = ((r.length + 1 : Nat) : Int); omega) (by rw [hbs] at hl99; have hl99 : r.length + 1 + 1 ≤ 99 := hl99; show r.length + 1 ≤ 99; omega) (hz.up _ _) (PL.push (b := (b1 || b0)) (by omega) hbb hP2.2.2) (by have hh := hw2; rw [show mnx (g 40 0 k) bs.length = r.length + 1 from by unfold mnx; rw [if_neg hc_35, if_pos (by omega), hbs]; rfl] at hh; exact hh) (fun M hM => by have hh := hq M hM; rw [show mev (zfa p (g 32 0 p.toNat) (g 30 0 p.toNat) h f (g 8 0 3 % 60)) (g 40 0) (m + 1) k bs = mev (zfa p (g 32 0 p.toNat) (g 30 0 p.toNat) h f (g 8 0 3 % 60)) (g 40 0) m (k + 1) (mev1 (zfa p (g 32 0 p.toNat) (g 30 0 p.toNat) h f (g 8 0 3 % 60)) (g 40 0 k) bs) from rfl, he1] at hh; exact hh)
          · skip
            refine zs_aload_n (j := 0) (i := 0) rfl rfl rfl ?_
            refine zs_getfield (f := 8) (k := 25) rfl rfl (trivial) ?_
            show ZVV _ _ _ _ _ (ZR 43 0 :: _) _
            refine zs_iload (i := 5) rfl rfl ?_
            refine zs_iconst (n := 1) rfl ⟨by omega, by omega⟩ ?_
            refine zs_isub_r rfl ⟨by omega, by omega⟩ ?_
            refine zs_zald (n := 100) rfl rfl (by omega) (by omega) ?_
            rw [show G 43 0 ((x + (-1)) - 1).toNat = if b1 = true then 1 else 0 from by rw [show (x + (-1) - 1).toNat = r.length by omega]; exact hP2.2.1]
            refine zs_if_eq 116 rfl (by omega) (fun hc_99 => ?_) (fun hc_99 => ?_)
            · refine zs_iconst (n := 0) rfl ⟨by omega, by omega⟩ ?_
              refine zs_goto 147 rfl (by omega) ?_
              refine zs_zast (n := 100) rfl rfl (by omega) (by omega) ((by decide)) ?_
              refine zs_goto 249 rfl (by omega) ?_
              refine zs_iinc_r (i := 6) rfl rfl (by intro r x hr; have hr2 : r = 5 := (by omega); subst hr2; intro z; cases z) ⟨by omega, by omega⟩ ?_
              show ZVV _ _ _ _ [ZR 8 0, ZI c, ZI p, ZI h, ZI f, ZI (x + (-1)), ZI ((k : Int) + 1), ZI (g 40 0 k), z8, z9] _ _
              refine zs_goto 11 rfl (by omega) ?_
              have hbb : (0 : Int) = if (b1 && b0) = true then 1 else 0 := by first | exact za0 hc_99 | exact za1 hc_99 hc_109 | exact za2 hc_99 hc_109
              have he1 : mev1 (zfa p (g 32 0 p.toNat) (g 30 0 p.toNat) h f (g 8 0 3 % 60)) (g 40 0 k) bs = (b1 && b0) :: r := by unfold mev1; rw [if_neg hc_35, if_pos (Classical.not_not.mp hc_87), hbs]; rfl
              exact ih (k + 1) _ ((b1 && b0) :: r) _ _ _ _ (by intro y h; cases h) (by first | exact hz8 | (intro y h; cases h)) (by first | exact hz9 | (intro y h; cases h)) (by omega) (by show x + (-1) = ((r.length + 1 : Nat) : Int); omega) (by rw [hbs] at hl99; have hl99 : r.length + 1 + 1 ≤ 99 := hl99; show r.length + 1 ≤ 99; omega) (hz.up _ _) (PL.push (b := (b1 && b0)) (by omega) hbb hP2.2.2) (by have hh := hw2; rw [show mnx (g 40 0 k) bs.length = r.length + 1 from by unfold mnx; rw [if_neg hc_35, if_pos (by omega), hbs]; rfl] at hh; exact hh) (fun M hM => by have hh := hq M hM; rw [show mev (zfa p (g 32 0 p.toNat) (g 30 0 p.toNat) h f (g 8 0 3 % 60)) (g 40 0) (m + 1) k bs = mev (zfa p (g 32 0 p.toNat) (g 30 0 p.toNat) h f (g 8 0 3 % 60)) (g 40 0) m (k + 1) (mev1 (zfa p (g 32 0 p.toNat) (g 30 0 p.toNat) h f (g 8 0 3 % 60)) (g 40 0 k) bs) from rfl, he1] at hh; exact hh)
            · refine zs_aload_n (j := 0) (i := 0) rfl rfl rfl ?_
              refine zs_getfield (f := 8) (k := 25) rfl rfl (trivial) ?_
              show ZVV _ _ _ _ _ (ZR 43 0 :: _) _
              refine zs_iload (i := 5) rfl rfl ?_
              refine zs_zald (n := 100) rfl rfl (by omega) (by omega) ?_
              rw [show G 43 0 (x + (-1)).toNat = if b0 = true then 1 else 0 from by rw [show (x + (-1)).toNat = r.length + 1 by omega]; exact hP2.1]
              refine zs_if_eq 116 rfl (by omega) (fun hc_109 => ?_) (fun hc_109 => ?_)
              · refine zs_iconst (n := 0) rfl ⟨by omega, by omega⟩ ?_
                refine zs_goto 147 rfl (by omega) ?_
                refine zs_zast (n := 100) rfl rfl (by omega) (by omega) ((by decide)) ?_
                refine zs_goto 249 rfl (by omega) ?_
                refine zs_iinc_r (i := 6) rfl rfl (by intro r x hr; have hr2 : r = 5 := (by omega); subst hr2; intro z; cases z) ⟨by omega, by omega⟩ ?_
                show ZVV _ _ _ _ [ZR 8 0, ZI c, ZI p, ZI h, ZI f, ZI (x + (-1)), ZI ((k : Int) + 1), ZI (g 40 0 k), z8, z9] _ _
                refine zs_goto 11 rfl (by omega) ?_
                have hbb : (0 : Int) = if (b1 && b0) = true then 1 else 0 := by first | exact za0 hc_99 | exact za1 hc_99 hc_109 | exact za2 hc_99 hc_109
                have he1 : mev1 (zfa p (g 32 0 p.toNat) (g 30 0 p.toNat) h f (g 8 0 3 % 60)) (g 40 0 k) bs = (b1 && b0) :: r := by unfold mev1; rw [if_neg hc_35, if_pos (Classical.not_not.mp hc_87), hbs]; rfl
                exact ih (k + 1) _ ((b1 && b0) :: r) _ _ _ _ (by intro y h; cases h) (by first | exact hz8 | (intro y h; cases h)) (by first | exact hz9 | (intro y h; cases h)) (by omega) (by show x + (-1) = ((r.length + 1 : Nat) : Int); omega) (by rw [hbs] at hl99; have hl99 : r.length + 1 + 1 ≤ 99 := hl99; show r.length + 1 ≤ 99; omega) (hz.up _ _) (PL.push (b := (b1 && b0)) (by omega) hbb hP2.2.2) (by have hh := hw2; rw [show mnx (g 40 0 k) bs.length = r.length + 1 from by unfold mnx; rw [if_neg hc_35, if_pos (by omega), hbs]; rfl] at hh; exact hh) (fun M hM => by have hh := hq M hM; rw [show mev (zfa p (g 32 0 p.toNat) (g 30 0 p.toNat) h f (g 8 0 3 % 60)) (g 40 0) (m + 1) k bs = mev (zfa p (g 32 0 p.toNat) (g 30 0 p.toNat) h f (g 8 0 3 % 60)) (g 40 0) m (k + 1) (mev1 (zfa p (g 32 0 p.toNat) (g 30 0 p.toNat) h f (g 8 0 3 % 60)) (g 40 0 k) bs) from rfl, he1] at hh; exact hh)
              · refine zs_iconst (n := 1) rfl ⟨by omega, by omega⟩ ?_
                refine zs_goto 147 rfl (by omega) ?_
                refine zs_zast (n := 100) rfl rfl (by omega) (by omega) ((by decide)) ?_
                refine zs_goto 249 rfl (by omega) ?_
                refine zs_iinc_r (i := 6) rfl rfl (by intro r x hr; have hr2 : r = 5 := (by omega); subst hr2; intro z; cases z) ⟨by omega, by omega⟩ ?_
                show ZVV _ _ _ _ [ZR 8 0, ZI c, ZI p, ZI h, ZI f, ZI (x + (-1)), ZI ((k : Int) + 1), ZI (g 40 0 k), z8, z9] _ _
                refine zs_goto 11 rfl (by omega) ?_
                have hbb : (1 : Int) = if (b1 && b0) = true then 1 else 0 := by first | exact za0 hc_99 | exact za1 hc_99 hc_109 | exact za2 hc_99 hc_109
                have he1 : mev1 (zfa p (g 32 0 p.toNat) (g 30 0 p.toNat) h f (g 8 0 3 % 60)) (g 40 0 k) bs = (b1 && b0) :: r := by unfold mev1; rw [if_neg hc_35, if_pos (Classical.not_not.mp hc_87), hbs]; rfl
                exact ih (k + 1) _ ((b1 && b0) :: r) _ _ _ _ (by intro y h; cases h) (by first | exact hz8 | (intro y h; cases h)) (by first | exact hz9 | (intro y h; cases h)) (by omega) (by show x + (-1) = ((r.length + 1 : Nat) : Int); omega) (by rw [hbs] at hl99; have hl99 : r.length + 1 + 1 ≤ 99 := hl99; show r.length + 1 ≤ 99; omega) (hz.up _ _) (PL.push (b := (b1 && b0)) (by omega) hbb hP2.2.2) (by have hh := hw2; rw [show mnx (g 40 0 k) bs.length = r.length + 1 from by unfold mnx; rw [if_neg hc_35, if_pos (by omega), hbs]; rfl] at hh; exact hh) (fun M hM => by have hh := hq M hM; rw [show mev (zfa p (g 32 0 p.toNat) (g 30 0 p.toNat) h f (g 8 0 3 % 60)) (g 40 0) (m + 1) k bs = mev (zfa p (g 32 0 p.toNat) (g 30 0 p.toNat) h f (g 8 0 3 % 60)) (g 40 0) m (k + 1) (mev1 (zfa p (g 32 0 p.toNat) (g 30 0 p.toNat) h f (g 8 0 3 % 60)) (g 40 0 k) bs) from rfl, he1] at hh; exact hh)
      · obtain ⟨b0, r, hbs⟩ := lcons (mht_n hht (Classical.not_not.mp hc_35))
        have hx9 : x = ((r.length + 1 : Nat) : Int) := by rw [hbs] at hx; exact hx
        have hl9 : r.length + 1 ≤ 99 := by rw [hbs] at hl99; exact hl99
        refine zs_aload_n (j := 0) (i := 0) rfl rfl rfl ?_
        refine zs_getfield (f := 8) (k := 25) rfl rfl (trivial) ?_
        show ZVV _ _ _ _ _ (ZR 43 0 :: _) _
        refine zs_iload (i := 5) rfl rfl ?_
        refine zs_iconst (n := 1) rfl ⟨by omega, by omega⟩ ?_
        refine zs_isub_r rfl ⟨by have := mht_n hht (Classical.not_not.mp hc_35); omega, by have := mht_n hht (Classical.not_not.mp hc_35); omega⟩ ?_
        refine zs_aload_n (j := 0) (i := 0) rfl rfl rfl ?_
        refine zs_getfield (f := 8) (k := 25) rfl rfl (trivial) ?_
        show ZVV _ _ _ _ _ (ZR 43 0 :: _) _
        show ZVV _ _ _ 50 _ _ _
        refine zs_iload (i := 5) rfl rfl ?_
        refine zs_iconst (n := 1) rfl ⟨by omega, by omega⟩ ?_
        refine zs_isub_r rfl ⟨by omega, by omega⟩ ?_
        refine zs_zald (n := 100) rfl rfl (by omega) (by omega) ?_
        rw [show G 43 0 (x - 1).toNat = if b0 = true then 1 else 0 from by rw [show (x - 1).toNat = r.length by rw [hbs] at hx; have hx : x = ((r.length + 1 : Nat) : Int) := hx; omega]; rw [hbs] at hPL; exact hPL.1]
        refine zs_if_ne 62 rfl (by omega) (fun hc_55 => ?_) (fun hc_55 => ?_)
        · refine zs_iconst (n := 0) rfl ⟨by omega, by omega⟩ ?_
          refine zs_zast (n := 100) rfl rfl (by omega) (by omega) ((by decide)) ?_
          refine zs_goto 249 rfl (by omega) ?_
          refine zs_iinc_r (i := 6) rfl rfl (by intro r x hr; have hr2 : r = 5 := (by omega); subst hr2; intro z; cases z) ⟨by omega, by omega⟩ ?_
          show ZVV _ _ _ _ [ZR 8 0, ZI c, ZI p, ZI h, ZI f, ZI x, ZI ((k : Int) + 1), ZI (g 40 0 k), z8, z9] _ _
          refine zs_goto 11 rfl (by omega) ?_
          have hbb : (0 : Int) = if (!b0) = true then 1 else 0 := by first | exact zn1 hc_55 | exact zn0 hc_55
          have he1 : mev1 (zfa p (g 32 0 p.toNat) (g 30 0 p.toNat) h f (g 8 0 3 % 60)) (g 40 0 k) bs = (!b0) :: r := by unfold mev1; rw [if_pos (Classical.not_not.mp hc_35), hbs]; rfl
          exact ih (k + 1) _ ((!b0) :: r) _ _ _ _ (by intro y h; cases h) (by first | exact hz8 | (intro y h; cases h)) (by first | exact hz9 | (intro y h; cases h)) (by omega) (by rw [hbs] at hx; exact hx) (by rw [hbs] at hl99; exact hl99) (hz.up _ _) (by rw [hbs] at hPL hx; exact PL.push (b := !b0) (by have hx : x = ((r.length + 1 : Nat) : Int) := hx; omega) hbb hPL.2) (by have hh := hw2; rw [show mnx (g 40 0 k) bs.length = r.length + 1 from by unfold mnx; rw [if_pos (Classical.not_not.mp hc_35), hbs]; rfl] at hh; exact hh) (fun M hM => by have hh := hq M hM; rw [show mev (zfa p (g 32 0 p.toNat) (g 30 0 p.toNat) h f (g 8 0 3 % 60)) (g 40 0) (m + 1) k bs = mev (zfa p (g 32 0 p.toNat) (g 30 0 p.toNat) h f (g 8 0 3 % 60)) (g 40 0) m (k + 1) (mev1 (zfa p (g 32 0 p.toNat) (g 30 0 p.toNat) h f (g 8 0 3 % 60)) (g 40 0 k) bs) from rfl, he1] at hh; exact hh)
        · refine zs_iconst (n := 1) rfl ⟨by omega, by omega⟩ ?_
          refine zs_goto 63 rfl (by omega) ?_
          refine zs_zast (n := 100) rfl rfl (by omega) (by omega) ((by decide)) ?_
          refine zs_goto 249 rfl (by omega) ?_
          refine zs_iinc_r (i := 6) rfl rfl (by intro r x hr; have hr2 : r = 5 := (by omega); subst hr2; intro z; cases z) ⟨by omega, by omega⟩ ?_
          show ZVV _ _ _ _ [ZR 8 0, ZI c, ZI p, ZI h, ZI f, ZI x, ZI ((k : Int) + 1), ZI (g 40 0 k), z8, z9] _ _
          refine zs_goto 11 rfl (by omega) ?_
          have hbb : (1 : Int) = if (!b0) = true then 1 else 0 := by first | exact zn1 hc_55 | exact zn0 hc_55
          have he1 : mev1 (zfa p (g 32 0 p.toNat) (g 30 0 p.toNat) h f (g 8 0 3 % 60)) (g 40 0 k) bs = (!b0) :: r := by unfold mev1; rw [if_pos (Classical.not_not.mp hc_35), hbs]; rfl
          exact ih (k + 1) _ ((!b0) :: r) _ _ _ _ (by intro y h; cases h) (by first | exact hz8 | (intro y h; cases h)) (by first | exact hz9 | (intro y h; cases h)) (by omega) (by rw [hbs] at hx; exact hx) (by rw [hbs] at hl99; exact hl99) (hz.up _ _) (by rw [hbs] at hPL hx; exact PL.push (b := !b0) (by have hx : x = ((r.length + 1 : Nat) : Int) := hx; omega) hbb hPL.2) (by have hh := hw2; rw [show mnx (g 40 0 k) bs.length = r.length + 1 from by unfold mnx; rw [if_pos (Classical.not_not.mp hc_35), hbs]; rfl] at hh; exact hh) (fun M hM => by have hh := hq M hM; rw [show mev (zfa p (g 32 0 p.toNat) (g 30 0 p.toNat) h f (g 8 0 3 % 60)) (g 40 0) (m + 1) k bs = mev (zfa p (g 32 0 p.toNat) (g 30 0 p.toNat) h f (g 8 0 3 % 60)) (g 40 0) m (k + 1) (mev1 (zfa p (g 32 0 p.toNat) (g 30 0 p.toNat) h f (g 8 0 3 % 60)) (g 40 0 k) bs) from rfl, he1] at hh; exact hh)
def mSo (g : ZG) (fa : Nat → Int) (c : Nat) : Bool := (mev fa (g 40 0) (g 39 0 c - g 38 0 c).toNat (g 38 0 c).toNat []).headD false
theorem c_X8_isSo (c p h f : Int) : ZC mX8_isSo 2 (fun av g => av = [ZR 8 0, ZI c, ZI p, ZI h, ZI f] ∧ (0 ≤ p ∧ p < 6) ∧ 0 ≤ g 8 0 3 ∧ (0 ≤ c ∧ c < 60) ∧ (0 ≤ g 38 0 c.toNat ∧ g 38 0 c.toNat ≤ g 39 0 c.toNat ∧ g 39 0 c.toNat ≤ 600) ∧ mwf (g 40 0) (g 39 0 c.toNat - g 38 0 c.toNat).toNat (g 38 0 c.toNat).toNat 0) (fun _ g r g' => r = some (ZI (if mSo g (zfa p (g 32 0 p.toNat) (g 30 0 p.toNat) h f (g 8 0 3 % 60)) c.toNat = true then 1 else 0)) ∧ zP g g') := by
  refine zc_of gX8_isSo (fun av g hp => by obtain ⟨rfl, -⟩ := hp; exact Nat.le_of_ble_eq_true rfl) (fun Y av g hwf hrg hp hok => ?_)
  obtain ⟨rfl, hp⟩ := hp
  show ZVV _ _ _ 0 [ZR 8 0, ZI c, ZI p, ZI h, ZI f, ZX 99, ZX 99, ZX 99, ZX 99, ZX 99] [] _
  obtain ⟨hpp, hgn, hc0, hft, hw⟩ := hp
  refine zs_iconst (n := 0) rfl ⟨by omega, by omega⟩ ?_
  refine zs_istore (i := 5) rfl (by decide) (by intro r x hr; have hr2 : r = 4 := (by omega); subst hr2; intro z; cases z) ?_
  show ZVV _ _ _ _ [ZR 8 0, ZI c, ZI p, ZI h, ZI f, ZI 0, ZX 99, ZX 99, ZX 99, ZX 99] _ _
  refine zs_aload_n (j := 0) (i := 0) rfl rfl rfl ?_
  refine zs_getfield (f := 8) (k := 17) rfl rfl (trivial) ?_
  show ZVV _ _ _ _ _ (ZR 38 0 :: _) _
  refine zs_iload_n (j := 1) (i := 1) rfl rfl rfl ?_
  refine zs_iald (n := 60) rfl rfl (by omega) (by omega) ?_
  refine zs_istore (i := 6) rfl (by decide) (by intro r x hr; have hr2 : r = 5 := (by omega); subst hr2; intro z; cases z) ?_
  show ZVV _ _ _ _ [ZR 8 0, ZI c, ZI p, ZI h, ZI f, ZI 0, ZI (g 38 0 c.toNat), ZX 99, ZX 99, ZX 99] _ _
  rw [show g 38 0 c.toNat = (((g 38 0 c.toNat).toNat : Nat) : Int) by omega]
  exact l_X8_isSo hpp hgn hc0 hft.2.2 (g 39 0 c.toNat - g 38 0 c.toNat).toNat (g 38 0 c.toNat).toNat 0 [] _ _ _ g (by intro y h; cases h) (by intro y h; cases h) (by intro y h; cases h) (by omega) rfl (by decide) (zP.rf g) trivial hw (fun M hM => ⟨rfl, hM⟩)

