theorem zliv_t {n sh : Int} {ho : Nat → Int} {q : Nat} {h : Int} (h0 : 0 ≤ ho q) (h1 : nx n sh h (ho q) = true) : zliv n sh ho q h = true := by unfold zliv; rw [decide_eq_true h0, h1]; rfl
theorem zliv_f {n sh : Int} {ho : Nat → Int} {q : Nat} {h : Int} (k : zliv n sh ho q h = true) : 0 ≤ ho q ∧ nx n sh h (ho q) = true := by
  unfold zliv at k
  rw [Bool.and_eq_true] at k
  exact ⟨of_decide_eq_true k.1, k.2⟩
theorem mulb {a b A B : Int} (h1 : 0 ≤ a ∧ a ≤ A) (h2 : 0 ≤ b ∧ b ≤ B) : 0 ≤ a * b ∧ a * b ≤ A * B := ⟨Int.mul_nonneg h1.1 h2.1, Int.mul_le_mul h1.2 h2.2 h2.1 (Int.le_trans h1.1 h1.2)⟩
theorem mMin_r {g : ZG} (fa : Nat → Int) : ∀ (n k : Nat) (a : Int), (∀ c : Nat, k ≤ c → c < k + n → 0 ≤ g 37 0 c) → 0 ≤ a → 0 ≤ mMin g fa n k a ∧ mMin g fa n k a ≤ a := by
  intro n
  induction n with
  | zero => intro k a _ h; exact ⟨h, Int.le_refl _⟩
  | succ n ih =>
    intro k a hc h
    have h0 := hc k (Nat.le_refl _) (by omega)
    by_cases hb : g 36 0 k = 1 ∧ g 37 0 k < a ∧ mSo g fa k = true
    · have := ih (k + 1) (g 37 0 k) (fun c h1 h2 => hc c (by omega) (by omega)) h0
      unfold mMin
      rw [if_pos hb]
      have := hb.2.1
      omega
    · have := ih (k + 1) a (fun c h1 h2 => hc c (by omega) (by omega)) h
      unfold mMin
      rw [if_neg hb]
      exact this
theorem mW_r {g : ZG} (h : MCL g) {p s k hh f m : Int} : (0 ≤ (mW g p s k hh f m).1 ∧ (mW g p s k hh f m).1 ≤ 100) ∧ (0 ≤ (mW g p s k hh f m).2.1 ∧ (mW g p s k hh f m).2.1 ≤ 100) ∧ (0 ≤ (mW g p s k hh f m).2.2 ∧ (mW g p s k hh f m).2.2 ≤ 990) := by
  refine ⟨?_, ?_, mWs_r h⟩
  · show 0 ≤ mWw g (zfa p s k hh f m) ∧ mWw g (zfa p s k hh f m) ≤ 100
    have := mWs_r h (w := 0) (fa := zfa p s k hh f m)
    unfold mWw
    split <;> split <;> (try split) <;> omega
  · have hr := h.rng
    exact mMin_r _ _ _ 100 (fun c h1 h2 => (h.2.2 c (by omega) (by omega)).2.1.1) (by decide)
theorem mT_wt (g : ZG) {p : Int} (hp : 0 ≤ p) (h : Int) : mW g p (g 32 0 p.toNat) (g 30 0 p.toNat) h (tBes (mT g) p.toNat h) (g 8 0 3 % 60) = tWt (mT g) p.toNat h := by
  show _ = mW g ((p.toNat : Nat) : Int) _ _ _ _ _
  rw [Int.toNat_of_nonneg hp]
  rfl
theorem l_X8_beside0 {Y : ZW} {Q : Option ZV → ZG → Prop} {g : ZG} {p h : Int} (hm : MOK g) (hpp : 0 ≤ p ∧ p < 6) (hh0 : 0 ≤ h ∧ h < 9) : ∀ (m k : Nat) (s : Int), (k : Int) + m = g 8 0 2 → (0 ≤ s ∧ s ≤ k) → Q (some (ZI (s + zsum (fun q => if q ≠ p.toNat ∧ zliv (g 8 0 0) (g 8 0 1) (g 33 0) q h = true then 1 else 0) m k))) g → ZVV Y mX8_beside (zcx Y 3 Q) 6 [ZR 8 0, ZI p, ZI h, ZI 0, ZI s, ZI (k : Int)] [] g := by
  have hn8 := hm.1
  have hn6 := hm.2.2.1
  intro m
  induction m with
  | zero =>
    intro k s hk hs hq
    refine zs_iload (i := 5) rfl rfl ?_
    refine zs_aload_n (j := 0) (i := 0) rfl rfl rfl ?_
    refine zs_getfield (f := 8) (k := 2) rfl rfl (trivial) ?_
    show ZVV _ _ _ _ _ (ZI (g 8 0 2) :: _) _
    refine zs_icmp_ge 82 rfl (by omega) (fun hc_12 => ?_) (fun hc_12 => ?_)
    · refine zs_iload (i := 4) rfl rfl ?_
      exact zs_ireturn rfl rfl (by have hh := hq; rw [show zsum (fun q => if q ≠ p.toNat ∧ zliv (g 8 0 0) (g 8 0 1) (g 33 0) q h = true then 1 else 0) 0 k = 0 from rfl, Int.add_zero] at hh; exact hh)
    · exfalso; omega
  | succ m ih =>
    intro k s hk hs hq
    refine zs_iload (i := 5) rfl rfl ?_
    refine zs_aload_n (j := 0) (i := 0) rfl rfl rfl ?_
    refine zs_getfield (f := 8) (k := 2) rfl rfl (trivial) ?_
    show ZVV _ _ _ _ _ (ZI (g 8 0 2) :: _) _
    refine zs_icmp_ge 82 rfl (by omega) (fun hc_12 => ?_) (fun hc_12 => ?_)
    · exfalso; omega
    · refine zs_iload (i := 4) rfl rfl ?_
      refine zs_iload (i := 5) rfl rfl ?_
      refine zs_iload_n (j := 1) (i := 1) rfl rfl rfl ?_
      refine zs_icmp_eq 72 rfl (by omega) (fun hc_20 => ?_) (fun hc_20 => ?_)
      · refine zs_iconst (n := 0) rfl ⟨by omega, by omega⟩ ?_
        refine zs_iadd_r rfl ⟨by omega, by omega⟩ ?_
        refine zs_istore (i := 4) rfl (by decide) (by intro r x hr; have hr2 : r = 3 := (by omega); subst hr2; intro z; cases z) ?_
        show ZVV _ _ _ _ [ZR 8 0, ZI p, ZI h, ZI 0, ZI (s + 0), ZI (k : Int)] _ _
        refine zs_iinc_r (i := 5) rfl rfl (by intro r x hr; have hr2 : r = 4 := (by omega); subst hr2; intro z; cases z) ⟨by omega, by omega⟩ ?_
        show ZVV _ _ _ _ [ZR 8 0, ZI p, ZI h, ZI 0, ZI (s + 0), ZI ((k : Int) + 1)] _ _
        refine zs_goto 6 rfl (by omega) ?_
        have he : (fun q => if q ≠ p.toNat ∧ zliv (g 8 0 0) (g 8 0 1) (g 33 0) q h = true then 1 else 0) k = (0 : Int) := if_neg (fun z => by first | exact z.1 (by omega) | (have := (zliv_f z.2).1; omega) | exact zif0 hc_45 (zliv_f z.2).2 | exact hc_65 z.2)
        refine ih (k + 1) (s + 0) (by omega) ⟨by omega, by omega⟩ ?_
        have hh := hq
        rw [zsum_v he] at hh
        exact hh
      · have hpk := (hm.2.2.2.2.2.2 k (by omega)).1
        refine zs_aload_n (j := 0) (i := 0) rfl rfl rfl ?_
        refine zs_getfield (f := 8) (k := 7) rfl rfl (trivial) ?_
        show ZVV _ _ _ _ _ (ZR 33 0 :: _) _
        refine zs_iload (i := 5) rfl rfl ?_
        refine zs_iald (n := 6) rfl rfl (by omega) (by omega) ?_
        show ZVV _ _ _ _ _ (ZI (g 33 0 k) :: _) _
        refine zs_if_lt 72 rfl (by omega) (fun hc_30 => ?_) (fun hc_30 => ?_)
        · refine zs_iconst (n := 0) rfl ⟨by omega, by omega⟩ ?_
          refine zs_iadd_r rfl ⟨by omega, by omega⟩ ?_
          refine zs_istore (i := 4) rfl (by decide) (by intro r x hr; have hr2 : r = 3 := (by omega); subst hr2; intro z; cases z) ?_
          show ZVV _ _ _ _ [ZR 8 0, ZI p, ZI h, ZI 0, ZI (s + 0), ZI (k : Int)] _ _
          refine zs_iinc_r (i := 5) rfl rfl (by intro r x hr; have hr2 : r = 4 := (by omega); subst hr2; intro z; cases z) ⟨by omega, by omega⟩ ?_
          show ZVV _ _ _ _ [ZR 8 0, ZI p, ZI h, ZI 0, ZI (s + 0), ZI ((k : Int) + 1)] _ _
          refine zs_goto 6 rfl (by omega) ?_
          have he : (fun q => if q ≠ p.toNat ∧ zliv (g 8 0 0) (g 8 0 1) (g 33 0) q h = true then 1 else 0) k = (0 : Int) := if_neg (fun z => by first | exact z.1 (by omega) | (have := (zliv_f z.2).1; omega) | exact zif0 hc_45 (zliv_f z.2).2 | exact hc_65 z.2)
          refine ih (k + 1) (s + 0) (by omega) ⟨by omega, by omega⟩ ?_
          have hh := hq
          rw [zsum_v he] at hh
          exact hh
        · refine zs_aload_n (j := 0) (i := 0) rfl rfl rfl ?_
          refine zs_iload_n (j := 2) (i := 2) rfl rfl rfl ?_
          refine zs_aload_n (j := 0) (i := 0) rfl rfl rfl ?_
          refine zs_getfield (f := 8) (k := 7) rfl rfl (trivial) ?_
          show ZVV _ _ _ _ _ (ZR 33 0 :: _) _
          refine zs_iload (i := 5) rfl rfl ?_
          refine zs_iald (n := 6) rfl rfl (by omega) (by omega) ?_
          show ZVV _ _ _ _ _ (ZI (g 33 0 k) :: _) _
          refine zs_callV (host := "") rfl kX8_178 vX8_areNext (c_X8_areNext h (g 33 0 k)) [ZI h, ZI (g 33 0 k)] [ZI s] rfl (zroom_of (by omega)) rfl (Nat.le_of_ble_eq_true rfl) (⟨rfl, by omega, by omega, by omega⟩) (fun r_42 g_42 hq_42 => ?_)
          obtain ⟨hr_42, hg_42⟩ := hq_42
          rw [hr_42, hg_42]
          show ZVV _ _ _ 45 _ [ZI (if nx (g 8 0 0) (g 8 0 1) h (g 33 0 k) = true then 1 else 0), ZI s] _
          show ZVV _ _ _ 45 _ _ _
          refine zs_if_eq 72 rfl (by omega) (fun hc_45 => ?_) (fun hc_45 => ?_)
          · refine zs_iconst (n := 0) rfl ⟨by omega, by omega⟩ ?_
            refine zs_iadd_r rfl ⟨by omega, by omega⟩ ?_
            refine zs_istore (i := 4) rfl (by decide) (by intro r x hr; have hr2 : r = 3 := (by omega); subst hr2; intro z; cases z) ?_
            show ZVV _ _ _ _ [ZR 8 0, ZI p, ZI h, ZI 0, ZI (s + 0), ZI (k : Int)] _ _
            refine zs_iinc_r (i := 5) rfl rfl (by intro r x hr; have hr2 : r = 4 := (by omega); subst hr2; intro z; cases z) ⟨by omega, by omega⟩ ?_
            show ZVV _ _ _ _ [ZR 8 0, ZI p, ZI h, ZI 0, ZI (s + 0), ZI ((k : Int) + 1)] _ _
            refine zs_goto 6 rfl (by omega) ?_
            have he : (fun q => if q ≠ p.toNat ∧ zliv (g 8 0 0) (g 8 0 1) (g 33 0) q h = true then 1 else 0) k = (0 : Int) := if_neg (fun z => by first | exact z.1 (by omega) | (have := (zliv_f z.2).1; omega) | exact zif0 hc_45 (zliv_f z.2).2 | exact hc_65 z.2)
            refine ih (k + 1) (s + 0) (by omega) ⟨by omega, by omega⟩ ?_
            have hh := hq
            rw [zsum_v he] at hh
            exact hh
          · refine zs_iload_n (j := 3) (i := 3) rfl rfl rfl ?_
            refine zs_if_eq 68 rfl (by omega) (fun hc_49 => ?_) (fun hc_49 => ?_)
            · refine zs_iconst (n := 1) rfl ⟨by omega, by omega⟩ ?_
              refine zs_goto 73 rfl (by omega) ?_
              refine zs_iadd_r rfl ⟨by omega, by omega⟩ ?_
              refine zs_istore (i := 4) rfl (by decide) (by intro r x hr; have hr2 : r = 3 := (by omega); subst hr2; intro z; cases z) ?_
              show ZVV _ _ _ _ [ZR 8 0, ZI p, ZI h, ZI 0, ZI (s + 1), ZI (k : Int)] _ _
              refine zs_iinc_r (i := 5) rfl rfl (by intro r x hr; have hr2 : r = 4 := (by omega); subst hr2; intro z; cases z) ⟨by omega, by omega⟩ ?_
              show ZVV _ _ _ _ [ZR 8 0, ZI p, ZI h, ZI 0, ZI (s + 1), ZI ((k : Int) + 1)] _ _
              refine zs_goto 6 rfl (by omega) ?_
              have he : (fun q => if q ≠ p.toNat ∧ zliv (g 8 0 0) (g 8 0 1) (g 33 0) q h = true then 1 else 0) k = (1 : Int) := if_pos ⟨by omega, zliv_t (by omega) (zif1 hc_45)⟩
              refine ih (k + 1) (s + 1) (by omega) ⟨by omega, by omega⟩ ?_
              have hh := hq
              rw [zsum_v he] at hh
              exact hh
            · exfalso; omega
theorem c_X8_beside0 (p h : Int) : ZC mX8_beside 3 (fun av g => av = [ZR 8 0, ZI p, ZI h, ZI 0] ∧ MOK g ∧ (0 ≤ p ∧ p < 6) ∧ (0 ≤ h ∧ h < 9)) (fun _ g r g' => r = some (ZI (tBes (mT g) p.toNat h)) ∧ g' = g) := by
  refine zc_of gX8_beside (fun av g hp => by obtain ⟨rfl, -⟩ := hp; exact Nat.le_of_ble_eq_true rfl) (fun Y av g hwf hrg hp hok => ?_)
  obtain ⟨rfl, hp⟩ := hp
  show ZVV _ _ _ 0 [ZR 8 0, ZI p, ZI h, ZI 0, ZX 99, ZX 99] [] _
  obtain ⟨hm, hpp, hh0⟩ := hp
  have hn6 := hm.2.2.1
  refine zs_iconst (n := 0) rfl ⟨by omega, by omega⟩ ?_
  refine zs_istore (i := 4) rfl (by decide) (by intro r x hr; have hr2 : r = 3 := (by omega); subst hr2; intro z; cases z) ?_
  show ZVV _ _ _ _ [ZR 8 0, ZI p, ZI h, ZI 0, ZI 0, ZX 99] _ _
  refine zs_iconst (n := 0) rfl ⟨by omega, by omega⟩ ?_
  refine zs_istore (i := 5) rfl (by decide) (by intro r x hr; have hr2 : r = 4 := (by omega); subst hr2; intro z; cases z) ?_
  show ZVV _ _ _ _ [ZR 8 0, ZI p, ZI h, ZI 0, ZI 0, ZI 0] _ _
  refine l_X8_beside0 hm hpp hh0 (g 8 0 2).toNat 0 0 (by omega) ⟨by omega, by omega⟩ ⟨?_, rfl⟩
  rw [Int.zero_add]
  rfl

theorem l_X8_beside1 {Y : ZW} {Q : Option ZV → ZG → Prop} {g : ZG} {p h : Int} (hm : MOK g) (hpp : 0 ≤ p ∧ p < 6) (hh0 : 0 ≤ h ∧ h < 9) : ∀ (m k : Nat) (s : Int), (k : Int) + m = g 8 0 2 → (0 ≤ s ∧ s ≤ k) → Q (some (ZI (s + zsum (fun q => if (q ≠ p.toNat ∧ zliv (g 8 0 0) (g 8 0 1) (g 33 0) q h = true) ∧ g 32 0 q = g 32 0 p.toNat then 1 else 0) m k))) g → ZVV Y mX8_beside (zcx Y 3 Q) 6 [ZR 8 0, ZI p, ZI h, ZI 1, ZI s, ZI (k : Int)] [] g := by
  have hn8 := hm.1
  have hn6 := hm.2.2.1
  intro m
  induction m with
  | zero =>
    intro k s hk hs hq
    refine zs_iload (i := 5) rfl rfl ?_
    refine zs_aload_n (j := 0) (i := 0) rfl rfl rfl ?_
    refine zs_getfield (f := 8) (k := 2) rfl rfl (trivial) ?_
    show ZVV _ _ _ _ _ (ZI (g 8 0 2) :: _) _
    refine zs_icmp_ge 82 rfl (by omega) (fun hc_12 => ?_) (fun hc_12 => ?_)
    · refine zs_iload (i := 4) rfl rfl ?_
      exact zs_ireturn rfl rfl (by have hh := hq; rw [show zsum (fun q => if (q ≠ p.toNat ∧ zliv (g 8 0 0) (g 8 0 1) (g 33 0) q h = true) ∧ g 32 0 q = g 32 0 p.toNat then 1 else 0) 0 k = 0 from rfl, Int.add_zero] at hh; exact hh)
    · exfalso; omega
  | succ m ih =>
    intro k s hk hs hq
    refine zs_iload (i := 5) rfl rfl ?_
    refine zs_aload_n (j := 0) (i := 0) rfl rfl rfl ?_
    refine zs_getfield (f := 8) (k := 2) rfl rfl (trivial) ?_
    show ZVV _ _ _ _ _ (ZI (g 8 0 2) :: _) _
    refine zs_icmp_ge 82 rfl (by omega) (fun hc_12 => ?_) (fun hc_12 => ?_)
    · exfalso; omega
    · refine zs_iload (i := 4) rfl rfl ?_
      refine zs_iload (i := 5) rfl rfl ?_
      refine zs_iload_n (j := 1) (i := 1) rfl rfl rfl ?_
      refine zs_icmp_eq 72 rfl (by omega) (fun hc_20 => ?_) (fun hc_20 => ?_)
      · refine zs_iconst (n := 0) rfl ⟨by omega, by omega⟩ ?_
        refine zs_iadd_r rfl ⟨by omega, by omega⟩ ?_
        refine zs_istore (i := 4) rfl (by decide) (by intro r x hr; have hr2 : r = 3 := (by omega); subst hr2; intro z; cases z) ?_
        show ZVV _ _ _ _ [ZR 8 0, ZI p, ZI h, ZI 1, ZI (s + 0), ZI (k : Int)] _ _
        refine zs_iinc_r (i := 5) rfl rfl (by intro r x hr; have hr2 : r = 4 := (by omega); subst hr2; intro z; cases z) ⟨by omega, by omega⟩ ?_
        show ZVV _ _ _ _ [ZR 8 0, ZI p, ZI h, ZI 1, ZI (s + 0), ZI ((k : Int) + 1)] _ _
        refine zs_goto 6 rfl (by omega) ?_
        have he : (fun q => if (q ≠ p.toNat ∧ zliv (g 8 0 0) (g 8 0 1) (g 33 0) q h = true) ∧ g 32 0 q = g 32 0 p.toNat then 1 else 0) k = (0 : Int) := if_neg (fun z => by first | exact z.1.1 (by omega) | (have := (zliv_f z.1.2).1; omega) | exact zif0 hc_45 (zliv_f z.1.2).2 | exact hc_65 z.2)
        refine ih (k + 1) (s + 0) (by omega) ⟨by omega, by omega⟩ ?_
        have hh := hq
        rw [zsum_v he] at hh
        exact hh
      · have hpk := (hm.2.2.2.2.2.2 k (by omega)).1
        refine zs_aload_n (j := 0) (i := 0) rfl rfl rfl ?_
        refine zs_getfield (f := 8) (k := 7) rfl rfl (trivial) ?_
        show ZVV _ _ _ _ _ (ZR 33 0 :: _) _
        refine zs_iload (i := 5) rfl rfl ?_
        refine zs_iald (n := 6) rfl rfl (by omega) (by omega) ?_
        show ZVV _ _ _ _ _ (ZI (g 33 0 k) :: _) _
        refine zs_if_lt 72 rfl (by omega) (fun hc_30 => ?_) (fun hc_30 => ?_)
        · refine zs_iconst (n := 0) rfl ⟨by omega, by omega⟩ ?_
          refine zs_iadd_r rfl ⟨by omega, by omega⟩ ?_
          refine zs_istore (i := 4) rfl (by decide) (by intro r x hr; have hr2 : r = 3 := (by omega); subst hr2; intro z; cases z) ?_
          show ZVV _ _ _ _ [ZR 8 0, ZI p, ZI h, ZI 1, ZI (s + 0), ZI (k : Int)] _ _
          refine zs_iinc_r (i := 5) rfl rfl (by intro r x hr; have hr2 : r = 4 := (by omega); subst hr2; intro z; cases z) ⟨by omega, by omega⟩ ?_
          show ZVV _ _ _ _ [ZR 8 0, ZI p, ZI h, ZI 1, ZI (s + 0), ZI ((k : Int) + 1)] _ _
          refine zs_goto 6 rfl (by omega) ?_
          have he : (fun q => if (q ≠ p.toNat ∧ zliv (g 8 0 0) (g 8 0 1) (g 33 0) q h = true) ∧ g 32 0 q = g 32 0 p.toNat then 1 else 0) k = (0 : Int) := if_neg (fun z => by first | exact z.1.1 (by omega) | (have := (zliv_f z.1.2).1; omega) | exact zif0 hc_45 (zliv_f z.1.2).2 | exact hc_65 z.2)
          refine ih (k + 1) (s + 0) (by omega) ⟨by omega, by omega⟩ ?_
          have hh := hq
          rw [zsum_v he] at hh
          exact hh
        · refine zs_aload_n (j := 0) (i := 0) rfl rfl rfl ?_
          refine zs_iload_n (j := 2) (i := 2) rfl rfl rfl ?_
          refine zs_aload_n (j := 0) (i := 0) rfl rfl rfl ?_
          refine zs_getfield (f := 8) (k := 7) rfl rfl (trivial) ?_
          show ZVV _ _ _ _ _ (ZR 33 0 :: _) _
          refine zs_iload (i := 5) rfl rfl ?_
          refine zs_iald (n := 6) rfl rfl (by omega) (by omega) ?_
          show ZVV _ _ _ _ _ (ZI (g 33 0 k) :: _) _
          refine zs_callV (host := "") rfl kX8_178 vX8_areNext (c_X8_areNext h (g 33 0 k)) [ZI h, ZI (g 33 0 k)] [ZI s] rfl (zroom_of (by omega)) rfl (Nat.le_of_ble_eq_true rfl) (⟨rfl, by omega, by omega, by omega⟩) (fun r_42 g_42 hq_42 => ?_)
          obtain ⟨hr_42, hg_42⟩ := hq_42
          rw [hr_42, hg_42]
          show ZVV _ _ _ 45 _ [ZI (if nx (g 8 0 0) (g 8 0 1) h (g 33 0 k) = true then 1 else 0), ZI s] _
          show ZVV _ _ _ 45 _ _ _
          refine zs_if_eq 72 rfl (by omega) (fun hc_45 => ?_) (fun hc_45 => ?_)
          · refine zs_iconst (n := 0) rfl ⟨by omega, by omega⟩ ?_
            refine zs_iadd_r rfl ⟨by omega, by omega⟩ ?_
            refine zs_istore (i := 4) rfl (by decide) (by intro r x hr; have hr2 : r = 3 := (by omega); subst hr2; intro z; cases z) ?_
            show ZVV _ _ _ _ [ZR 8 0, ZI p, ZI h, ZI 1, ZI (s + 0), ZI (k : Int)] _ _
            refine zs_iinc_r (i := 5) rfl rfl (by intro r x hr; have hr2 : r = 4 := (by omega); subst hr2; intro z; cases z) ⟨by omega, by omega⟩ ?_
            show ZVV _ _ _ _ [ZR 8 0, ZI p, ZI h, ZI 1, ZI (s + 0), ZI ((k : Int) + 1)] _ _
            refine zs_goto 6 rfl (by omega) ?_
            have he : (fun q => if (q ≠ p.toNat ∧ zliv (g 8 0 0) (g 8 0 1) (g 33 0) q h = true) ∧ g 32 0 q = g 32 0 p.toNat then 1 else 0) k = (0 : Int) := if_neg (fun z => by first | exact z.1.1 (by omega) | (have := (zliv_f z.1.2).1; omega) | exact zif0 hc_45 (zliv_f z.1.2).2 | exact hc_65 z.2)
            refine ih (k + 1) (s + 0) (by omega) ⟨by omega, by omega⟩ ?_
            have hh := hq
            rw [zsum_v he] at hh
            exact hh
          · refine zs_iload_n (j := 3) (i := 3) rfl rfl rfl ?_
            refine zs_if_eq 68 rfl (by omega) (fun hc_49 => ?_) (fun hc_49 => ?_)
            · exfalso; omega
            · refine zs_aload_n (j := 0) (i := 0) rfl rfl rfl ?_
              refine zs_getfield (f := 8) (k := 6) rfl rfl (trivial) ?_
              show ZVV _ _ _ _ _ (ZR 32 0 :: _) _
              refine zs_iload (i := 5) rfl rfl ?_
              refine zs_iald (n := 6) rfl rfl (by omega) (by omega) ?_
              show ZVV _ _ _ _ _ (ZI (g 32 0 k) :: _) _
              refine zs_aload_n (j := 0) (i := 0) rfl rfl rfl ?_
              refine zs_getfield (f := 8) (k := 6) rfl rfl (trivial) ?_
              show ZVV _ _ _ _ _ (ZR 32 0 :: _) _
              refine zs_iload_n (j := 1) (i := 1) rfl rfl rfl ?_
              show ZVV _ _ _ 64 _ _ _
              refine zs_iald (n := 6) rfl rfl (by omega) (by omega) ?_
              refine zs_icmp_ne 72 rfl (by omega) (fun hc_65 => ?_) (fun hc_65 => ?_)
              · refine zs_iconst (n := 0) rfl ⟨by omega, by omega⟩ ?_
                refine zs_iadd_r rfl ⟨by omega, by omega⟩ ?_
                refine zs_istore (i := 4) rfl (by decide) (by intro r x hr; have hr2 : r = 3 := (by omega); subst hr2; intro z; cases z) ?_
                show ZVV _ _ _ _ [ZR 8 0, ZI p, ZI h, ZI 1, ZI (s + 0), ZI (k : Int)] _ _
                refine zs_iinc_r (i := 5) rfl rfl (by intro r x hr; have hr2 : r = 4 := (by omega); subst hr2; intro z; cases z) ⟨by omega, by omega⟩ ?_
                show ZVV _ _ _ _ [ZR 8 0, ZI p, ZI h, ZI 1, ZI (s + 0), ZI ((k : Int) + 1)] _ _
                refine zs_goto 6 rfl (by omega) ?_
                have he : (fun q => if (q ≠ p.toNat ∧ zliv (g 8 0 0) (g 8 0 1) (g 33 0) q h = true) ∧ g 32 0 q = g 32 0 p.toNat then 1 else 0) k = (0 : Int) := if_neg (fun z => by first | exact z.1.1 (by omega) | (have := (zliv_f z.1.2).1; omega) | exact zif0 hc_45 (zliv_f z.1.2).2 | exact hc_65 z.2)
                refine ih (k + 1) (s + 0) (by omega) ⟨by omega, by omega⟩ ?_
                have hh := hq
                rw [zsum_v he] at hh
                exact hh
              · refine zs_iconst (n := 1) rfl ⟨by omega, by omega⟩ ?_
                refine zs_goto 73 rfl (by omega) ?_
                refine zs_iadd_r rfl ⟨by omega, by omega⟩ ?_
                refine zs_istore (i := 4) rfl (by decide) (by intro r x hr; have hr2 : r = 3 := (by omega); subst hr2; intro z; cases z) ?_
                show ZVV _ _ _ _ [ZR 8 0, ZI p, ZI h, ZI 1, ZI (s + 1), ZI (k : Int)] _ _
                refine zs_iinc_r (i := 5) rfl rfl (by intro r x hr; have hr2 : r = 4 := (by omega); subst hr2; intro z; cases z) ⟨by omega, by omega⟩ ?_
                show ZVV _ _ _ _ [ZR 8 0, ZI p, ZI h, ZI 1, ZI (s + 1), ZI ((k : Int) + 1)] _ _
                refine zs_goto 6 rfl (by omega) ?_
                have he : (fun q => if (q ≠ p.toNat ∧ zliv (g 8 0 0) (g 8 0 1) (g 33 0) q h = true) ∧ g 32 0 q = g 32 0 p.toNat then 1 else 0) k = (1 : Int) := if_pos ⟨⟨by omega, zliv_t (by omega) (zif1 hc_45)⟩, Classical.not_not.mp hc_65⟩
                refine ih (k + 1) (s + 1) (by omega) ⟨by omega, by omega⟩ ?_
                have hh := hq
                rw [zsum_v he] at hh
                exact hh
theorem c_X8_beside1 (p h : Int) : ZC mX8_beside 3 (fun av g => av = [ZR 8 0, ZI p, ZI h, ZI 1] ∧ MOK g ∧ (0 ≤ p ∧ p < 6) ∧ (0 ≤ h ∧ h < 9)) (fun _ g r g' => r = some (ZI (tAl (mT g) p.toNat h)) ∧ g' = g) := by
  refine zc_of gX8_beside (fun av g hp => by obtain ⟨rfl, -⟩ := hp; exact Nat.le_of_ble_eq_true rfl) (fun Y av g hwf hrg hp hok => ?_)
  obtain ⟨rfl, hp⟩ := hp
  show ZVV _ _ _ 0 [ZR 8 0, ZI p, ZI h, ZI 1, ZX 99, ZX 99] [] _
  obtain ⟨hm, hpp, hh0⟩ := hp
  have hn6 := hm.2.2.1
  refine zs_iconst (n := 0) rfl ⟨by omega, by omega⟩ ?_
  refine zs_istore (i := 4) rfl (by decide) (by intro r x hr; have hr2 : r = 3 := (by omega); subst hr2; intro z; cases z) ?_
  show ZVV _ _ _ _ [ZR 8 0, ZI p, ZI h, ZI 1, ZI 0, ZX 99] _ _
  refine zs_iconst (n := 0) rfl ⟨by omega, by omega⟩ ?_
  refine zs_istore (i := 5) rfl (by decide) (by intro r x hr; have hr2 : r = 4 := (by omega); subst hr2; intro z; cases z) ?_
  show ZVV _ _ _ _ [ZR 8 0, ZI p, ZI h, ZI 1, ZI 0, ZI 0] _ _
  refine l_X8_beside1 hm hpp hh0 (g 8 0 2).toNat 0 0 (by omega) ⟨by omega, by omega⟩ ⟨?_, rfl⟩
  rw [Int.zero_add]
  rfl

theorem c_X8_isContentIn (p h : Int) : ZC mX8_isContentIn 5 (fun av g => av = [ZR 8 0, ZI p, ZI h] ∧ MOK g ∧ (0 ≤ p ∧ p < g 8 0 2) ∧ (0 ≤ h ∧ h < 9)) (fun _ g r g' => r = some (ZI (if tSu (mT g) p.toNat h = true then 1 else 0)) ∧ zP g g') := by
  refine zc_of gX8_isContentIn (fun av g hp => by obtain ⟨rfl, -⟩ := hp; exact Nat.le_of_ble_eq_true rfl) (fun Y av g hwf hrg hp hok => ?_)
  obtain ⟨rfl, hp⟩ := hp
  show ZVV _ _ _ 0 [ZR 8 0, ZI p, ZI h, ZX 99, ZX 99] [] _
  obtain ⟨hm, hp2, hh0⟩ := hp
  have hn8 := hm.1
  have hn6 := hm.2.2.1
  have hpp : 0 ≤ p ∧ p < 6 := by omega
  have hB := tBes_rng (mT g) (p := p.toNat) h (by show p.toNat < (g 8 0 2).toNat; omega)
  have hA := tAl_rng (mT g) (p := p.toNat) h (by show p.toNat < (g 8 0 2).toNat; omega)
  rw [show tnp (mT g) = g 8 0 2 from rfl] at hB hA
  have hwr := mW_r hm.2.2.2.2.2.1 (p := p) (s := g 32 0 p.toNat) (k := g 30 0 p.toNat) (hh := h) (f := tBes (mT g) p.toNat h) (m := g 8 0 3 % 60)
  rw [mT_wt g hpp.1] at hwr
  have hwd := hm.2.2.2.2.1
  have hWr : 0 ≤ (if 0 ≤ g 8 0 26 then g 8 0 26 else (tWt (mT g) p.toNat h).1) ∧ (if 0 ≤ g 8 0 26 then g 8 0 26 else (tWt (mT g) p.toNat h).1) ≤ 100 := by split <;> omega
  have hW : (if twf (mT g) = -1 then (tWt (mT g) p.toNat h).1 else twf (mT g)) = (if 0 ≤ g 8 0 26 then g 8 0 26 else (tWt (mT g) p.toNat h).1) := by
    show (if g 8 0 26 = -1 then _ else g 8 0 26) = _
    by_cases hw9 : 0 ≤ g 8 0 26
    · rw [if_neg (by omega), if_pos hw9]
    · rw [if_pos (by omega), if_neg hw9]
  have hm1 := mulb hWr (show 0 ≤ tBes (mT g) p.toNat h ∧ tBes (mT g) p.toNat h ≤ 5 by omega)
  have hm2 := mulb hwr.2.1 (show 0 ≤ tBes (mT g) p.toNat h ∧ tBes (mT g) p.toNat h ≤ 5 by omega)
  generalize hGW : (if 0 ≤ g 8 0 26 then g 8 0 26 else (tWt (mT g) p.toNat h).1) = WX at *
  refine zs_aload_n (j := 0) (i := 0) rfl rfl rfl ?_
  refine zs_iload_n (j := 1) (i := 1) rfl rfl rfl ?_
  refine zs_iload_n (j := 2) (i := 2) rfl rfl rfl ?_
  refine zs_iconst (n := 0) rfl ⟨by omega, by omega⟩ ?_
  refine zs_callV (host := "") rfl kX8_251 vX8_beside (c_X8_beside0 p h) [ZI p, ZI h, ZI 0] [] rfl (zroom_of (by omega)) rfl (Nat.le_of_ble_eq_true rfl) ⟨rfl, hm, hpp, ⟨by omega, by omega⟩⟩ (fun r_4 g_4 hq_4 => ?_)
  obtain ⟨hr_4, hg_4⟩ := hq_4
  rw [hr_4, hg_4]
  show ZVV _ _ _ 7 _ [ZI (tBes (mT g) p.toNat h)] g
  refine zs_istore_n (j := 3) (i := 3) rfl rfl (by decide) (by intro r x hr; have hr2 : r = 2 := (by omega); subst hr2; intro z; cases z) ?_
  show ZVV _ _ _ _ [ZR 8 0, ZI p, ZI h, ZI (tBes (mT g) p.toNat h), ZX 99] _ _
  refine zs_iload_n (j := 3) (i := 3) rfl rfl rfl ?_
  show ZVV _ _ _ 9 _ _ _
  refine zs_if_ne 14 rfl (by omega) (fun hc_9 => ?_) (fun hc_9 => ?_)
  · refine zs_bipush (n := 100) rfl ⟨by omega, by omega⟩ ?_
    refine zs_aload_n (j := 0) (i := 0) rfl rfl rfl ?_
    refine zs_iload_n (j := 1) (i := 1) rfl rfl rfl ?_
    refine zs_iload_n (j := 2) (i := 2) rfl rfl rfl ?_
    refine zs_iconst (n := 1) rfl ⟨by omega, by omega⟩ ?_
    refine zs_callV (host := "") rfl kX8_251 vX8_beside (c_X8_beside1 p h) [ZI p, ZI h, ZI 1] [ZI 100] rfl (zroom_of (by omega)) rfl (Nat.le_of_ble_eq_true rfl) ⟨rfl, hm, hpp, ⟨by omega, by omega⟩⟩ (fun r_20 g_20 hq_20 => ?_)
    obtain ⟨hr_20, hg_20⟩ := hq_20
    rw [hr_20, hg_20]
    show ZVV _ _ _ 23 _ [ZI (tAl (mT g) p.toNat h), ZI 100] g
    refine zs_imul_r rfl ⟨by omega, by omega⟩ ?_
    show ZVV _ _ _ 24 _ _ _
    refine zs_istore (i := 4) rfl (by decide) (by intro r x hr; have hr2 : r = 3 := (by omega); subst hr2; intro z; cases z) ?_
    show ZVV _ _ _ _ [ZR 8 0, ZI p, ZI h, ZI (tBes (mT g) p.toNat h), ZI (100 * (tAl (mT g) p.toNat h))] _ _
    refine zs_iload (i := 4) rfl rfl ?_
    refine zs_aload_n (j := 0) (i := 0) rfl rfl rfl ?_
    refine zs_iload_n (j := 1) (i := 1) rfl rfl rfl ?_
    refine zs_iload_n (j := 2) (i := 2) rfl rfl rfl ?_
    refine zs_iload_n (j := 3) (i := 3) rfl rfl rfl ?_
    refine zs_callV (host := "") rfl kX8_255 vX8_wishOf (c_X8_wishOf p h (tBes (mT g) p.toNat h)) [ZI p, ZI h, ZI (tBes (mT g) p.toNat h)] [ZI (100 * (tAl (mT g) p.toNat h))] rfl (zroom_of (by omega)) rfl (Nat.le_of_ble_eq_true rfl) ⟨rfl, hm, hpp⟩ (fun r_32 g_32 hq_32 => ?_)
    obtain ⟨hr_32, hz1_32⟩ := hq_32
    rw [hr_32, mT_wt g hpp.1, hGW]
    have hz_32 := (show zP g g from (zP.rf g)).tr hz1_32
    have e8_32 : g_32 8 = g 8 := hz_32 8 (by decide)
    have e30_32 : g_32 30 = g 30 := hz_32 30 (by decide)
    have e31_32 : g_32 31 = g 31 := hz_32 31 (by decide)
    have e32_32 : g_32 32 = g 32 := hz_32 32 (by decide)
    have e33_32 : g_32 33 = g 33 := hz_32 33 (by decide)
    have e35_32 : g_32 35 = g 35 := hz_32 35 (by decide)
    have e36_32 : g_32 36 = g 36 := hz_32 36 (by decide)
    have e37_32 : g_32 37 = g 37 := hz_32 37 (by decide)
    have e38_32 : g_32 38 = g 38 := hz_32 38 (by decide)
    have e39_32 : g_32 39 = g 39 := hz_32 39 (by decide)
    have e40_32 : g_32 40 = g 40 := hz_32 40 (by decide)
    have e44_32 : g_32 44 = g 44 := hz_32 44 (by decide)
    show ZVV _ _ _ 35 _ [ZI WX, ZI (100 * (tAl (mT g) p.toNat h))] g_32
    refine zs_iload_n (j := 3) (i := 3) rfl rfl rfl ?_
    show ZVV _ _ _ 36 _ _ _
    refine zs_imul_r rfl ⟨by omega, by omega⟩ ?_
    refine zs_icmp_lt 58 rfl (by omega) (fun hc_37 => ?_) (fun hc_37 => ?_)
    · refine zs_iconst (n := 0) rfl ⟨by omega, by omega⟩ ?_
      exact zs_zreturn rfl rfl (by omega) (⟨by rw [show tSu (mT g) p.toNat h = false from decide_eq_false (fun z => z.elim (fun y => by omega) (fun y => by have y1 := y.1; have y2 := y.2; rw [hW] at y1; omega))]; rfl, hz_32⟩)
    · refine zs_iload (i := 4) rfl rfl ?_
      refine zs_aload_n (j := 0) (i := 0) rfl rfl rfl ?_
      refine zs_iload_n (j := 1) (i := 1) rfl rfl rfl ?_
      refine zs_iload_n (j := 2) (i := 2) rfl rfl rfl ?_
      refine zs_iload_n (j := 3) (i := 3) rfl rfl rfl ?_
      refine zs_callV (host := "") rfl kX8_259 vX8_mostOf (c_X8_mostOf p h (tBes (mT g) p.toNat h)) [ZI p, ZI h, ZI (tBes (mT g) p.toNat h)] [ZI (100 * (tAl (mT g) p.toNat h))] rfl (zroom_of (by omega)) rfl (Nat.le_of_ble_eq_true rfl) ⟨rfl, hm.z hz_32, hpp⟩ (fun r_46 g_46 hq_46 => ?_)
      obtain ⟨hr_46, hz1_46⟩ := hq_46
      rw [hr_46, mW_z hz_32, hz_32 32 (by decide), hz_32 30 (by decide), hz_32 8 (by decide), mT_wt g hpp.1]
      have hz_46 := (show zP g g_32 from hz_32).tr hz1_46
      have e8_46 : g_46 8 = g 8 := hz_46 8 (by decide)
      have e30_46 : g_46 30 = g 30 := hz_46 30 (by decide)
      have e31_46 : g_46 31 = g 31 := hz_46 31 (by decide)
      have e32_46 : g_46 32 = g 32 := hz_46 32 (by decide)
      have e33_46 : g_46 33 = g 33 := hz_46 33 (by decide)
      have e35_46 : g_46 35 = g 35 := hz_46 35 (by decide)
      have e36_46 : g_46 36 = g 36 := hz_46 36 (by decide)
      have e37_46 : g_46 37 = g 37 := hz_46 37 (by decide)
      have e38_46 : g_46 38 = g 38 := hz_46 38 (by decide)
      have e39_46 : g_46 39 = g 39 := hz_46 39 (by decide)
      have e40_46 : g_46 40 = g 40 := hz_46 40 (by decide)
      have e44_46 : g_46 44 = g 44 := hz_46 44 (by decide)
      show ZVV _ _ _ 49 _ [ZI ((tWt (mT g) p.toNat h).2.1), ZI (100 * (tAl (mT g) p.toNat h))] g_46
      refine zs_iload_n (j := 3) (i := 3) rfl rfl rfl ?_
      show ZVV _ _ _ 50 _ _ _
      refine zs_imul_r rfl ⟨by omega, by omega⟩ ?_
      refine zs_icmp_gt 58 rfl (by omega) (fun hc_51 => ?_) (fun hc_51 => ?_)
      · refine zs_iconst (n := 0) rfl ⟨by omega, by omega⟩ ?_
        exact zs_zreturn rfl rfl (by omega) (⟨by rw [show tSu (mT g) p.toNat h = false from decide_eq_false (fun z => z.elim (fun y => by omega) (fun y => by have y1 := y.1; have y2 := y.2; rw [hW] at y1; omega))]; rfl, hz_46⟩)
      · refine zs_iconst (n := 1) rfl ⟨by omega, by omega⟩ ?_
        refine zs_goto 59 rfl (by omega) ?_
        exact zs_zreturn rfl rfl (by omega) (⟨by rw [show tSu (mT g) p.toNat h = true from decide_eq_true (Or.inr ⟨by rw [hW]; omega, by omega⟩)]; rfl, hz_46⟩)
  · refine zs_iconst (n := 1) rfl ⟨by omega, by omega⟩ ?_
    exact zs_zreturn rfl rfl (by omega) (⟨by rw [show tSu (mT g) p.toNat h = true from decide_eq_true (Or.inl (by omega))]; rfl, zP.rf g⟩)

theorem c_X8_isContent (p : Int) : ZC mX8_isContent 6 (fun av g => av = [ZR 8 0, ZI p] ∧ MOK g ∧ (0 ≤ p ∧ p < g 8 0 2) ∧ 0 ≤ g 33 0 p.toNat) (fun _ g r g' => r = some (ZI (if tSu (mT g) p.toNat (g 33 0 p.toNat) = true then 1 else 0)) ∧ zP g g') := by
  refine zc_of gX8_isContent (fun av g hp => by obtain ⟨rfl, -⟩ := hp; exact Nat.le_of_ble_eq_true rfl) (fun Y av g hwf hrg hp hok => ?_)
  obtain ⟨rfl, hp⟩ := hp
  show ZVV _ _ _ 0 [ZR 8 0, ZI p] [] _
  have hn8 := hp.1.1
  have hn6 := hp.1.2.2.1
  have hpr := (hp.1.2.2.2.2.2.2 p.toNat (by omega)).1
  refine zs_aload_n (j := 0) (i := 0) rfl rfl rfl ?_
  refine zs_iload_n (j := 1) (i := 1) rfl rfl rfl ?_
  refine zs_aload_n (j := 0) (i := 0) rfl rfl rfl ?_
  refine zs_getfield (f := 8) (k := 7) rfl rfl (trivial) ?_
  show ZVV _ _ _ _ _ (ZR 33 0 :: _) _
  refine zs_iload_n (j := 1) (i := 1) rfl rfl rfl ?_
  refine zs_iald (n := 6) rfl rfl (by omega) (by omega) ?_
  refine zs_callV (host := "") rfl kX8_262 vX8_isContentIn (c_X8_isContentIn p (g 33 0 p.toNat)) [ZI p, ZI (g 33 0 p.toNat)] [] rfl (zroom_of (by omega)) rfl (Nat.le_of_ble_eq_true rfl) ⟨rfl, hp.1, hp.2.1, ⟨by omega, by omega⟩⟩ (fun r_8 g_8 hq_8 => ?_)
  obtain ⟨hr_8, hz1_8⟩ := hq_8
  rw [hr_8]
  have hz_8 := (show zP g g from (zP.rf g)).tr hz1_8
  have e8_8 : g_8 8 = g 8 := hz_8 8 (by decide)
  have e30_8 : g_8 30 = g 30 := hz_8 30 (by decide)
  have e31_8 : g_8 31 = g 31 := hz_8 31 (by decide)
  have e32_8 : g_8 32 = g 32 := hz_8 32 (by decide)
  have e33_8 : g_8 33 = g 33 := hz_8 33 (by decide)
  have e35_8 : g_8 35 = g 35 := hz_8 35 (by decide)
  have e36_8 : g_8 36 = g 36 := hz_8 36 (by decide)
  have e37_8 : g_8 37 = g 37 := hz_8 37 (by decide)
  have e38_8 : g_8 38 = g 38 := hz_8 38 (by decide)
  have e39_8 : g_8 39 = g 39 := hz_8 39 (by decide)
  have e40_8 : g_8 40 = g 40 := hz_8 40 (by decide)
  have e44_8 : g_8 44 = g 44 := hz_8 44 (by decide)
  show ZVV _ _ _ 11 _ [ZI (if tSu (mT g) p.toNat (g 33 0 p.toNat) = true then 1 else 0)] g_8
  show ZVV _ _ _ 11 _ _ _
  exact zs_zreturn rfl rfl (by split <;> decide) (⟨rfl, hz_8⟩)

