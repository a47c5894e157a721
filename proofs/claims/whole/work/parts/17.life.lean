theorem c_X1_startFrom (u : Nat) : ZC mX1_startFrom 2 (fun av g => av = [ZR 1 0, ZR 2 u] ∧ (u ≠ 2 ∧ 0 ≤ g 1 0 8 ∧ g 1 0 8 ≤ 1000000000) ∧ 0 ≤ g 2 u 11) (fun _ g r g' => r = none ∧ g' = zup (zup (zcopyF g 2 u) 1 0 1 (-1)) 1 0 8 (g 1 0 8 + 1)) := by
  refine zc_of gX1_startFrom (fun av g hp => by obtain ⟨rfl, -⟩ := hp; exact Nat.le_of_ble_eq_true rfl) (fun Y av g hwf hrg hp hok => ?_)
  obtain ⟨rfl, hp⟩ := hp
  show ZVV _ _ _ 0 [ZR 1 0, ZR 2 u] [] _
  refine zs_aload_n (j := 0) (i := 0) rfl rfl rfl ?_
  refine zs_getfield (f := 1) (k := 0) rfl rfl (trivial) ?_
  show ZVV _ _ _ _ _ (ZR 2 2 :: _) _
  refine zs_aload_n (j := 1) (i := 1) rfl rfl rfl ?_
  refine zs_callV (host := "") rfl kX1_36 vX2_copyFrom (c_X2_copyFrom 2 u) [ZR 2 u] [] rfl (zroom_of (by omega)) rfl (Nat.le_of_ble_eq_true rfl) (⟨rfl, by omega, hp.2⟩) (fun r_5 g_5 hq_5 => ?_)
  obtain ⟨hr_5, hg_5⟩ := hq_5
  rw [hr_5, hg_5]
  show ZVV _ _ _ 8 _ [] _
  refine zs_aload_n (j := 0) (i := 0) rfl rfl rfl ?_
  refine zs_iconst (n := (-1)) rfl ⟨by omega, by omega⟩ ?_
  refine zs_putfield (f := 1) (k := 1) (x := -1) rfl rfl (rfl) ?_
  show ZVV _ _ _ 13 _ _ _
  refine zs_aload_n (j := 0) (i := 0) rfl rfl rfl ?_
  refine zs_dup rfl (by intro x z; cases z) ?_
  refine zs_getfield (f := 1) (k := 8) rfl rfl (trivial) ?_
  show ZVV _ _ _ _ _ (ZI ((zcopyF g 2 u) 1 0 8) :: _) _
  show ZVV _ _ _ _ _ [ZI (g 1 0 8), ZR 1 0] _
  refine zs_iconst (n := 1) rfl ⟨by omega, by omega⟩ ?_
  refine zs_iadd_r rfl ⟨by omega, by omega⟩ ?_
  refine zs_putfield (f := 1) (k := 8) (x := (g 1 0 8) + 1) rfl rfl (rfl) ?_
  exact zs_return rfl rfl (⟨rfl, rfl⟩)

theorem l_X1_weigh {Y : ZW} {C : ZCx} {g : ZG} {p h : Int} (hC : zroom C 1) (hp0 : SOK g 2) (hpp : 0 ≤ p ∧ p < g 2 2 3) (hh : 0 ≤ h ∧ h < g 2 2 0) : ∀ (n k : Nat) (oo aa : Int), (k : Int) + n = g 2 2 3 → (0 ≤ oo ∧ oo ≤ k) → (0 ≤ aa ∧ aa ≤ k) → ZVV Y mX1_weigh C 91 [ZR 1 0, ZI p, ZI h, ZI (g 2 2 3)] [] (zup (zup g 1 0 3 (oo + zsum (fun q => if q ≠ p.toNat ∧ zliv (g 2 2 0) (g 2 2 1) (g 18 2) q h = true then 1 else 0) n k)) 1 0 4 (aa + zsum (fun q => if (q ≠ p.toNat ∧ zliv (g 2 2 0) (g 2 2 1) (g 18 2) q h = true) ∧ g 17 2 q = g 17 2 p.toNat then 1 else 0) n k)) → ZVV Y mX1_weigh C 12 [ZR 1 0, ZI p, ZI h, ZI (k : Int)] [] (zup (zup g 1 0 3 oo) 1 0 4 aa) := by
  obtain ⟨h1, h2, h3, h4, h5, h6⟩ := id hp0
  intro n
  induction n with
  | zero =>
    intro k oo aa hk hb1 hb2 hq
    rw [show zsum (fun q => if q ≠ p.toNat ∧ zliv (g 2 2 0) (g 2 2 1) (g 18 2) q h = true then 1 else 0) 0 k = 0 from rfl, show zsum (fun q => if (q ≠ p.toNat ∧ zliv (g 2 2 0) (g 2 2 1) (g 18 2) q h = true) ∧ g 17 2 q = g 17 2 p.toNat then 1 else 0) 0 k = 0 from rfl, Int.add_zero, Int.add_zero] at hq
    refine zs_iload_n (j := 3) (i := 3) rfl rfl rfl ?_
    refine zs_aload_n (j := 0) (i := 0) rfl rfl rfl ?_
    refine zs_getfield (f := 1) (k := 0) rfl rfl (trivial) ?_
    show ZVV _ _ _ _ _ (ZR 2 2 :: _) _
    refine zs_getfield (f := 2) (k := 3) rfl rfl (trivial) ?_
    show ZVV _ _ _ _ _ (ZI (g 2 2 3) :: _) _
    refine zs_icmp_ge 91 rfl (by omega) (fun hc_20 => ?_) (fun hc_20 => ?_)
    · have hk2 : (k : Int) = g 2 2 3 := by omega
      rw [hk2]
      exact hq
    · exfalso; omega
  | succ n ih =>
    intro k oo aa hk hb1 hb2 hq
    rw [zsum_s, zsum_s] at hq
    refine zs_iload_n (j := 3) (i := 3) rfl rfl rfl ?_
    refine zs_aload_n (j := 0) (i := 0) rfl rfl rfl ?_
    refine zs_getfield (f := 1) (k := 0) rfl rfl (trivial) ?_
    show ZVV _ _ _ _ _ (ZR 2 2 :: _) _
    refine zs_getfield (f := 2) (k := 3) rfl rfl (trivial) ?_
    show ZVV _ _ _ _ _ (ZI (g 2 2 3) :: _) _
    refine zs_icmp_ge 91 rfl (by omega) (fun hc_20 => ?_) (fun hc_20 => ?_)
    · exfalso; omega
    · refine zs_iload_n (j := 3) (i := 3) rfl rfl rfl ?_
      refine zs_iload_n (j := 1) (i := 1) rfl rfl rfl ?_
      refine zs_icmp_eq 85 rfl (by omega) (fun hc_25 => ?_) (fun hc_25 => ?_)
      · refine zs_iinc_r (i := 3) rfl rfl (by intro r x hr; have hr2 : r = 2 := (by omega); subst hr2; intro z; cases z) ⟨by omega, by omega⟩ ?_
        show ZVV _ _ _ _ [ZR 1 0, ZI p, ZI h, ZI ((k : Int) + 1)] _ _
        refine zs_goto 12 rfl (by omega) ?_
        have hz : ¬ (k ≠ p.toNat ∧ zliv (g 2 2 0) (g 2 2 1) (g 18 2) k h = true) := by
          rintro ⟨z1, z2⟩
          first | omega | (rw [if_pos z2] at hc_37; omega)
        rw [if_neg hz, if_neg (fun z => hz z.1), Int.zero_add, Int.zero_add] at hq
        exact ih (k + 1) oo aa (by omega) (by omega) (by omega) hq
      · refine zs_aload_n (j := 0) (i := 0) rfl rfl rfl ?_
        refine zs_getfield (f := 1) (k := 0) rfl rfl (trivial) ?_
        show ZVV _ _ _ _ _ (ZR 2 2 :: _) _
        refine zs_iload_n (j := 3) (i := 3) rfl rfl rfl ?_
        refine zs_iload_n (j := 2) (i := 2) rfl rfl rfl ?_
        refine zs_callV (host := "") rfl kX1_52 vX2_livesBeside (c_X2_livesBeside 2 (k : Int) h) [ZI (k : Int), ZI h] [] rfl hC rfl (Nat.le_of_ble_eq_true rfl) (⟨rfl, (hp0 : SOK g 2), (⟨by omega, by omega⟩ : 0 ≤ (k : Int) ∧ (k : Int) < g 2 2 3), (hh : 0 ≤ h ∧ h < g 2 2 0)⟩) (fun r_34 g_34 hq_34 => ?_)
        obtain ⟨hr_34, hg_34⟩ := hq_34
        rw [hr_34, hg_34]
        show ZVV _ _ _ 37 _ [ZI (if zliv (g 2 2 0) (g 2 2 1) (g 18 2) k h = true then 1 else 0)] _
        refine zs_if_eq 85 rfl (by omega) (fun hc_37 => ?_) (fun hc_37 => ?_)
        · refine zs_iinc_r (i := 3) rfl rfl (by intro r x hr; have hr2 : r = 2 := (by omega); subst hr2; intro z; cases z) ⟨by omega, by omega⟩ ?_
          show ZVV _ _ _ _ [ZR 1 0, ZI p, ZI h, ZI ((k : Int) + 1)] _ _
          refine zs_goto 12 rfl (by omega) ?_
          have hz : ¬ (k ≠ p.toNat ∧ zliv (g 2 2 0) (g 2 2 1) (g 18 2) k h = true) := by
            rintro ⟨z1, z2⟩
            first | omega | (rw [if_pos z2] at hc_37; omega)
          rw [if_neg hz, if_neg (fun z => hz z.1), Int.zero_add, Int.zero_add] at hq
          exact ih (k + 1) oo aa (by omega) (by omega) (by omega) hq
        · refine zs_aload_n (j := 0) (i := 0) rfl rfl rfl ?_
          refine zs_dup rfl (by intro x z; cases z) ?_
          refine zs_getfield (f := 1) (k := 3) rfl rfl (trivial) ?_
          show ZVV _ _ _ _ _ (ZI oo :: _) _
          refine zs_iconst (n := 1) rfl ⟨by omega, by omega⟩ ?_
          refine zs_iadd_r rfl ⟨by omega, by omega⟩ ?_
          refine zs_putfield (f := 1) (k := 3) (x := oo + 1) rfl rfl (rfl) ?_
          refine zs_aload_n (j := 0) (i := 0) rfl rfl rfl ?_
          show ZVV _ _ _ 51 _ _ _
          refine zs_dup rfl (by intro x z; cases z) ?_
          refine zs_getfield (f := 1) (k := 4) rfl rfl (trivial) ?_
          show ZVV _ _ _ _ _ (ZI aa :: _) _
          refine zs_aload_n (j := 0) (i := 0) rfl rfl rfl ?_
          refine zs_getfield (f := 1) (k := 0) rfl rfl (trivial) ?_
          show ZVV _ _ _ _ _ (ZR 2 2 :: _) _
          refine zs_getfield (f := 2) (k := 6) rfl rfl (trivial) ?_
          show ZVV _ _ _ _ _ (ZR 17 2 :: _) _
          refine zs_iload_n (j := 3) (i := 3) rfl rfl rfl ?_
          refine zs_iald (n := 6) rfl rfl (by omega) (by omega) ?_
          show ZVV _ _ _ _ _ (ZI (g 17 2 k) :: _) _
          refine zs_aload_n (j := 0) (i := 0) rfl rfl rfl ?_
          show ZVV _ _ _ 65 _ _ _
          refine zs_getfield (f := 1) (k := 0) rfl rfl (trivial) ?_
          show ZVV _ _ _ _ _ (ZR 2 2 :: _) _
          refine zs_getfield (f := 2) (k := 6) rfl rfl (trivial) ?_
          show ZVV _ _ _ _ _ (ZR 17 2 :: _) _
          refine zs_iload_n (j := 1) (i := 1) rfl rfl rfl ?_
          refine zs_iald (n := 6) rfl rfl (by omega) (by omega) ?_
          show ZVV _ _ _ _ _ (ZI (g 17 2 p.toNat) :: _) _
          refine zs_icmp_ne 80 rfl (by omega) (fun hc_73 => ?_) (fun hc_73 => ?_)
          · refine zs_iconst (n := 0) rfl ⟨by omega, by omega⟩ ?_
            refine zs_iadd_r rfl ⟨by omega, by omega⟩ ?_
            refine zs_putfield (f := 1) (k := 4) (x := aa + 0) rfl rfl (rfl) ?_
            refine zs_iinc_r (i := 3) rfl rfl (by intro r x hr; have hr2 : r = 2 := (by omega); subst hr2; intro z; cases z) ⟨by omega, by omega⟩ ?_
            show ZVV _ _ _ _ [ZR 1 0, ZI p, ZI h, ZI ((k : Int) + 1)] _ _
            refine zs_goto 12 rfl (by omega) ?_
            have hz2 : zliv (g 2 2 0) (g 2 2 1) (g 18 2) k h = true := by
              by_cases hz : zliv (g 2 2 0) (g 2 2 1) (g 18 2) k h = true
              · exact hz
              · rw [if_neg hz] at hc_37; omega
            have hz : k ≠ p.toNat ∧ zliv (g 2 2 0) (g 2 2 1) (g 18 2) k h = true := ⟨by omega, hz2⟩
            rw [if_pos hz, if_neg (fun z => hc_73 z.2), ← Int.add_assoc, ← Int.add_assoc] at hq
            rw [zup4]
            exact ih (k + 1) (oo + 1) (aa + 0) (by omega) (by omega) (by omega) hq
          · refine zs_iconst (n := 1) rfl ⟨by omega, by omega⟩ ?_
            refine zs_goto 81 rfl (by omega) ?_
            refine zs_iadd_r rfl ⟨by omega, by omega⟩ ?_
            refine zs_putfield (f := 1) (k := 4) (x := aa + 1) rfl rfl (rfl) ?_
            refine zs_iinc_r (i := 3) rfl rfl (by intro r x hr; have hr2 : r = 2 := (by omega); subst hr2; intro z; cases z) ⟨by omega, by omega⟩ ?_
            show ZVV _ _ _ _ [ZR 1 0, ZI p, ZI h, ZI ((k : Int) + 1)] _ _
            refine zs_goto 12 rfl (by omega) ?_
            have hz2 : zliv (g 2 2 0) (g 2 2 1) (g 18 2) k h = true := by
              by_cases hz : zliv (g 2 2 0) (g 2 2 1) (g 18 2) k h = true
              · exact hz
              · rw [if_neg hz] at hc_37; omega
            have hz : k ≠ p.toNat ∧ zliv (g 2 2 0) (g 2 2 1) (g 18 2) k h = true := ⟨by omega, hz2⟩
            rw [if_pos hz, if_pos ⟨hz, by omega⟩, ← Int.add_assoc, ← Int.add_assoc] at hq
            rw [zup4]
            exact ih (k + 1) (oo + 1) (aa + 1) (by omega) (by omega) (by omega) hq
theorem zSL.sok {g g' : ZG} (h : zSL g g') {q : Nat} (k : SOK g q) : SOK g' q := by
  unfold SOK
  rw [h.1 2 (by decide) (by decide) (by decide) (by decide), h.1 14 (by decide) (by decide) (by decide) (by decide), h.1 15 (by decide) (by decide) (by decide) (by decide), h.1 16 (by decide) (by decide) (by decide) (by decide), h.1 17 (by decide) (by decide) (by decide) (by decide), h.1 18 (by decide) (by decide) (by decide) (by decide)]
  exact k
theorem zSL.hold {g g' : ZG} (h : zSL g g') {q : Nat} (k : HOLD g q) : HOLD g' q := by
  unfold HOLD
  rw [h.1 2 (by decide) (by decide) (by decide) (by decide), h.1 3 (by decide) (by decide) (by decide) (by decide), h.1 20 (by decide) (by decide) (by decide) (by decide)]
  exact k
theorem zSL.lok {g g' : ZG} (h : zSL g g') (k : LOK g) (hc : CK g') : LOK g' := by
  obtain ⟨k1, k2, -, k4, k5⟩ := k
  refine ⟨h.sok k1, h.hold k2, hc, ?_, ?_⟩
  · rw [h.2 0 1 (by decide) (by decide) (by decide)]; exact k4
  · rw [h.2 0 8 (by decide) (by decide) (by decide)]; exact k5
def WPOST (g : ZG) (p h : Int) (r : Option ZV) (g' : ZG) : Prop := r = none ∧ zSL g g' ∧ LOK g' ∧ g' 1 0 3 = tBes (zTL g) p.toNat h ∧ g' 1 0 4 = tAl (zTL g) p.toNat h ∧ (0 ≤ g' 1 0 5 ∧ g' 1 0 5 + 2 < 864) ∧ (g' 12 0 (g' 1 0 5).toNat, g' 12 0 (g' 1 0 5 + 1).toNat, g' 12 0 (g' 1 0 5 + 2).toNat) = tWt (zTL g) p.toNat h
theorem zw_hit {g : ZG} {P H O S : Nat} {aa : Int} (hL : LOK g) (hP : (P : Int) < g 2 2 3) (hH : (H : Int) < g 2 2 0) (hO : (O : Int) = tBes (zTL g) P H) (hA : aa = tAl (zTL g) P H) (hS : S = (P * 8 + H) * 6 + O) (hk : g 13 0 S = g 1 0 8) : WPOST g P H none (zup (zup (zup g 1 0 3 O) 1 0 4 aa) 1 0 5 ((S * 3 : Nat) : Int)) := by
  have hb := tBes_rng (zTL g) (p := P) H (show P < (g 2 2 3).toNat by omega)
  have hn := hL.1.2.2.1
  have hn0 := hL.1.1
  have hO6 : O < 6 := by have : (tnp (zTL g)) = g 2 2 3 := rfl; rw [this] at hb; omega
  have hSL : zSL g (zup (zup (zup g 1 0 3 O) 1 0 4 aa) 1 0 5 ((S * 3 : Nat) : Int)) := by
    refine ⟨fun f h1 _ _ _ => ?_, fun i k h3 h4 h5 => ?_⟩
    · rw [zup_nf _ _ _ _ h1, zup_nf _ _ _ _ h1, zup_nf _ _ _ _ h1]
    · rw [zup_nk _ _ _ _ _ _ h5, zup_nk _ _ _ _ _ _ h4, zup_nk _ _ _ _ _ _ h3]
  refine ⟨rfl, hSL, hSL.lok hL hL.2.2.1, ?_, ?_, ?_, ?_⟩
  · simp [zup, hO]
  · simp [zup, hA]
  · rw [zup_eq]; omega
  · rw [zup_eq]
    have e0 : (((S * 3 : Nat) : Int)).toNat = ((P * 8 + H) * 6 + O) * 3 := by omega
    have e1 : (((S * 3 : Nat) : Int) + 1).toNat = ((P * 8 + H) * 6 + O) * 3 + 1 := by omega
    have e2 : (((S * 3 : Nat) : Int) + 2).toNat = ((P * 8 + H) * 6 + O) * 3 + 2 := by omega
    rw [e0, e1, e2]
    show (g 12 0 _, g 12 0 _, g 12 0 _) = _
    rw [hL.2.2.1.2 P H O hP (by omega) hO6 (by rw [← hS]; exact hk)]
    unfold tWt
    rw [show ((P : Int)).toNat = P by omega, ← hO]
    rfl
theorem zw_miss {g : ZG} {P H O S : Nat} {aa : Int} {w : Int × Int × Int} {M3 : ZG} (hL : LOK g) (hP : (P : Int) < g 2 2 3) (hH : (H : Int) < g 2 2 0) (hO : (O : Int) = tBes (zTL g) P H) (hA : aa = tAl (zTL g) P H) (hS : S = (P * 8 + H) * 6 + O)
    (hM : M3 = zup (zup (zup (zup (zup (zup (zup (zup (zup (zup g 1 0 3 O) 1 0 4 aa) 1 0 5 ((S * 3 : Nat) : Int)) 13 0 S (g 1 0 8)) 11 0 0 P) 11 0 1 (g 17 2 P)) 11 0 2 (g 15 2 P)) 11 0 3 H) 11 0 4 O) 11 0 5 (g 2 2 8 % 60))
    (hw : w = zwres (M3 3 (g 2 2 11).toNat 2) (zev (M3 11 0) (M3 20 (g 2 2 11).toNat) (M3 3 (g 2 2 11).toNat 1).toNat 0 ([], 0, 100, 0))) : WPOST g P H none (zup (zup (zup M3 12 0 (S * 3) w.1) 12 0 (S * 3 + 1) w.2.1) 12 0 (S * 3 + 2) w.2.2) := by
  have hb := tBes_rng (zTL g) (p := P) H (show P < (g 2 2 3).toNat by omega)
  have hn := hL.1.2.2.1
  have hn0 := hL.1.1
  have hO6 : O < 6 := by have : (tnp (zTL g)) = g 2 2 3 := rfl; rw [this] at hb; omega
  have m3 : M3 3 = g 3 := by subst hM; funext i k; simp [zup]
  have m20 : M3 20 = g 20 := by subst hM; funext i k; simp [zup]
  have m11 : ∀ i, i < 6 → M3 11 0 i = zfa P (g 17 2 P) (g 15 2 P) H O (g 2 2 8 % 60) i := by
    intro i hi
    subst hM
    rcases (by omega : i = 0 ∨ i = 1 ∨ i = 2 ∨ i = 3 ∨ i = 4 ∨ i = 5) with rfl | rfl | rfl | rfl | rfl | rfl <;> simp [zup, zfa]
  have hw2 : w = zwC g (g 2 2 11).toNat P (g 17 2 P) (g 15 2 P) H O (g 2 2 8 % 60) := by
    rw [hw, m3, m20]
    unfold zwC
    rw [zev_cong m11 _ 0 0 _ hL.2.1.2.2]
  generalize hG : zup (zup (zup M3 12 0 (S * 3) w.1) 12 0 (S * 3 + 1) w.2.1) 12 0 (S * 3 + 2) w.2.2 = M
  have g12 : ∀ c, M 12 0 c = if c = S * 3 + 2 then w.2.2 else if c = S * 3 + 1 then w.2.1 else if c = S * 3 then w.1 else g 12 0 c := by
    intro c; subst hG; subst hM; simp [zup]
  have g13 : ∀ c, M 13 0 c = if c = S then g 1 0 8 else g 13 0 c := by
    intro c; subst hG; subst hM; simp [zup]
  have hSL : zSL g M := by
    subst hG; subst hM
    refine ⟨fun f h1 h2 h3 h4 => ?_, fun i k h3 h4 h5 => ?_⟩
    · simp only [zup_nf _ _ _ _ h1, zup_nf _ _ _ _ h2, zup_nf _ _ _ _ h3, zup_nf _ _ _ _ h4]
    · simp [zup, h3, h4, h5]
  have hck : CK M := by
    obtain ⟨c1, c2⟩ := hL.2.2.1
    have e8 : M 1 0 8 = g 1 0 8 := hSL.2 0 8 (by decide) (by decide) (by decide)
    have em : M 2 = g 2 := hSL.1 2 (by decide) (by decide) (by decide) (by decide)
    refine ⟨fun s hs => ?_, fun p h f hp hh hf hq => ?_⟩
    · rw [g13, e8]; split
      · exact Int.le_refl _
      · exact c1 s hs
    · rw [e8, g13] at hq
      rw [em] at hp
      have ez : zwC M (M 2 2 11).toNat = zwC g (g 2 2 11).toNat := by
        rw [em]; unfold zwC; rw [hSL.1 3 (by decide) (by decide) (by decide) (by decide), hSL.1 20 (by decide) (by decide) (by decide) (by decide)]
      rw [ez, hSL.1 17 (by decide) (by decide) (by decide) (by decide), hSL.1 15 (by decide) (by decide) (by decide) (by decide), em, g12, g12, g12]
      by_cases hs : (p * 8 + h) * 6 + f = S
      · have e1 : p = P := by omega
        have e2 : h = H := by omega
        have e3 : f = O := by omega
        subst e1; subst e2; subst e3
        rw [if_neg (by omega), if_neg (by omega), if_pos (by omega), if_neg (by omega), if_pos (by omega), if_pos (by omega), ← hw2]
      · rw [if_neg hs] at hq
        rw [if_neg (by omega), if_neg (by omega), if_neg (by omega), if_neg (by omega), if_neg (by omega), if_neg (by omega), if_neg (by omega), if_neg (by omega), if_neg (by omega)]
        exact c2 p h f hp hh hf hq
  have e5 : M 1 0 5 = ((S * 3 : Nat) : Int) := by subst hG; subst hM; simp [zup]
  refine ⟨rfl, hSL, hSL.lok hL hck, ?_, ?_, ?_, ?_⟩
  · subst hG; subst hM; simp [zup, hO]
  · subst hG; subst hM; simp [zup, hA]
  · rw [e5]; omega
  · rw [e5, g12, g12, g12]
    rw [if_neg (by omega), if_neg (by omega), if_pos (by omega), if_neg (by omega), if_pos (by omega), if_pos (by omega), hw2]
    unfold tWt
    rw [show ((P : Int)).toNat = P by omega, ← hO]
    rfl
theorem l_X1_weigh2 {Y : ZW} {g : ZG} {P H O S : Nat} {aa : Int} (hL : LOK g) (hP : (P : Int) < g 2 2 3) (hH : (H : Int) < g 2 2 0) (hO : (O : Int) = tBes (zTL g) P H) (hA : aa = tAl (zTL g) P H) (hS : S = (P * 8 + H) * 6 + O) : ZVV Y mX1_weigh (zcx Y 2 (WPOST g P H)) 91 [ZR 1 0, ZI (P : Int), ZI (H : Int), ZI (g 2 2 3)] [] (zup (zup g 1 0 3 (O : Int)) 1 0 4 aa) := by
  have hb := tBes_rng (zTL g) (p := P) H (show P < (g 2 2 3).toNat by omega)
  obtain ⟨h1, h2, h3, h4, h5, h6⟩ := id hL.1
  have hO6 : O < 6 := by have : (tnp (zTL g)) = g 2 2 3 := rfl; rw [this] at hb; omega
  have eS : (((((P : Int) * 8) + (H : Int)) * 6) + (O : Int)).toNat = S := by omega
  have e3 : ((((((P : Int) * 8) + (H : Int)) * 6) + (O : Int)) * 3) = ((S * 3 : Nat) : Int) := by omega
  have e0 : (((((P : Int) * 8) + (H : Int)) * 6 + (O : Int)) * 3 + 0).toNat = S * 3 := by omega
  have e1 : (((((P : Int) * 8) + (H : Int)) * 6 + (O : Int)) * 3 + 1).toNat = S * 3 + 1 := by omega
  have e2 : (((((P : Int) * 8) + (H : Int)) * 6 + (O : Int)) * 3 + 2).toNat = S * 3 + 2 := by omega
  refine zs_iload_n (j := 1) (i := 1) rfl rfl rfl ?_
  refine zs_bipush (n := 8) rfl ⟨by omega, by omega⟩ ?_
  refine zs_imul_r rfl ⟨by omega, by omega⟩ ?_
  refine zs_iload_n (j := 2) (i := 2) rfl rfl rfl ?_
  refine zs_iadd_r rfl ⟨by omega, by omega⟩ ?_
  refine zs_bipush (n := 6) rfl ⟨by omega, by omega⟩ ?_
  refine zs_imul_r rfl ⟨by omega, by omega⟩ ?_
  show ZVV _ _ _ 100 _ _ _
  refine zs_aload_n (j := 0) (i := 0) rfl rfl rfl ?_
  refine zs_getfield (f := 1) (k := 3) rfl rfl (trivial) ?_
  show ZVV _ _ _ _ _ (ZI (O : Int) :: _) _
  refine zs_iadd_r rfl ⟨by omega, by omega⟩ ?_
  refine zs_istore_n (j := 3) (i := 3) rfl rfl (by decide) (by intro r x hr; have hr2 : r = 2 := (by omega); subst hr2; intro z; cases z) ?_
  show ZVV _ _ _ _ [ZR 1 0, ZI (P : Int), ZI (H : Int), ZI (((((P : Int) * 8) + (H : Int)) * 6) + (O : Int))] _ _
  refine zs_aload_n (j := 0) (i := 0) rfl rfl rfl ?_
  refine zs_iload_n (j := 3) (i := 3) rfl rfl rfl ?_
  refine zs_iconst (n := 3) rfl ⟨by omega, by omega⟩ ?_
  refine zs_imul_r rfl ⟨by omega, by omega⟩ ?_
  show ZVV _ _ _ 110 _ _ _
  refine zs_putfield (f := 1) (k := 5) (x := (((((P : Int) * 8) + (H : Int)) * 6) + (O : Int)) * 3) rfl rfl (rfl) ?_
  refine zs_aload_n (j := 0) (i := 0) rfl rfl rfl ?_
  refine zs_getfield (f := 1) (k := 7) rfl rfl (trivial) ?_
  show ZVV _ _ _ _ _ (ZR 13 0 :: _) _
  refine zs_iload_n (j := 3) (i := 3) rfl rfl rfl ?_
  refine zs_iald (n := 288) rfl rfl (by omega) (by omega) ?_
  show ZVV _ _ _ _ _ (ZI (g 13 0 (((((P : Int) * 8) + (H : Int)) * 6) + (O : Int)).toNat) :: _) _
  refine zs_aload_n (j := 0) (i := 0) rfl rfl rfl ?_
  refine zs_getfield (f := 1) (k := 8) rfl rfl (trivial) ?_
  show ZVV _ _ _ _ _ (ZI (g 1 0 8) :: _) _
  refine zs_icmp_eq 228 rfl (by omega) (fun hc_123 => ?_) (fun hc_123 => ?_)
  · exact zs_return rfl rfl (by rw [e3]; exact zw_hit hL hP hH hO hA hS (by rw [← eS]; exact hc_123))
  · refine zs_aload_n (j := 0) (i := 0) rfl rfl rfl ?_
    refine zs_getfield (f := 1) (k := 7) rfl rfl (trivial) ?_
    show ZVV _ _ _ _ _ (ZR 13 0 :: _) _
    refine zs_iload_n (j := 3) (i := 3) rfl rfl rfl ?_
    refine zs_aload_n (j := 0) (i := 0) rfl rfl rfl ?_
    refine zs_getfield (f := 1) (k := 8) rfl rfl (trivial) ?_
    show ZVV _ _ _ _ _ (ZI (g 1 0 8) :: _) _
    refine zs_iast (n := 288) rfl rfl (by omega) (by omega) ?_
    refine zs_aload_n (j := 0) (i := 0) rfl rfl rfl ?_
    show ZVV _ _ _ 137 _ _ _
    refine zs_getfield (f := 1) (k := 2) rfl rfl (trivial) ?_
    show ZVV _ _ _ _ _ (ZR 11 0 :: _) _
    refine zs_iconst (n := 0) rfl ⟨by omega, by omega⟩ ?_
    refine zs_iload_n (j := 1) (i := 1) rfl rfl rfl ?_
    refine zs_iast (n := 6) rfl rfl (by omega) (by omega) ?_
    show ZVV _ _ _ _ _ _ (zup (zup (zup (zup (zup g 1 0 3 (O : Int)) 1 0 4 aa) 1 0 5 ((((((P : Int) * 8) + (H : Int)) * 6) + (O : Int)) * 3)) 13 0 ((((((P : Int) * 8) + (H : Int)) * 6) + (O : Int)).toNat) (g 1 0 8)) 11 0 0 (P : Int))
    refine zs_aload_n (j := 0) (i := 0) rfl rfl rfl ?_
    refine zs_getfield (f := 1) (k := 2) rfl rfl (trivial) ?_
    show ZVV _ _ _ _ _ (ZR 11 0 :: _) _
    refine zs_iconst (n := 1) rfl ⟨by omega, by omega⟩ ?_
    refine zs_aload_n (j := 0) (i := 0) rfl rfl rfl ?_
    show ZVV _ _ _ 149 _ _ _
    refine zs_getfield (f := 1) (k := 0) rfl rfl (trivial) ?_
    show ZVV _ _ _ _ _ (ZR 2 2 :: _) _
    refine zs_getfield (f := 2) (k := 6) rfl rfl (trivial) ?_
    show ZVV _ _ _ _ _ (ZR 17 2 :: _) _
    refine zs_iload_n (j := 1) (i := 1) rfl rfl rfl ?_
    refine zs_iald (n := 6) rfl rfl (by omega) (by omega) ?_
    show ZVV _ _ _ _ _ (ZI (g 17 2 P) :: _) _
    refine zs_iast (n := 6) rfl rfl (by omega) (by omega) ?_
    show ZVV _ _ _ _ _ _ (zup (zup (zup (zup (zup (zup g 1 0 3 (O : Int)) 1 0 4 aa) 1 0 5 ((((((P : Int) * 8) + (H : Int)) * 6) + (O : Int)) * 3)) 13 0 ((((((P : Int) * 8) + (H : Int)) * 6) + (O : Int)).toNat) (g 1 0 8)) 11 0 0 (P : Int)) 11 0 1 (g 17 2 P))
    refine zs_aload_n (j := 0) (i := 0) rfl rfl rfl ?_
    refine zs_getfield (f := 1) (k := 2) rfl rfl (trivial) ?_
    show ZVV _ _ _ _ _ (ZR 11 0 :: _) _
    refine zs_iconst (n := 2) rfl ⟨by omega, by omega⟩ ?_
    show ZVV _ _ _ 163 _ _ _
    refine zs_aload_n (j := 0) (i := 0) rfl rfl rfl ?_
    refine zs_getfield (f := 1) (k := 0) rfl rfl (trivial) ?_
    show ZVV _ _ _ _ _ (ZR 2 2 :: _) _
    refine zs_getfield (f := 2) (k := 4) rfl rfl (trivial) ?_
    show ZVV _ _ _ _ _ (ZR 15 2 :: _) _
    refine zs_iload_n (j := 1) (i := 1) rfl rfl rfl ?_
    refine zs_iald (n := 6) rfl rfl (by omega) (by omega) ?_
    show ZVV _ _ _ _ _ (ZI (g 15 2 P) :: _) _
    refine zs_iast (n := 6) rfl rfl (by omega) (by omega) ?_
    show ZVV _ _ _ _ _ _ (zup (zup (zup (zup (zup (zup (zup g 1 0 3 (O : Int)) 1 0 4 aa) 1 0 5 ((((((P : Int) * 8) + (H : Int)) * 6) + (O : Int)) * 3)) 13 0 ((((((P : Int) * 8) + (H : Int)) * 6) + (O : Int)).toNat) (g 1 0 8)) 11 0 0 (P : Int)) 11 0 1 (g 17 2 P)) 11 0 2 (g 15 2 P))
    refine zs_aload_n (j := 0) (i := 0) rfl rfl rfl ?_
    refine zs_getfield (f := 1) (k := 2) rfl rfl (trivial) ?_
    show ZVV _ _ _ _ _ (ZR 11 0 :: _) _
    show ZVV _ _ _ 177 _ _ _
    refine zs_iconst (n := 3) rfl ⟨by omega, by omega⟩ ?_
    refine zs_iload_n (j := 2) (i := 2) rfl rfl rfl ?_
    refine zs_iast (n := 6) rfl rfl (by omega) (by omega) ?_
    show ZVV _ _ _ _ _ _ (zup (zup (zup (zup (zup (zup (zup (zup g 1 0 3 (O : Int)) 1 0 4 aa) 1 0 5 ((((((P : Int) * 8) + (H : Int)) * 6) + (O : Int)) * 3)) 13 0 ((((((P : Int) * 8) + (H : Int)) * 6) + (O : Int)).toNat) (g 1 0 8)) 11 0 0 (P : Int)) 11 0 1 (g 17 2 P)) 11 0 2 (g 15 2 P)) 11 0 3 (H : Int))
    refine zs_aload_n (j := 0) (i := 0) rfl rfl rfl ?_
    refine zs_getfield (f := 1) (k := 2) rfl rfl (trivial) ?_
    show ZVV _ _ _ _ _ (ZR 11 0 :: _) _
    refine zs_iconst (n := 4) rfl ⟨by omega, by omega⟩ ?_
    refine zs_aload_n (j := 0) (i := 0) rfl rfl rfl ?_
    refine zs_getfield (f := 1) (k := 3) rfl rfl (trivial) ?_
    show ZVV _ _ _ _ _ (ZI (O : Int) :: _) _
    show ZVV _ _ _ 189 _ _ _
    refine zs_iast (n := 6) rfl rfl (by omega) (by omega) ?_
    show ZVV _ _ _ _ _ _ (zup (zup (zup (zup (zup (zup (zup (zup (zup g 1 0 3 (O : Int)) 1 0 4 aa) 1 0 5 ((((((P : Int) * 8) + (H : Int)) * 6) + (O : Int)) * 3)) 13 0 ((((((P : Int) * 8) + (H : Int)) * 6) + (O : Int)).toNat) (g 1 0 8)) 11 0 0 (P : Int)) 11 0 1 (g 17 2 P)) 11 0 2 (g 15 2 P)) 11 0 3 (H : Int)) 11 0 4 (O : Int))
    refine zs_aload_n (j := 0) (i := 0) rfl rfl rfl ?_
    refine zs_getfield (f := 1) (k := 2) rfl rfl (trivial) ?_
    show ZVV _ _ _ _ _ (ZR 11 0 :: _) _
    refine zs_iconst (n := 5) rfl ⟨by omega, by omega⟩ ?_
    refine zs_aload_n (j := 0) (i := 0) rfl rfl rfl ?_
    refine zs_getfield (f := 1) (k := 0) rfl rfl (trivial) ?_
    show ZVV _ _ _ _ _ (ZR 2 2 :: _) _
    refine zs_getfield (f := 2) (k := 8) rfl rfl (trivial) ?_
    show ZVV _ _ _ _ _ (ZI (g 2 2 8) :: _) _
    refine zs_bipush (n := 60) rfl ⟨by omega, by omega⟩ ?_
    show ZVV _ _ _ 204 _ _ _
    refine zs_irem_p rfl (by omega) (by omega) ?_
    refine zs_iast (n := 6) rfl rfl (by omega) (by omega) ?_
    show ZVV _ _ _ _ _ _ (zup (zup (zup (zup (zup (zup (zup (zup (zup (zup g 1 0 3 (O : Int)) 1 0 4 aa) 1 0 5 ((((((P : Int) * 8) + (H : Int)) * 6) + (O : Int)) * 3)) 13 0 ((((((P : Int) * 8) + (H : Int)) * 6) + (O : Int)).toNat) (g 1 0 8)) 11 0 0 (P : Int)) 11 0 1 (g 17 2 P)) 11 0 2 (g 15 2 P)) 11 0 3 (H : Int)) 11 0 4 (O : Int)) 11 0 5 ((g 2 2 8) % 60))
    refine zs_aload_n (j := 0) (i := 0) rfl rfl rfl ?_
    refine zs_getfield (f := 1) (k := 0) rfl rfl (trivial) ?_
    show ZVV _ _ _ _ _ (ZR 2 2 :: _) _
    refine zs_getfield (f := 2) (k := 11) rfl rfl (trivial) ?_
    show ZVV _ _ _ _ _ (ZR 3 ((g 2 2 11).toNat) :: _) _
    refine zs_aload_n (j := 0) (i := 0) rfl rfl rfl ?_
    refine zs_getfield (f := 1) (k := 2) rfl rfl (trivial) ?_
    show ZVV _ _ _ _ _ (ZR 11 0 :: _) _
    refine zs_aload_n (j := 0) (i := 0) rfl rfl rfl ?_
    show ZVV _ _ _ 218 _ _ _
    refine zs_getfield (f := 1) (k := 6) rfl rfl (trivial) ?_
    show ZVV _ _ _ _ _ (ZR 12 0 :: _) _
    refine zs_aload_n (j := 0) (i := 0) rfl rfl rfl ?_
    refine zs_getfield (f := 1) (k := 5) rfl rfl (trivial) ?_
    show ZVV _ _ _ _ _ (ZI ((((((P : Int) * 8) + (H : Int)) * 6) + (O : Int)) * 3) :: _) _
    refine zs_callV (host := "") rfl kX1_72 vX3_weigh (c_X3_weigh (g 2 2 11).toNat (((((P : Int) * 8) + (H : Int)) * 6 + (O : Int)) * 3)) [ZR 11 0, ZR 12 0, ZI (((((P : Int) * 8) + (H : Int)) * 6 + (O : Int)) * 3)] [] rfl (zroom_of (by omega)) rfl (Nat.le_of_ble_eq_true rfl) ⟨rfl, ⟨by omega, by omega⟩, hL.2.1.2⟩ (fun r_225 g_225 hq_225 => ?_)
    obtain ⟨hr_225, hg_225⟩ := hq_225
    rw [hr_225]
    show ZVV _ _ _ 228 _ [] g_225
    exact zs_return rfl rfl (by rw [hg_225, e0, e1, e2]; exact zw_miss hL hP hH hO hA hS (by rw [eS, e3]) rfl)
theorem c_X1_weigh (p h : Int) : ZC mX1_weigh 2 (fun av g => av = [ZR 1 0, ZI p, ZI h] ∧ LOK g ∧ (0 ≤ p ∧ p < g 2 2 3) ∧ (0 ≤ h ∧ h < g 2 2 0)) (fun _ g r g' => WPOST g p h r g') := by
  refine zc_of gX1_weigh (fun av g hp => by obtain ⟨rfl, -⟩ := hp; exact Nat.le_of_ble_eq_true rfl) (fun Y av g hwf hrg hp hok => ?_)
  obtain ⟨rfl, hp⟩ := hp
  show ZVV _ _ _ 0 [ZR 1 0, ZI p, ZI h, ZX 99] [] _
  refine zs_aload_n (j := 0) (i := 0) rfl rfl rfl ?_
  refine zs_iconst (n := 0) rfl ⟨by omega, by omega⟩ ?_
  refine zs_putfield (f := 1) (k := 3) (x := 0) rfl rfl (rfl) ?_
  refine zs_aload_n (j := 0) (i := 0) rfl rfl rfl ?_
  refine zs_iconst (n := 0) rfl ⟨by omega, by omega⟩ ?_
  refine zs_putfield (f := 1) (k := 4) (x := 0) rfl rfl (rfl) ?_
  refine zs_iconst (n := 0) rfl ⟨by omega, by omega⟩ ?_
  show ZVV _ _ _ 11 _ _ _
  refine zs_istore_n (j := 3) (i := 3) rfl rfl (by decide) (by intro r x hr; have hr2 : r = 2 := (by omega); subst hr2; intro z; cases z) ?_
  show ZVV _ _ _ _ [ZR 1 0, ZI p, ZI h, ZI 0] _ _
  obtain ⟨hL, hpp, hh⟩ := hp
  obtain ⟨P, rfl⟩ : ∃ P : Nat, p = (P : Int) := ⟨p.toNat, by omega⟩
  obtain ⟨H, rfl⟩ : ∃ H : Nat, h = (H : Int) := ⟨h.toNat, by omega⟩
  have hb := tBes_rng (zTL g) (p := P) H (show P < (g 2 2 3).toNat by omega)
  obtain ⟨O, hO⟩ : ∃ O : Nat, (O : Int) = tBes (zTL g) P H := ⟨(tBes (zTL g) P H).toNat, by omega⟩
  refine l_X1_weigh (zroom_of (by omega)) hL.1 hpp hh (g 2 2 3).toNat 0 0 0 (by have := hL.1.2.2.1; omega) (by omega) (by omega) ?_
  rw [Int.zero_add, Int.zero_add]
  have e1 : zsum (fun q => if q ≠ ((P : Int)).toNat ∧ zliv (g 2 2 0) (g 2 2 1) (g 18 2) q (H : Int) = true then 1 else 0) (g 2 2 3).toNat 0 = (O : Int) := hO.symm
  rw [e1]
  exact l_X1_weigh2 hL hpp.2 hh.2 hO rfl rfl

