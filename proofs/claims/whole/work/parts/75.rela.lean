theorem c_X7_moveT  : ZC mX7_move 7 (fun av g => av = [ZR 7 0] ∧ CP g) (fun _ g r g' => r = some (ZI (cMove g)) ∧ ((9999 ≤ g 2 0 8 ∧ g' = g) ∨ (g 2 0 8 < 9999 ∧ ∃ M, zTL M = (tStep (cT g)).2 ∧ zLV g 2 M ∧ (M 2 2 10 = g 2 0 10 ∧ M 2 2 11 = g 2 0 11 ∧ ∀ k, k < 12 → M 19 2 k = g 19 0 k) ∧ g' = zcopyF M 0 2))) := by
  refine zc_of gX7_move (fun av g hp => by obtain ⟨rfl, -⟩ := hp; exact Nat.le_of_ble_eq_true rfl) (fun Y av g hwf hrg hp hok => ?_)
  obtain ⟨rfl, hp⟩ := hp
  show ZVV _ _ _ 0 [ZR 7 0, ZX 99] [] _
  refine zs_aload_n (j := 0) (i := 0) rfl rfl rfl ?_
  refine zs_getfield (f := 7) (k := 5) rfl rfl (trivial) ?_
  show ZVV _ _ _ _ _ (ZR 2 0 :: _) _
  refine zs_getfield (f := 2) (k := 8) rfl rfl (trivial) ?_
  show ZVV _ _ _ _ _ (ZI (g 2 0 8) :: _) _
  refine zs_sipush (n := 9999) rfl ⟨by omega, by omega⟩ ?_
  refine zs_icmp_lt 16 rfl (by omega) (fun hc_10 => ?_) (fun hc_10 => ?_)
  · refine zs_aload_n (j := 0) (i := 0) rfl rfl rfl ?_
    refine zs_getfield (f := 7) (k := 7) rfl rfl (trivial) ?_
    show ZVV _ _ _ _ _ (ZR 1 0 :: _) _
    refine zs_aload_n (j := 0) (i := 0) rfl rfl rfl ?_
    refine zs_getfield (f := 7) (k := 5) rfl rfl (trivial) ?_
    show ZVV _ _ _ _ _ (ZR 2 0 :: _) _
    refine zs_callV (host := "") rfl kX7_98 vX1_startFrom (c_X1_startFrom 0) [ZR 2 0] [] rfl (zroom_of (by omega)) rfl (Nat.le_of_ble_eq_true rfl) ⟨rfl, ⟨by decide, hp.2.1.2.1, Int.le_trans hp.2.2 (by decide)⟩, hp.1.2.1.1.1⟩ (fun r_24 g_24 hq_24 => ?_)
    obtain ⟨hr_24, hg_24⟩ := hq_24
    rw [hr_24]
    obtain ⟨hL24, hH24, hT24, hV24, hB24, hs24, eL18_24, eL3_24, eL0_24, eL8_24⟩ := start_okx hp hg_24
    have e2_24 : g_24 2 0 = g 2 0 := hV24 2 0 rfl
    have e15_24 : g_24 15 0 = g 15 0 := hV24 15 0 rfl
    have e16_24 : g_24 16 0 = g 16 0 := hV24 16 0 rfl
    have e17_24 : g_24 17 0 = g 17 0 := hV24 17 0 rfl
    have e18_24 : g_24 18 0 = g 18 0 := hV24 18 0 rfl
    have e19_24 : g_24 19 0 = g 19 0 := hV24 19 0 rfl
    show ZVV _ _ _ 27 _ [] g_24
    refine zs_aload_n (j := 0) (i := 0) rfl rfl rfl ?_
    refine zs_getfield (f := 7) (k := 7) rfl rfl (trivial) ?_
    show ZVV _ _ _ _ _ (ZR 1 0 :: _) _
    show ZVV _ _ _ 31 _ _ _
    refine zs_callV (host := "") rfl kX7_158 vX1_step c_X1_step [] [] rfl (zroom_of (by omega)) rfl (Nat.le_of_ble_eq_true rfl) ⟨rfl, hL24, hH24, (by have := hp.1.2.2.2; omega), (by have := hp.2.2; omega)⟩ (fun r_31 g_31 hq_31 => ?_)
    obtain ⟨hr_31, hT_31, hL_31, hH_31, hS_31, hs_31⟩ := hq_31
    rw [hr_31]
    show ZVV _ _ _ 34 _ [ZI ((tStep (zTL g_24)).1)] _
    refine zs_istore_n (j := 1) (i := 1) rfl rfl (by decide) (by intro r x hr; have hr2 : r = 0 := (by omega); subst hr2; intro z; cases z) ?_
    show ZVV _ _ _ _ [ZR 7 0, ZI ((tStep (zTL g_24)).1)] _ _
    refine zs_aload_n (j := 0) (i := 0) rfl rfl rfl ?_
    refine zs_getfield (f := 7) (k := 5) rfl rfl (trivial) ?_
    show ZVV _ _ _ _ _ (ZR 2 0 :: _) _
    refine zs_aload_n (j := 0) (i := 0) rfl rfl rfl ?_
    refine zs_getfield (f := 7) (k := 7) rfl rfl (trivial) ?_
    show ZVV _ _ _ _ _ (ZR 1 0 :: _) _
    refine zs_getfield (f := 1) (k := 0) rfl rfl (trivial) ?_
    show ZVV _ _ _ _ _ (ZR 2 2 :: _) _
    have h11 := hL_31.2.1.1.1
    refine zs_callV (host := "") rfl kX7_164 vX2_copyFrom (c_X2_copyFrom 0 2) [ZR 2 2] [] rfl (zroom_of (by omega)) rfl (Nat.le_of_ble_eq_true rfl) ⟨rfl, by decide, h11⟩ (fun r_46 g_46 hq_46 => ?_)
    obtain ⟨hr_46, hg_46⟩ := hq_46
    rw [hr_46]
    show ZVV _ _ _ 49 _ [] _
    show ZVV _ _ _ 49 _ _ _
    refine zs_iload_n (j := 1) (i := 1) rfl rfl rfl ?_
    exact zs_ireturn rfl rfl (⟨by unfold cMove; rw [if_neg (by omega), hT24], Or.inr ⟨by omega, g_31, by rw [hT_31, hT24], (zLV.start hp hg_24).1.step (by decide) hT_31 hL_31 hH_31 hS_31 hs_31, ⟨by rw [hS_31.2.2.1 2 10 (by omega), hg_24]; show zup _ _ _ _ _ 2 2 10 = _; rw [zup_nf _ _ _ _ (by decide), zup_nf _ _ _ _ (by decide)]; exact zcopyF_2 g (by decide), by rw [hS_31.2.2.1 2 11 (by omega), hg_24]; show zup _ _ _ _ _ 2 2 11 = _; rw [zup_nf _ _ _ _ (by decide), zup_nf _ _ _ _ (by decide)]; exact zcopyF_2 g (by decide), fun k hk => by rw [hS_31.1 19 (by decide) (by decide) (by decide) (by decide) (by decide) (by decide), hg_24]; show zup _ _ _ _ _ 19 2 k = _; rw [zup_nf _ _ _ _ (by decide), zup_nf _ _ _ _ (by decide)]; exact zcopyF_19 g hk⟩, hg_46⟩⟩)
  · refine zs_bipush (n := (-3)) rfl ⟨by omega, by omega⟩ ?_
    exact zs_ireturn rfl rfl (⟨by unfold cMove; rw [if_pos (by omega)], Or.inl ⟨by omega, rfl⟩⟩)

/-! homes stay different -/
theorem DIS.ne {np : Int} {ho : Nat → Int} (h : DIS np ho) {p q : Nat} (hpq : p ≠ q) (hp : (p : Int) < np) (hq : (q : Int) < np) : ho p ≠ ho q := by
  by_cases hlt : p < q
  · exact h p q hlt hq
  · exact (h q p (by omega) hp).symm
theorem dis_put {np h : Int} {ho : Nat → Int} {k : Nat} (H : DIS np ho) (hw : zwho np ho h = -1) : DIS np (fun c => if c = k then h else ho c) := by
  have hn : ∀ j : Nat, (j : Int) < np → ho j ≠ h := fun j hj => of_decide_eq_false (zfst_none.mp hw j (Nat.zero_le _) (by omega))
  intro p q hpq hq
  show (if p = k then h else ho p) ≠ (if q = k then h else ho q)
  by_cases hp : p = k
  · rw [if_pos hp, if_neg (by omega)]; exact (hn q hq).symm
  · rw [if_neg hp]
    by_cases hq2 : q = k
    · rw [if_pos hq2]; exact hn p (by omega)
    · rw [if_neg hq2]; exact H p q hpq hq
theorem dis_swap {np : Int} {ho : Nat → Int} {k q0 : Nat} (H : DIS np ho) (hk : (k : Int) < np) (hq0 : (q0 : Int) < np) : DIS np (fun c => if c = q0 then ho k else if c = k then ho q0 else ho c) := by
  intro p q hpq hq
  show (if p = q0 then ho k else if p = k then ho q0 else ho p) ≠ (if q = q0 then ho k else if q = k then ho q0 else ho q)
  by_cases p1 : p = q0
  · rw [if_pos p1, if_neg (by omega)]
    by_cases q2 : q = k
    · rw [if_pos q2]; exact H.ne (by omega) hk hq0
    · rw [if_neg q2]; exact H.ne (fun z => q2 z.symm) hk hq
  · rw [if_neg p1]
    by_cases p2 : p = k
    · rw [if_pos p2]
      by_cases q1 : q = q0
      · rw [if_pos q1]; exact H.ne (by omega) hq0 hk
      · rw [if_neg q1, if_neg (by omega)]; exact H.ne (fun z => q1 z.symm) hq0 hq
    · rw [if_neg p2]
      by_cases q1 : q = q0
      · rw [if_pos q1]; exact H.ne p2 (by omega) hk
      · rw [if_neg q1]
        by_cases q2 : q = k
        · rw [if_pos q2]; exact H.ne p1 (by omega) hq0
        · rw [if_neg q2]; exact H p q hpq hq
theorem dis_move {t : ZT} {k : Nat} {h : Int} (H : DIS (tnp t) (tho t)) (hk : (k : Int) < tnp t) : DIS (tnp t) (tho (tMove t k h)) := by
  show DIS (tnp t) (if zwho (tnp t) (tho t) h = -1 then (fun c => if c = k then h else tho t c) else tho (tswap t k (zwho (tnp t) (tho t) h).toNat))
  by_cases hw : zwho (tnp t) (tho t) h = -1
  · rw [if_pos hw]; exact dis_put H hw
  · rw [if_neg hw]
    have hr := zfst_rng (fun p => decide (tho t p = h)) (tnp t).toNat 0
    have hw2 : ¬ zfst (fun p => decide (tho t p = h)) (tnp t).toNat 0 = -1 := hw
    have hr2 : zwho (tnp t) (tho t) h = zfst (fun p => decide (tho t p = h)) (tnp t).toNat 0 := rfl
    exact dis_swap H hk (by omega)
theorem dis_stepF : ∀ (n k : Nat) (t : ZT), (k : Int) + n ≤ tnp t → DIS (tnp t) (tho t) → tnp (tStepF t n k).2 = tnp t ∧ DIS (tnp t) (tho (tStepF t n k).2) := by
  intro n
  induction n with
  | zero => intro k t _ H; exact ⟨rfl, H⟩
  | succ n ih =>
    intro k t hk H
    rw [tStepF_s]
    by_cases hc : tHow t k = -5
    · rw [if_pos hc]; exact ih (k + 1) t (by omega) H
    · rw [if_neg hc]; exact ⟨rfl, dis_move H (by omega)⟩
theorem dis_step {t : ZT} (h0 : 0 ≤ tnp t) (H : DIS (tnp t) (tho t)) : tnp (tStep t).2 = tnp t ∧ DIS (tnp t) (tho (tStep t).2) := dis_stepF (tnp t).toNat 0 t (by omega) H
theorem step_sh : ∀ (n k : Nat) (t : ZT), tn (tStepF t n k).2 = tn t ∧ tsh (tStepF t n k).2 = tsh t ∧ tkd (tStepF t n k).2 = tkd t ∧ tv (tStepF t n k).2 = tv t ∧ tsr (tStepF t n k).2 = tsr t := by
  intro n
  induction n with
  | zero => intro k t; exact ⟨rfl, rfl, rfl, rfl, rfl⟩
  | succ n ih =>
    intro k t
    rw [tStepF_s]
    by_cases hc : tHow t k = -5
    · rw [if_pos hc]; exact ih (k + 1) t
    · rw [if_neg hc]; exact ⟨rfl, rfl, rfl, rfl, rfl⟩
/-! both memories say the same -/
def RS (st m14 k15 k16 k17 k18 k19 : Nat → Int) (ns n sh np mv bk the : Int) (kd v sr ho bks : Nat → Int) : Prop :=
  ((3 ≤ st 0 ∧ st 0 ≤ 8) ∧ (0 ≤ st 1 ∧ st 1 ≤ 2) ∧ (0 ≤ st 3 ∧ st 3 ≤ 6) ∧ (0 ≤ st 8 ∧ st 8 ≤ 9999) ∧ (0 ≤ st 10 ∧ st 10 ≤ 12) ∧ (st 11 = 6 ∨ (0 ≤ st 11 ∧ st 11 < ns))) ∧
  ((∀ h : Nat, (h : Int) < st 0 → m14 h = ((zmk (fun o => nx (st 0) (st 1) h o) (st 0).toNat : Nat) : Int)) ∧ (∀ p : Nat, (p : Int) < st 3 → (0 ≤ k18 p ∧ k18 p < st 0) ∧ (0 ≤ k17 p ∧ k17 p ≤ 2) ∧ (0 ≤ k15 p ∧ k15 p ≤ 6) ∧ (0 ≤ k16 p ∧ k16 p ≤ 9)) ∧ DIS (st 3) k18) ∧
  (n = st 0 ∧ sh = st 1 ∧ np = st 3 ∧ mv = st 8 ∧ bk = st 10 ∧ the = if st 11 = 6 then -1 else st 11) ∧
  (∀ k, k < 6 → kd k = k15 k ∧ v k = k16 k ∧ sr k = k17 k ∧ ho k = k18 k) ∧ ∀ k, k < 12 → bks k = k19 k
def RN (g : ZG) : Prop := RS (g 2 0) (g 14 0) (g 15 0) (g 16 0) (g 17 0) (g 18 0) (g 19 0) (g 7 0 8) (g 8 0 0) (g 8 0 1) (g 8 0 2) (g 8 0 3) (g 8 0 32) (g 8 0 9) (g 30 0) (g 31 0) (g 32 0) (g 33 0) (g 46 0)
def RI (g : ZG) : Prop := RS (g 2 1) (g 14 1) (g 15 1) (g 16 1) (g 17 1) (g 18 1) (g 19 1) (g 7 0 8) (g 8 0 36) (g 8 0 37) (g 8 0 38) (g 8 0 39) (g 8 0 40) (g 8 0 35) (g 47 0) (g 48 0) (g 49 0) (g 50 0) (g 51 0)
def RIm (g : ZG) : Prop := (g 7 0 9 = 0 ∨ (g 7 0 9 = 1 ∧ RI g)) ∧ g 8 0 34 = g 7 0 9 ∧ 0 ≤ g 2 1 11
def RSt (g : ZG) : Prop := (0 ≤ g 7 0 8 ∧ g 7 0 8 ≤ 6) ∧ g 8 0 8 = g 7 0 8 ∧ (g 3 6 1 = 0 ∧ g 3 6 2 = 0) ∧ ∃ Ls : Nat → List CL1, ∀ j : Nat, (j : Int) < g 7 0 8 → STC j g (Ls j) ∧ STM j g (Ls j) ∧ LOK1 (Ls j)
def RTx (g : ZG) : Prop := (0 ≤ g 5 0 0 ∧ g 5 0 0 ≤ 100) ∧ g 8 0 10 = g 5 0 0 ∧ (0 ≤ g 8 0 11 ∧ g 8 0 11 ≤ 100) ∧ ∀ k, k < 100 → g 34 0 k = g 22 0 k ∧ 0 ≤ g 34 0 k ∧ g 34 0 k ≤ 127
def RTp (g : ZG) : Prop := ∀ q : Nat, q < 6 → (g 53 0 q = g 4 q 0 ∧ g 54 0 q = g 4 q 1 ∧ (-1 ≤ g 4 q 0 ∧ g 4 q 0 ≤ 4) ∧ (0 ≤ g 4 q 1 ∧ g 4 q 1 ≤ 60) ∧ (g 4 q 0 = -1 → g 4 q 1 = 0)) ∧ ∀ i : Nat, i < 60 → g 55 0 (60 * q + i) = g 21 q i ∧ (g 4 q 0 = 4 → g 21 q i = 0 ∨ g 21 q i = 1)
def RTr (g : ZG) : Prop := g 8 0 46 = g 0 0 3 ∧ 0 ≤ g 0 0 3 ∧ ∀ k, k < 20 → g 52 0 k = g 10 0 k
def RZ (g : ZG) : Prop := LET g ∧ g 8 0 26 = -1 ∧ ∀ f, (30 ≤ f ∧ f ≤ 33) → ∀ k, 6 ≤ k → g f 0 k = 0
def RR (g : ZG) : Prop := RN g ∧ RIm g ∧ RSt g ∧ RTx g ∧ RTp g ∧ RTr g ∧ RZ g ∧ LC g
/-! what follows -/
theorem RR.fn {g : ZG} (h : RR g) : g 30 0 = g 15 0 ∧ g 31 0 = g 16 0 ∧ g 32 0 = g 17 0 ∧ g 33 0 = g 18 0 := by
  obtain ⟨⟨_, _, _, h4, _⟩, _, _, _, _, _, ⟨_, _, hz⟩, ⟨_, _, hB⟩⟩ := h
  refine ⟨?_, ?_, ?_, ?_⟩
  · funext k
    by_cases hk : k < 6
    · exact (h4 k hk).1
    · rw [hz 30 (by omega) k (by omega), hB 15 0 k (by omega) (by omega)]
  · funext k
    by_cases hk : k < 6
    · exact (h4 k hk).2.1
    · rw [hz 31 (by omega) k (by omega), hB 16 0 k (by omega) (by omega)]
  · funext k
    by_cases hk : k < 6
    · exact (h4 k hk).2.2.1
    · rw [hz 32 (by omega) k (by omega), hB 17 0 k (by omega) (by omega)]
  · funext k
    by_cases hk : k < 6
    · exact (h4 k hk).2.2.2
    · rw [hz 33 (by omega) k (by omega), hB 18 0 k (by omega) (by omega)]
theorem RR.cok {g : ZG} (h : RR g) : COK g := by
  obtain ⟨⟨⟨a1, a2, a3, a4, a5, a6⟩, ⟨b1, b2, b3⟩, _, _, _⟩, _, ⟨s1, s2, ⟨s3, s4⟩, Ls, s5⟩, _⟩ := h
  refine ⟨⟨a1, a2, a3, ⟨a4.1, by omega⟩, b1, fun p hp => ?_⟩, ?_, fun p hp => (b2 p hp).1.1, a4⟩
  · have := b2 p hp
    exact ⟨⟨by omega, this.1.2⟩, this.2.1, this.2.2.1, this.2.2.2⟩
  · unfold HOLD
    rcases a6 with a6 | a6
    · rw [a6]
      refine ⟨by decide, ?_, ?_⟩
      · show 0 ≤ g 3 6 1 ∧ g 3 6 1 ≤ 100; omega
      · show zwfs (g 20 6) (g 3 6 1).toNat 0 0
        rw [s3]; rfl
    · have h5 := s5 (g 2 0 11).toNat (by omega)
      have hl := h5.2.2.2.2
      refine ⟨by omega, by rw [h5.1.1]; omega, ?_⟩
      rw [h5.1.1, Int.toNat_natCast]
      exact zwfs_L _ 0 h5.2.2.1 h5.1.2.1
theorem RR.cp {g : ZG} (h : RR g) (hc : g 1 0 8 ≤ 900000000) : CP g := ⟨h.cok, h.2.2.2.2.2.2.2, hc⟩
theorem RR.w {g : ZG} (h : RR g) : zwC g (g 2 0 11).toNat = mW g ∧ MCL g := by
  obtain ⟨⟨⟨a1, a2, a3, a4, a5, a6⟩, _, ⟨c1, c2, c3, c4, c5, c6⟩, _, _⟩, _, ⟨s1, s2, ⟨s3, s4⟩, Ls, s5⟩, _⟩ := h
  rcases a6 with a6 | a6
  · rw [a6, if_pos rfl] at c6
    rw [a6]
    exact ⟨W_none s3 s4 c6, mcl_none c6⟩
  · rw [if_neg (by omega)] at c6
    have h5 := s5 (g 2 0 11).toNat (by omega)
    have c7 : g 8 0 9 = (((g 2 0 11).toNat : Nat) : Int) := by omega
    exact ⟨W_eq h5.1 h5.2.1 h5.2.2 c7, h5.2.1.mcl (by omega) h5.2.2 c7⟩
theorem RR.t {g : ZG} (h : RR g) : cT g = mT g := by
  obtain ⟨f1, f2, f3, f4⟩ := h.fn
  have hw := h.w.1
  obtain ⟨⟨_, _, ⟨c1, c2, c3, c4, c5, c6⟩, _, _⟩, _, _, _, _, _, ⟨_, z2, _⟩, _⟩ := h
  unfold mT
  rw [c1, c2, c3, c4, f1, f2, f3, f4, ← hw, z2]
  rfl
theorem RR.mp {g : ZG} (h : RR g) : MPI g := by
  obtain ⟨f1, f2, f3, f4⟩ := h.fn
  have hm := h.w.2
  obtain ⟨⟨⟨a1, a2, a3, a4, a5, a6⟩, ⟨b1, b2, b3⟩, ⟨c1, c2, c3, c4, c5, c6⟩, _, _⟩, _, _, _, _, _, ⟨_, z2, _⟩, _⟩ := h
  refine ⟨⟨by rw [c1]; exact a1, by rw [c2]; exact a2, by rw [c3]; exact a3, by rw [c4]; omega, by rw [z2]; decide, hm, fun p hp => ?_⟩, fun p hp => ?_, by rw [c4]; exact a4.2, z2⟩
  · rw [c3] at hp
    have := b2 p hp
    rw [f1, f2, f3, f4, c1]
    exact ⟨⟨by omega, this.1.2⟩, this.2.1, this.2.2.1, this.2.2.2⟩
  · rw [c3] at hp
    rw [f4]
    exact (b2 p hp).1.1
theorem RR.fed {g : ZG} (h : RR g) : FED g := by
  obtain ⟨_, _, _, ⟨t1, t2, t3, t4⟩, _⟩ := h
  exact ⟨by rw [t2]; exact t1, t3, fun k hk => (t4 k hk).2⟩
theorem RR.lk {g : ZG} (h : RR g) : lkm g = lkf g := by
  obtain ⟨_, _, _, ⟨t1, t2, t3, t4⟩, _⟩ := h
  funext a
  unfold lkm lkf
  rw [t2]
  by_cases hc : 0 ≤ a ∧ a < g 5 0 0 ∧ a < 100
  · rw [if_pos hc, if_pos hc]; exact (t4 a.toNat (by omega)).1
  · rw [if_neg hc, if_neg hc]
theorem RR.lkp {g : ZG} (h : RR g) : LKP (lkf g) (g 5 0 0) := by
  obtain ⟨_, _, _, ⟨t1, t2, t3, t4⟩, _⟩ := h
  refine ⟨t1, fun b hb => ?_⟩
  unfold lkf at hb
  by_cases hc : 0 ≤ b ∧ b < g 5 0 0 ∧ b < 100
  · exact ⟨hc.1, hc.2.1⟩
  · rw [if_neg hc] at hb; exact absurd rfl hb
/-- what all of this speaks of -/
def RC (g g' : ZG) : Prop := (∀ f i, ((f = 0 ∨ f = 3 ∨ f = 4 ∨ f = 5 ∨ f = 7 ∨ f = 10) ∨ (20 ≤ f ∧ f ≤ 22) ∨ (30 ≤ f ∧ f ≤ 42) ∨ (46 ≤ f ∧ f ≤ 56)) → g' f i = g f i) ∧ (∀ f i, i < 2 → (f = 2 ∨ (14 ≤ f ∧ f ≤ 19)) → g' f i = g f i) ∧ ∀ k, k ≠ 28 → k ≠ 30 → k ≠ 31 → g' 8 0 k = g 8 0 k
theorem RC.cls {g g' : ZG} (h : RC g g') {base : Nat} : ∀ (cl : List CL1) (b off : Nat), CLS base g b off cl → CLS base g' b off cl := by
  intro cl
  induction cl with
  | nil => intro b off _; trivial
  | cons y r ih =>
    intro b off hc
    refine ⟨?_, ih _ _ hc.2⟩
    rw [h.1 36 0 (by omega), h.1 37 0 (by omega), h.1 38 0 (by omega), h.1 39 0 (by omega)]
    exact hc.1
theorem RC.rr {g g' : ZG} (h : RC g g') (hL : LC g') (H : RR g) : RR g' := by
  obtain ⟨hN, hI, hS, hX, hT, hA, hZ, _⟩ := H
  have e8 : ∀ k, k ≠ 28 → k ≠ 30 → k ≠ 31 → g' 8 0 k = g 8 0 k := h.2.2
  refine ⟨?_, ?_, ?_, ?_, ?_, ?_, ?_, hL⟩
  · unfold RN
    rw [h.2.1 2 0 (by omega) (by omega), h.2.1 14 0 (by omega) (by omega), h.2.1 15 0 (by omega) (by omega), h.2.1 16 0 (by omega) (by omega), h.2.1 17 0 (by omega) (by omega), h.2.1 18 0 (by omega) (by omega), h.2.1 19 0 (by omega) (by omega), h.1 7 0 (by omega), h.1 30 0 (by omega), h.1 31 0 (by omega), h.1 32 0 (by omega), h.1 33 0 (by omega), h.1 46 0 (by omega), e8 0 (by omega) (by omega) (by omega), e8 1 (by omega) (by omega) (by omega), e8 2 (by omega) (by omega) (by omega), e8 3 (by omega) (by omega) (by omega), e8 32 (by omega) (by omega) (by omega), e8 9 (by omega) (by omega) (by omega)]
    exact hN
  · unfold RIm RI
    rw [h.2.1 2 1 (by omega) (by omega), h.2.1 14 1 (by omega) (by omega), h.2.1 15 1 (by omega) (by omega), h.2.1 16 1 (by omega) (by omega), h.2.1 17 1 (by omega) (by omega), h.2.1 18 1 (by omega) (by omega), h.2.1 19 1 (by omega) (by omega), h.1 7 0 (by omega), h.1 47 0 (by omega), h.1 48 0 (by omega), h.1 49 0 (by omega), h.1 50 0 (by omega), h.1 51 0 (by omega), e8 34 (by omega) (by omega) (by omega), e8 35 (by omega) (by omega) (by omega), e8 36 (by omega) (by omega) (by omega), e8 37 (by omega) (by omega) (by omega), e8 38 (by omega) (by omega) (by omega), e8 39 (by omega) (by omega) (by omega), e8 40 (by omega) (by omega) (by omega)]
    exact hI
  · obtain ⟨s1, s2, s3, Ls, s5⟩ := hS
    refine ⟨by rw [h.1 7 0 (by omega)]; exact s1, by rw [h.1 7 0 (by omega), e8 8 (by omega) (by omega) (by omega)]; exact s2, by rw [h.1 3 6 (by omega)]; exact s3, Ls, fun j hj => ?_⟩
    rw [h.1 7 0 (by omega)] at hj
    obtain ⟨c1, c2, c3⟩ := s5 j hj
    refine ⟨?_, ⟨by rw [h.1 35 0 (by omega)]; exact c2.1, h.cls _ _ _ c2.2.1, fun i hi => by rw [h.1 40 0 (by omega)]; exact c2.2.2 i hi⟩, c3⟩
    unfold STC
    rw [h.1 3 j (by omega), h.1 20 j (by omega)]
    exact c1
  · unfold RTx
    rw [h.1 5 0 (by omega), h.1 34 0 (by omega), h.1 22 0 (by omega), e8 10 (by omega) (by omega) (by omega), e8 11 (by omega) (by omega) (by omega)]
    exact hX
  · intro q hq
    rw [h.1 53 0 (by omega), h.1 54 0 (by omega), h.1 55 0 (by omega), h.1 4 q (by omega), h.1 21 q (by omega)]
    exact hT q hq
  · unfold RTr
    rw [h.1 0 0 (by omega), h.1 52 0 (by omega), h.1 10 0 (by omega), e8 46 (by omega) (by omega) (by omega)]
    exact hA
  · refine ⟨?_, by rw [e8 26 (by omega) (by omega) (by omega)]; exact hZ.2.1, fun f hf k hk => by rw [h.1 f 0 (by omega)]; exact hZ.2.2 f hf k hk⟩
    unfold LET
    rw [h.1 42 0 (by omega)]
    exact hZ.1
theorem zQR.rc {c : Int} {g g' : ZG} (h : zQR c g g') : RC g g' := by
  have key : ∀ f i, ¬ (f = 1 ∨ f = 6 ∨ f = 11 ∨ f = 12 ∨ f = 13 ∨ f = 23 ∨ f = 24) → ¬ ((f = 2 ∨ (14 ≤ f ∧ f ≤ 19)) ∧ i = 2) → g' f i = g f i := by
    intro f i h1 h2
    refine h.1 f i ?_
    unfold zvis
    simp only [Bool.not_eq_true', Bool.or_eq_false_iff, Bool.and_eq_false_iff, beq_eq_false_iff_ne]
    omega
  exact ⟨fun f i hf => key f i (by omega) (by omega), fun f i hi hf => key f i (by omega) (by omega), fun k _ _ _ => by rw [key 8 0 (by omega) (by omega)]⟩
theorem zA.rc {g g' : ZG} (h : zA g g') : RC g g' := ⟨fun f i hf => by rw [h.1 f (by omega) (by omega) (by omega) (by omega)], fun f i hi hf => by rw [h.1 f (by omega) (by omega) (by omega) (by omega)], fun k h1 h2 h3 => h.2 0 k (by omega)⟩
theorem zA.lc {g g' : ZG} (h : zA g g') (k : LC g) : LC g' ∧ g' 1 0 8 = g 1 0 8 := by
  have e13 := h.1 13 (by decide) (by decide) (by decide) (by decide)
  have e1 := h.1 1 (by decide) (by decide) (by decide) (by decide)
  refine ⟨⟨fun s hs => by rw [e13, e1]; exact k.1 s hs, by rw [e1]; exact k.2.1, fun f i c hf hc => by rw [h.1 f (by omega) (by omega) (by omega) (by omega)]; exact k.2.2 f i c hf hc⟩, by rw [e1]⟩
/-- asking changes nothing of it -/
theorem zQR.rr {c : Int} {g g' : ZG} (h : zQR c g g') (H : RR g) : RR g' := h.rc.rr h.2.1 H
theorem zA.rr {g g' : ZG} (h : zA g g') (H : RR g) : RR g' := h.rc.rr (h.lc H.2.2.2.2.2.2.2).1 H
