theorem start_fresh {g G : ZG} (h : LC g) (hG : G = zup (zup (zcopyF g 2 0) 1 0 1 (-1)) 1 0 8 (g 1 0 8 + 1)) : ∀ s : Nat, s < 288 → G 13 0 s < G 1 0 8 := by
  intro s hs
  subst hG
  have f13 : mstart g 13 = g 13 := (mstart_nf g (by decide)).trans (by funext i; exact zcopyF_o g (by omega))
  have f18 : mstart g 1 0 8 = g 1 0 8 + 1 := by show zup _ _ _ _ _ 1 0 8 = _; rw [zup_eq]
  show mstart g 13 0 s < mstart g 1 0 8
  rw [f13, f18]
  have := h.1 s hs
  omega
def mbk (G : ZG) (p : Nat) (h v : Int) : ZG := zup (mput G p h) 2 2 8 v
theorem mbk_nf (G : ZG) (p : Nat) (h v : Int) {f : Nat} (h2 : f ≠ 2) (h18 : f ≠ 18) : mbk G p h v f = G f := by unfold mbk; rw [zup_nf _ _ _ _ h2, mput_nf _ _ _ h18]
theorem mbk_18 (G : ZG) (p : Nat) (h v : Int) : mbk G p h v 18 = mput G p h 18 := by unfold mbk; rw [zup_nf _ _ _ _ (by decide)]
theorem mbk_2k (G : ZG) (p : Nat) (h v : Int) {k : Nat} (hk : k ≠ 8) (i : Nat) : mbk G p h v 2 i k = G 2 i k := by unfold mbk; rw [zup_nk _ _ _ _ _ _ hk, mput_nf _ _ _ (by decide)]
theorem mbk_28 (G : ZG) (p : Nat) (h v : Int) : mbk G p h v 2 2 8 = v := by unfold mbk; rw [zup_eq]
def tBk (t : ZT) (p : Nat) (h v : Int) : ZT := ((tn t, tsh t, tnp t, v), (tput t p h).2)
theorem mbk_town (G : ZG) (p : Nat) (h v : Int) : zTL (mbk G p h v) = tBk (zTL G) p h v := by
  unfold zTL zTC zwC
  rw [mbk_nf G p h v (f := 1) (by decide) (by decide), mbk_nf G p h v (f := 3) (by decide) (by decide), mbk_nf G p h v (f := 15) (by decide) (by decide), mbk_nf G p h v (f := 16) (by decide) (by decide), mbk_nf G p h v (f := 17) (by decide) (by decide), mbk_nf G p h v (f := 20) (by decide) (by decide), mbk_18, mput_18, mbk_28, mbk_2k G p h v (k := 0) (by decide), mbk_2k G p h v (k := 1) (by decide), mbk_2k G p h v (k := 3) (by decide), mbk_2k G p h v (k := 11) (by decide)]
  rfl
theorem mbk_lok {G : ZG} {p : Nat} {h v : Int} (hL : LOK G) (hf : ∀ s : Nat, s < 288 → G 13 0 s < G 1 0 8) (hh : -1 ≤ h ∧ h < G 2 2 0) (hv : 0 ≤ v ∧ v ≤ 100000) : LOK (mbk G p h v) := by
  have h1 := mput_lok hL (p := p) hh
  have e0 := mbk_2k G p h v (k := 0) (by decide) 2
  have e1 := mbk_2k G p h v (k := 1) (by decide) 2
  have e3 := mbk_2k G p h v (k := 3) (by decide) 2
  have e11 := mbk_2k G p h v (k := 11) (by decide) 2
  have m2 : mput G p h 2 = G 2 := mput_nf G p h (by decide)
  obtain ⟨⟨a1, a2, a3, a4, a5, a6⟩, b, c, d⟩ := h1
  rw [m2] at a1 a2 a3 a4 a5 a6
  refine ⟨⟨by rw [e0]; exact a1, by rw [e1]; exact a2, by rw [e3]; exact a3, by rw [mbk_28]; exact hv, fun q hq => ?_, fun q hq => ?_⟩, ?_, ⟨fun s hs => ?_, fun P H F hp hH hF he => ?_⟩, ?_⟩
  · rw [e0] at hq
    rw [e0, e1, mbk_nf G p h v (f := 14) (by decide) (by decide)]
    have := a5 q hq
    rw [mput_nf G p h (f := 14) (by decide)] at this
    exact this
  · rw [e3] at hq
    rw [e0, mbk_18, mbk_nf G p h v (f := 17) (by decide) (by decide), mbk_nf G p h v (f := 15) (by decide) (by decide), mbk_nf G p h v (f := 16) (by decide) (by decide)]
    have := a6 q hq
    rw [mput_nf G p h (f := 17) (by decide), mput_nf G p h (f := 15) (by decide), mput_nf G p h (f := 16) (by decide)] at this
    exact this
  · unfold HOLD at *
    rw [e11, mbk_nf G p h v (f := 3) (by decide) (by decide), mbk_nf G p h v (f := 20) (by decide) (by decide)]
    rw [m2, mput_nf G p h (f := 3) (by decide), mput_nf G p h (f := 20) (by decide)] at b
    exact b
  · rw [mbk_nf G p h v (f := 13) (by decide) (by decide), mbk_nf G p h v (f := 1) (by decide) (by decide)]
    have := hf s hs; omega
  · exfalso
    rw [mbk_nf G p h v (f := 13) (by decide) (by decide), mbk_nf G p h v (f := 1) (by decide) (by decide)] at he
    rw [e3] at hp
    have := hf ((P * 8 + H) * 6 + F) (by omega)
    omega
  · rw [mbk_nf G p h v (f := 1) (by decide) (by decide)]
    rw [mput_nf G p h (f := 1) (by decide)] at d
    exact d
def tBf (t : ZT) (p h : Nat) (s : Int × Int × Int) : Int × Int × Int := if zwho (tnp t) (tho t) h = -1 ∧ (0 ≤ (tStep (tBk t p h (max 0 (tmv t - 1)))).1 ∧ tSame (tStep (tBk t p h (max 0 (tmv t - 1)))).2 (tho t) = true) then (s.1 + 1, (if s.1 = 0 then (p : Int) else s.2.1), (if s.1 = 0 then (h : Int) else s.2.2)) else s
def cBef (t : ZT) : Int × Int × Int := zfold (fun p s => zfold (tBf t p) (tn t).toNat 0 s) (tnp t).toNat 0 (0, -5, -5)
def cBefore (g : ZG) (w : Int) : Int := if w < 0 ∨ 2 < w then -1 else if w = 0 then (cBef (cT g)).1 else if w = 1 then (cBef (cT g)).2.1 else (cBef (cT g)).2.2
theorem tBf_no {t : ZT} {p h : Nat} {s : Int × Int × Int} (hn : ¬ (zwho (tnp t) (tho t) h = -1 ∧ (0 ≤ (tStep (tBk t p h (max 0 (tmv t - 1)))).1 ∧ tSame (tStep (tBk t p h (max 0 (tmv t - 1)))).2 (tho t) = true))) : tBf t p h s = s := if_neg hn
theorem tBf_yes {t : ZT} {p h : Nat} {s : Int × Int × Int} (hn : zwho (tnp t) (tho t) h = -1 ∧ (0 ≤ (tStep (tBk t p h (max 0 (tmv t - 1)))).1 ∧ tSame (tStep (tBk t p h (max 0 (tmv t - 1)))).2 (tho t) = true)) : tBf t p h s = (s.1 + 1, (if s.1 = 0 then (p : Int) else s.2.1), (if s.1 = 0 then (h : Int) else s.2.2)) := if_pos hn
theorem zLV.bk {g G : ZG} {p : Nat} {h v : Int} (hS : zLV g 1 G) (hf : ∀ s : Nat, s < 288 → G 13 0 s < G 1 0 8) (hp : p < 6) (hh : 0 ≤ h ∧ h < G 2 2 0) (hv : 0 ≤ v ∧ v ≤ 9999) : zLV g 1 (mbk G p h v) := by
  refine ⟨mbk_lok hS.1 hf ⟨by omega, hh.2⟩ ⟨by omega, by omega⟩, fun q hq => ?_, fun f i hvv => ?_, fun f i k h1 h2 => ?_, ?_, ?_⟩
  · rw [mbk_2k _ _ _ _ (by decide)] at hq
    rw [mbk_18, mput_18]
    dsimp only
    split
    · exact hh.1
    · exact hS.2.1 q hq
  · have hn := zvis_no hvv
    rw [← hS.2.2.1 f i hvv]
    funext k
    unfold mbk mput zup
    rw [if_neg (by omega), if_neg (by omega)]
  · rw [← hS.2.2.2.1 f i k h1 h2]
    unfold mbk mput zup
    rw [if_neg (by omega), if_neg (by omega)]
  · rw [mbk_nf _ _ _ _ (by decide) (by decide)]; exact hS.2.2.2.2.1
  · rw [mbk_28]; omega
theorem l_X7_bef {Y : ZW} {Q : Option ZV → ZG → Prop} {g : ZG} {w : Int} {p : Nat} (hp : CP g) (hb : g 1 0 8 ≤ 899999000) (hpn : (p : Int) < g 2 0 3) : ∀ (m k : Nat) (G : ZG) (s : Int × Int × Int), (k : Int) + m = g 2 0 0 → zQR (16 * (p : Int) + 2 * ((k : Nat) : Int)) g G → (0 ≤ s.1 ∧ s.1 ≤ 8 * p + k) → (∀ M, zQR (16 * (p : Int) + 2 * ((k + m : Nat) : Int)) g M → ZVV Y mX7_before (zcx Y 7 Q) 172 [ZR 7 0, ZI w, ZI ((zfold (tBf (cT g) p) m k s).1), ZI ((zfold (tBf (cT g) p) m k s).2.1), ZI ((zfold (tBf (cT g) p) m k s).2.2), ZI (p : Int), ZI (g 2 0 0)] [] M) → ZVV Y mX7_before (zcx Y 7 Q) 38 [ZR 7 0, ZI w, ZI s.1, ZI s.2.1, ZI s.2.2, ZI (p : Int), ZI (k : Int)] [] G := by
  have hn6 := hp.1.1.2.2.1
  have hn8 := hp.1.1.1
  intro m
  induction m with
  | zero =>
    intro k G s hk hGq hs hq
    have hV := hGq.1
    have e2_G : G 2 0 = g 2 0 := hV 2 0 rfl
    have e18_G : G 18 0 = g 18 0 := hV 18 0 rfl
    have ecT : cT G = cT g := cT_vs hV
    refine zs_iload (i := 6) rfl rfl ?_
    refine zs_aload_n (j := 0) (i := 0) rfl rfl rfl ?_
    refine zs_getfield (f := 7) (k := 5) rfl rfl (trivial) ?_
    show ZVV _ _ _ _ _ (ZR 2 0 :: _) _
    refine zs_getfield (f := 2) (k := 0) rfl rfl (trivial) ?_
    show ZVV _ _ _ _ _ (ZI (G 2 0 0) :: _) _
    rw [e2_G]
    refine zs_icmp_ge 172 rfl (by omega) (fun hc_47 => ?_) (fun hc_47 => ?_)
    · have := hq G hGq
      rw [show g 2 0 0 = (k : Int) by omega] at this
      exact this
    · exfalso; omega
  | succ m ih =>
    intro k G s hk hGq hs hq
    have hV := hGq.1
    have e2_G : G 2 0 = g 2 0 := hV 2 0 rfl
    have e18_G : G 18 0 = g 18 0 := hV 18 0 rfl
    have ecT : cT G = cT g := cT_vs hV
    have hpG : CP G := hp.next hGq (by omega)
    refine zs_iload (i := 6) rfl rfl ?_
    refine zs_aload_n (j := 0) (i := 0) rfl rfl rfl ?_
    refine zs_getfield (f := 7) (k := 5) rfl rfl (trivial) ?_
    show ZVV _ _ _ _ _ (ZR 2 0 :: _) _
    refine zs_getfield (f := 2) (k := 0) rfl rfl (trivial) ?_
    show ZVV _ _ _ _ _ (ZI (G 2 0 0) :: _) _
    rw [e2_G]
    refine zs_icmp_ge 172 rfl (by omega) (fun hc_47 => ?_) (fun hc_47 => ?_)
    · exfalso; omega
    · refine zs_aload_n (j := 0) (i := 0) rfl rfl rfl ?_
      refine zs_getfield (f := 7) (k := 5) rfl rfl (trivial) ?_
      show ZVV _ _ _ _ _ (ZR 2 0 :: _) _
      refine zs_iload (i := 6) rfl rfl ?_
      refine zs_callV (host := "") rfl kX7_87 vX2_whoIn (c_X2_whoIn 0 (k : Int)) [ZI (k : Int)] [] rfl (zroom_of (by omega)) rfl (Nat.le_of_ble_eq_true rfl) ⟨rfl, by rw [e2_G]; exact hn6⟩ (fun r_56 g_56 hq_56 => ?_)
      obtain ⟨hr_56, hg_56⟩ := hq_56
      rw [hr_56, hg_56, e2_G, e18_G]
      show ZVV _ _ _ 59 _ [ZI (zwho (g 2 0 3) (g 18 0) (k : Int))] _
      refine zs_iconst (n := (-1)) rfl ⟨by omega, by omega⟩ ?_
      refine zs_icmp_ne 166 rfl (by omega) (fun hc_60 => ?_) (fun hc_60 => ?_)
      · refine zs_iinc_r (i := 6) rfl rfl (by intro r x hr; have hr2 : r = 5 := (by omega); subst hr2; intro z; cases z) ⟨by omega, by omega⟩ ?_
        show ZVV _ _ _ _ [ZR 7 0, ZI w, ZI s.1, ZI s.2.1, ZI s.2.2, ZI (p : Int), ZI ((k : Int) + 1)] _ _
        refine zs_goto 38 rfl (by omega) ?_
        have hno := tBf_no (t := cT g) (p := p) (h := k) (s := s) (fun z => hc_60 z.1)
        refine ih (k + 1) _ s (by omega) (hGq.le (by omega)) ⟨hs.1, by have := hs.2; omega⟩ (fun M hM => ?_)
        have := hq M (hM.le (by omega))
        rw [zfold_s, hno] at this
        exact this
      · refine zs_aload_n (j := 0) (i := 0) rfl rfl rfl ?_
        refine zs_getfield (f := 7) (k := 7) rfl rfl (trivial) ?_
        show ZVV _ _ _ _ _ (ZR 1 0 :: _) _
        refine zs_aload_n (j := 0) (i := 0) rfl rfl rfl ?_
        refine zs_getfield (f := 7) (k := 5) rfl rfl (trivial) ?_
        show ZVV _ _ _ _ _ (ZR 2 0 :: _) _
        refine zs_callV (host := "") rfl kX7_98 vX1_startFrom (c_X1_startFrom 0) [ZR 2 0] [] rfl (zroom_of (by omega)) rfl (Nat.le_of_ble_eq_true rfl) ⟨rfl, ⟨by decide, hpG.2.1.2.1, Int.le_trans hpG.2.2 (by decide)⟩, hpG.1.2.1.1.1⟩ (fun r_71 g_71 hq_71 => ?_)
        obtain ⟨hr_71, hg_71⟩ := hq_71
        rw [hr_71]
        obtain ⟨hL71, hH71, hT71, hV71, hB71, hs71, eL18_71, eL3_71, eL0_71, eL8_71⟩ := start_okx hpG hg_71
        have e2_71 : g_71 2 0 = G 2 0 := hV71 2 0 rfl
        have e15_71 : g_71 15 0 = G 15 0 := hV71 15 0 rfl
        have e16_71 : g_71 16 0 = G 16 0 := hV71 16 0 rfl
        have e17_71 : g_71 17 0 = G 17 0 := hV71 17 0 rfl
        have e18_71 : g_71 18 0 = G 18 0 := hV71 18 0 rfl
        have e19_71 : g_71 19 0 = G 19 0 := hV71 19 0 rfl
        obtain ⟨hLS, hTT⟩ := zLV.start hpG hg_71
        have hfr := start_fresh hpG.2.1 hg_71
        rw [ecT] at hTT
        have e2_71g : g_71 2 0 = g 2 0 := e2_71.trans e2_G
        show ZVV _ _ _ 74 _ [] g_71
        refine zs_aload_n (j := 0) (i := 0) rfl rfl rfl ?_
        refine zs_getfield (f := 7) (k := 7) rfl rfl (trivial) ?_
        show ZVV _ _ _ _ _ (ZR 1 0 :: _) _
        show ZVV _ _ _ 78 _ _ _
        refine zs_getfield (f := 1) (k := 0) rfl rfl (trivial) ?_
        show ZVV _ _ _ _ _ (ZR 2 2 :: _) _
        refine zs_getfield (f := 2) (k := 7) rfl rfl (trivial) ?_
        show ZVV _ _ _ _ _ (ZR 18 2 :: _) _
        refine zs_iload (i := 5) rfl rfl ?_
        refine zs_iload (i := 6) rfl rfl ?_
        refine zs_iast (n := 6) rfl rfl (by omega) (by omega) ?_
        show ZVV _ _ _ _ _ _ (zup g_71 18 2 p (k : Int))
        refine zs_aload_n (j := 0) (i := 0) rfl rfl rfl ?_
        refine zs_getfield (f := 7) (k := 7) rfl rfl (trivial) ?_
        show ZVV _ _ _ _ _ (ZR 1 0 :: _) _
        refine zs_getfield (f := 1) (k := 0) rfl rfl (trivial) ?_
        show ZVV _ _ _ _ _ (ZR 2 2 :: _) _
        show ZVV _ _ _ 96 _ _ _
        refine zs_iconst (n := 0) rfl ⟨by omega, by omega⟩ ?_
        refine zs_aload_n (j := 0) (i := 0) rfl rfl rfl ?_
        refine zs_getfield (f := 7) (k := 5) rfl rfl (trivial) ?_
        show ZVV _ _ _ _ _ (ZR 2 0 :: _) _
        refine zs_getfield (f := 2) (k := 8) rfl rfl (trivial) ?_
        show ZVV _ _ _ _ _ (ZI (g_71 2 0 8) :: _) _
        rw [e2_71g]
        refine zs_iconst (n := 1) rfl ⟨by omega, by omega⟩ ?_
        refine zs_isub_r rfl ⟨by have := hp.1.2.2.2; omega, by have := hp.1.2.2.2; omega⟩ ?_
        refine zs_max rfl kX7_188 (zroom_of (by omega)) (Nat.le_of_ble_eq_true rfl) ?_
        refine zs_putfield (f := 2) (k := 8) (x := max 0 ((g 2 0 8) - 1)) rfl rfl (rfl) ?_
        show ZVV _ _ _ 112 _ _ _
        refine zs_aload_n (j := 0) (i := 0) rfl rfl rfl ?_
        refine zs_getfield (f := 7) (k := 7) rfl rfl (trivial) ?_
        show ZVV _ _ _ _ _ (ZR 1 0 :: _) _
        show ZVV _ _ _ _ _ _ (mbk g_71 p (k : Int) (max 0 (g 2 0 8 - 1)))
        have hk0 : (k : Int) < g_71 2 2 0 := by rw [eL0_71, e2_G]; omega
        have hmv := hp.1.2.2.2
        have hLK := hLS.bk (p := p) (h := (k : Int)) (v := max 0 (g 2 0 8 - 1)) hfr (by omega) ⟨by omega, hk0⟩ ⟨by omega, by omega⟩
        refine zs_callV (host := "") rfl kX7_158 vX1_step c_X1_step [] [] rfl (zroom_of (by omega)) rfl (Nat.le_of_ble_eq_true rfl) ⟨rfl, hLK.1, hLK.2.1, by have := hLK.2.2.2.2.2; omega, by have := hLK.2.2.2.2.1; have := hpG.2.2; omega⟩ (fun r_116 g_116 hq_116 => ?_)
        obtain ⟨hr_116, hT_116, hL_116, hH_116, hS_116, hs_116⟩ := hq_116
        have hLS2 : zLV G 2 g_116 := hLK.step (by decide) hT_116 hL_116 hH_116 hS_116 hs_116
        have hGN : zQR (16 * (p : Int) + 2 * ((k + 1 : Nat) : Int)) g g_116 := zLV.next hGq hLS2 (by omega)
        have e18_116 : g_116 18 0 = g 18 0 := hGN.1 18 0 rfl
        rw [mbk_town, hTT] at hT_116
        rw [hr_116, mbk_town, hTT]
        show ZVV _ _ _ 119 _ [ZI ((tStep (tBk (cT g) p (k : Int) (max 0 (g 2 0 8 - 1)))).1)] _
        refine zs_if_lt 166 rfl (by omega) (fun hc_119 => ?_) (fun hc_119 => ?_)
        · refine zs_iinc_r (i := 6) rfl rfl (by intro r x hr; have hr2 : r = 5 := (by omega); subst hr2; intro z; cases z) ⟨by omega, by omega⟩ ?_
          show ZVV _ _ _ _ [ZR 7 0, ZI w, ZI s.1, ZI s.2.1, ZI s.2.2, ZI (p : Int), ZI ((k : Int) + 1)] _ _
          refine zs_goto 38 rfl (by omega) ?_
          have hno := tBf_no (t := cT g) (p := p) (h := k) (s := s) (fun z => by first | exact absurd z.2.1 (by have := hc_119; show ¬ (0 ≤ (tStep (tBk (cT g) p (k : Int) (max 0 (g 2 0 8 - 1)))).1); omega) | (have h9 := z.2.2; rw [show tStep (tBk (cT g) p k (max 0 (tmv (cT g) - 1))) = tStep (tBk (cT g) p (k : Int) (max 0 (g 2 0 8 - 1))) from rfl, ← hT_116] at h9; exact zifp0 hc_136 (of_decide_eq_true h9)))
          refine ih (k + 1) _ s (by omega) hGN ⟨hs.1, by have := hs.2; omega⟩ (fun M hM => ?_)
          have := hq M (hM.le (by omega))
          rw [zfold_s, hno] at this
          exact this
        · refine zs_aload_n (j := 0) (i := 0) rfl rfl rfl ?_
          refine zs_getfield (f := 7) (k := 7) rfl rfl (trivial) ?_
          show ZVV _ _ _ _ _ (ZR 1 0 :: _) _
          refine zs_getfield (f := 1) (k := 0) rfl rfl (trivial) ?_
          show ZVV _ _ _ _ _ (ZR 2 2 :: _) _
          refine zs_aload_n (j := 0) (i := 0) rfl rfl rfl ?_
          refine zs_getfield (f := 7) (k := 5) rfl rfl (trivial) ?_
          show ZVV _ _ _ _ _ (ZR 2 0 :: _) _
          have hn6b := hL_116.1.2.2.1
          refine zs_callV (host := "") rfl kX7_167 vX2_isLivedInAs (c_X2_isLivedInAs 2 0) [ZR 2 0] [] rfl (zroom_of (by omega)) rfl (Nat.le_of_ble_eq_true rfl) ⟨rfl, hn6b⟩ (fun r_133 g_133 hq_133 => ?_)
          obtain ⟨hr_133, hg_133⟩ := hq_133
          rw [hr_133, hg_133, e18_116]
          show ZVV _ _ _ 136 _ [ZI (if zfst (fun j => decide (g_116 18 2 j ≠ g 18 0 j)) (g_116 2 2 3).toNat 0 = -1 then 1 else 0)] _
          refine zs_if_eq 166 rfl (by omega) (fun hc_136 => ?_) (fun hc_136 => ?_)
          · refine zs_iinc_r (i := 6) rfl rfl (by intro r x hr; have hr2 : r = 5 := (by omega); subst hr2; intro z; cases z) ⟨by omega, by omega⟩ ?_
            show ZVV _ _ _ _ [ZR 7 0, ZI w, ZI s.1, ZI s.2.1, ZI s.2.2, ZI (p : Int), ZI ((k : Int) + 1)] _ _
            refine zs_goto 38 rfl (by omega) ?_
            have hno := tBf_no (t := cT g) (p := p) (h := k) (s := s) (fun z => by first | exact absurd z.2.1 (by have := hc_119; show ¬ (0 ≤ (tStep (tBk (cT g) p (k : Int) (max 0 (g 2 0 8 - 1)))).1); omega) | (have h9 := z.2.2; rw [show tStep (tBk (cT g) p k (max 0 (tmv (cT g) - 1))) = tStep (tBk (cT g) p (k : Int) (max 0 (g 2 0 8 - 1))) from rfl, ← hT_116] at h9; exact zifp0 hc_136 (of_decide_eq_true h9)))
            refine ih (k + 1) _ s (by omega) hGN ⟨hs.1, by have := hs.2; omega⟩ (fun M hM => ?_)
            have := hq M (hM.le (by omega))
            rw [zfold_s, hno] at this
            exact this
          · refine zs_iload_n (j := 2) (i := 2) rfl rfl rfl ?_
            refine zs_if_ne 148 rfl (by omega) (fun hc_140 => ?_) (fun hc_140 => ?_)
            · refine zs_iload_n (j := 3) (i := 3) rfl rfl rfl ?_
              refine zs_istore_n (j := 3) (i := 3) rfl rfl (by decide) (by intro r x hr; have hr2 : r = 2 := (by omega); subst hr2; intro z; cases z) ?_
              show ZVV _ _ _ _ [ZR 7 0, ZI w, ZI s.1, ZI s.2.1, ZI s.2.2, ZI (p : Int), ZI (k : Int)] _ _
              refine zs_iload_n (j := 2) (i := 2) rfl rfl rfl ?_
              refine zs_if_ne 159 rfl (by omega) (fun hc_151 => ?_) (fun hc_151 => ?_)
              · refine zs_iload (i := 4) rfl rfl ?_
                refine zs_istore (i := 4) rfl (by decide) (by intro r x hr; have hr2 : r = 3 := (by omega); subst hr2; intro z; cases z) ?_
                show ZVV _ _ _ _ [ZR 7 0, ZI w, ZI s.1, ZI s.2.1, ZI s.2.2, ZI (p : Int), ZI (k : Int)] _ _
                refine zs_iinc_r (i := 2) rfl rfl (by intro r x hr; have hr2 : r = 1 := (by omega); subst hr2; intro z; cases z) ⟨by omega, by omega⟩ ?_
                show ZVV _ _ _ _ [ZR 7 0, ZI w, ZI (s.1 + 1), ZI s.2.1, ZI s.2.2, ZI (p : Int), ZI (k : Int)] _ _
                refine zs_iinc_r (i := 6) rfl rfl (by intro r x hr; have hr2 : r = 5 := (by omega); subst hr2; intro z; cases z) ⟨by omega, by omega⟩ ?_
                show ZVV _ _ _ _ [ZR 7 0, ZI w, ZI (s.1 + 1), ZI s.2.1, ZI s.2.2, ZI (p : Int), ZI ((k : Int) + 1)] _ _
                refine zs_goto 38 rfl (by omega) ?_
                have hsm : tSame (tStep (tBk (cT g) p (k : Int) (max 0 (g 2 0 8 - 1)))).2 (g 18 0) = true := by rw [← hT_116]; exact decide_eq_true (zifp1 hc_136)
                have hno := tBf_yes (t := cT g) (p := p) (h := k) (s := s) ⟨Classical.not_not.mp hc_60, (by have := hc_119; show 0 ≤ (tStep (tBk (cT g) p (k : Int) (max 0 (g 2 0 8 - 1)))).1; omega), hsm⟩
                rw [if_neg (by omega), if_neg (by omega)] at hno
                refine ih (k + 1) _ (s.1 + 1, s.2.1, s.2.2) (by omega) hGN ⟨by have := hs.1; show 0 ≤ s.1 + 1; omega, by have := hs.2; show s.1 + 1 ≤ _; omega⟩ (fun M hM => ?_)
                have := hq M (hM.le (by omega))
                rw [zfold_s, hno] at this
                exact this
              · exfalso; omega
            · refine zs_iload (i := 5) rfl rfl ?_
              refine zs_goto 149 rfl (by omega) ?_
              refine zs_istore_n (j := 3) (i := 3) rfl rfl (by decide) (by intro r x hr; have hr2 : r = 2 := (by omega); subst hr2; intro z; cases z) ?_
              show ZVV _ _ _ _ [ZR 7 0, ZI w, ZI s.1, ZI (p : Int), ZI s.2.2, ZI (p : Int), ZI (k : Int)] _ _
              refine zs_iload_n (j := 2) (i := 2) rfl rfl rfl ?_
              refine zs_if_ne 159 rfl (by omega) (fun hc_151 => ?_) (fun hc_151 => ?_)
              · exfalso; omega
              · refine zs_iload (i := 6) rfl rfl ?_
                refine zs_goto 161 rfl (by omega) ?_
                refine zs_istore (i := 4) rfl (by decide) (by intro r x hr; have hr2 : r = 3 := (by omega); subst hr2; intro z; cases z) ?_
                show ZVV _ _ _ _ [ZR 7 0, ZI w, ZI s.1, ZI (p : Int), ZI (k : Int), ZI (p : Int), ZI (k : Int)] _ _
                refine zs_iinc_r (i := 2) rfl rfl (by intro r x hr; have hr2 : r = 1 := (by omega); subst hr2; intro z; cases z) ⟨by omega, by omega⟩ ?_
                show ZVV _ _ _ _ [ZR 7 0, ZI w, ZI (s.1 + 1), ZI (p : Int), ZI (k : Int), ZI (p : Int), ZI (k : Int)] _ _
                refine zs_iinc_r (i := 6) rfl rfl (by intro r x hr; have hr2 : r = 5 := (by omega); subst hr2; intro z; cases z) ⟨by omega, by omega⟩ ?_
                show ZVV _ _ _ _ [ZR 7 0, ZI w, ZI (s.1 + 1), ZI (p : Int), ZI (k : Int), ZI (p : Int), ZI ((k : Int) + 1)] _ _
                refine zs_goto 38 rfl (by omega) ?_
                have hsm : tSame (tStep (tBk (cT g) p (k : Int) (max 0 (g 2 0 8 - 1)))).2 (g 18 0) = true := by rw [← hT_116]; exact decide_eq_true (zifp1 hc_136)
                have hno := tBf_yes (t := cT g) (p := p) (h := k) (s := s) ⟨Classical.not_not.mp hc_60, (by have := hc_119; show 0 ≤ (tStep (tBk (cT g) p (k : Int) (max 0 (g 2 0 8 - 1)))).1; omega), hsm⟩
                rw [if_pos (by omega), if_pos (by omega)] at hno
                refine ih (k + 1) _ (s.1 + 1, (p : Int), (k : Int)) (by omega) hGN ⟨by have := hs.1; show 0 ≤ s.1 + 1; omega, by have := hs.2; show s.1 + 1 ≤ _; omega⟩ (fun M hM => ?_)
                have := hq M (hM.le (by omega))
                rw [zfold_s, hno] at this
                exact this
theorem tBfs_rng (t : ZT) (p : Nat) : ∀ (m k : Nat) (s : Int × Int × Int), s.1 ≤ (zfold (tBf t p) m k s).1 ∧ (zfold (tBf t p) m k s).1 ≤ s.1 + m := by
  intro m
  induction m with
  | zero => intro k s; exact ⟨Int.le_refl _, by show s.1 ≤ s.1 + 0; omega⟩
  | succ m ih =>
    intro k s
    rw [zfold_s]
    have h := ih (k + 1) (tBf t p k s)
    have h2 : s.1 ≤ (tBf t p k s).1 ∧ (tBf t p k s).1 ≤ s.1 + 1 := by
      unfold tBf
      split
      · exact ⟨by show s.1 ≤ s.1 + 1; omega, Int.le_refl _⟩
      · exact ⟨Int.le_refl _, by omega⟩
    omega
theorem l_X7_before {Y : ZW} {Q : Option ZV → ZG → Prop} {g : ZG} {w : Int} (hp : CP g) (hb : g 1 0 8 ≤ 899999000) (hw : 0 ≤ w ∧ w ≤ 2) : ∀ (m p : Nat) (G : ZG) (s : Int × Int × Int) (z6 : ZV), (∀ y, z6 ≠ ZJ y) → (p : Int) + m = g 2 0 3 → zQR (16 * (p : Int)) g G → (0 ≤ s.1 ∧ s.1 ≤ 8 * p) → (∀ M, zQR 96 g M → Q (some (ZI (if w = 0 then (zfold (fun p s => zfold (tBf (cT g) p) (g 2 0 0).toNat 0 s) m p s).1 else if w = 1 then (zfold (fun p s => zfold (tBf (cT g) p) (g 2 0 0).toNat 0 s) m p s).2.1 else (zfold (fun p s => zfold (tBf (cT g) p) (g 2 0 0).toNat 0 s) m p s).2.2))) M) → ZVV Y mX7_before (zcx Y 7 Q) 23 [ZR 7 0, ZI w, ZI s.1, ZI s.2.1, ZI s.2.2, ZI (p : Int), z6] [] G := by
  have hn6 := hp.1.1.2.2.1
  have hn8 := hp.1.1.1
  intro m
  induction m with
  | zero =>
    intro p G s z6 hz6 hk hGq hs hq
    have hV := hGq.1
    have e2_G : G 2 0 = g 2 0 := hV 2 0 rfl
    have e18_G : G 18 0 = g 18 0 := hV 18 0 rfl
    have ecT : cT G = cT g := cT_vs hV
    refine zs_iload (i := 5) rfl rfl ?_
    refine zs_aload_n (j := 0) (i := 0) rfl rfl rfl ?_
    refine zs_getfield (f := 7) (k := 5) rfl rfl (trivial) ?_
    show ZVV _ _ _ _ _ (ZR 2 0 :: _) _
    refine zs_getfield (f := 2) (k := 3) rfl rfl (trivial) ?_
    show ZVV _ _ _ _ _ (ZI (G 2 0 3) :: _) _
    rw [e2_G]
    refine zs_icmp_ge 178 rfl (by omega) (fun hc_32 => ?_) (fun hc_32 => ?_)
    · refine zs_iload_n (j := 1) (i := 1) rfl rfl rfl ?_
      refine zs_if_ne 186 rfl (by omega) (fun hc_179 => ?_) (fun hc_179 => ?_)
      · refine zs_iload_n (j := 1) (i := 1) rfl rfl rfl ?_
        refine zs_iconst (n := 1) rfl ⟨by omega, by omega⟩ ?_
        refine zs_icmp_ne 195 rfl (by omega) (fun hc_188 => ?_) (fun hc_188 => ?_)
        · refine zs_iload (i := 4) rfl rfl ?_
          exact zs_ireturn rfl rfl (by
      have := hq _ (hGq.le (by omega))
      first
      | (rw [if_pos (by omega)] at this; exact this)
      | (rw [if_neg (by omega), if_pos (by omega)] at this; exact this)
      | (rw [if_neg (by omega), if_neg (by omega)] at this; exact this))
        · refine zs_iload_n (j := 3) (i := 3) rfl rfl rfl ?_
          refine zs_goto 197 rfl (by omega) ?_
          exact zs_ireturn rfl rfl (by
      have := hq _ (hGq.le (by omega))
      first
      | (rw [if_pos (by omega)] at this; exact this)
      | (rw [if_neg (by omega), if_pos (by omega)] at this; exact this)
      | (rw [if_neg (by omega), if_neg (by omega)] at this; exact this))
      · refine zs_iload_n (j := 2) (i := 2) rfl rfl rfl ?_
        refine zs_goto 197 rfl (by omega) ?_
        exact zs_ireturn rfl rfl (by
      have := hq _ (hGq.le (by omega))
      first
      | (rw [if_pos (by omega)] at this; exact this)
      | (rw [if_neg (by omega), if_pos (by omega)] at this; exact this)
      | (rw [if_neg (by omega), if_neg (by omega)] at this; exact this))
    · exfalso; omega
  | succ m ih =>
    intro p G s z6 hz6 hk hGq hs hq
    have hV := hGq.1
    have e2_G : G 2 0 = g 2 0 := hV 2 0 rfl
    have e18_G : G 18 0 = g 18 0 := hV 18 0 rfl
    have ecT : cT G = cT g := cT_vs hV
    refine zs_iload (i := 5) rfl rfl ?_
    refine zs_aload_n (j := 0) (i := 0) rfl rfl rfl ?_
    refine zs_getfield (f := 7) (k := 5) rfl rfl (trivial) ?_
    show ZVV _ _ _ _ _ (ZR 2 0 :: _) _
    refine zs_getfield (f := 2) (k := 3) rfl rfl (trivial) ?_
    show ZVV _ _ _ _ _ (ZI (G 2 0 3) :: _) _
    rw [e2_G]
    refine zs_icmp_ge 178 rfl (by omega) (fun hc_32 => ?_) (fun hc_32 => ?_)
    · exfalso; omega
    · refine zs_iconst (n := 0) rfl ⟨by omega, by omega⟩ ?_
      refine zs_istore (i := 6) rfl (by decide) (by intro r x hr; have hr2 : r = 5 := (by omega); subst hr2; intro z; cases z) ?_
      show ZVV _ _ _ _ [ZR 7 0, ZI w, ZI s.1, ZI s.2.1, ZI s.2.2, ZI (p : Int), ZI 0] _ _
      refine l_X7_bef hp hb (by omega) (g 2 0 0).toNat 0 G s (by omega) (hGq.le (by omega)) ⟨hs.1, by omega⟩ (fun M hM => ?_)
      have hbr := tBfs_rng (cT g) p (g 2 0 0).toNat 0 s
      refine zs_iinc_r (i := 5) rfl rfl (by intro r x hr; have hr2 : r = 4 := (by omega); subst hr2; intro z; cases z) ⟨by omega, by omega⟩ ?_
      show ZVV _ _ _ _ [ZR 7 0, ZI w, ZI ((zfold (tBf (cT g) p) (g 2 0 0).toNat 0 s).1), ZI ((zfold (tBf (cT g) p) (g 2 0 0).toNat 0 s).2.1), ZI ((zfold (tBf (cT g) p) (g 2 0 0).toNat 0 s).2.2), ZI ((p : Int) + 1), ZI (g 2 0 0)] _ _
      refine zs_goto 23 rfl (by omega) ?_
      exact ih (p + 1) M _ _ (by intro y h; cases h) (by omega) (hM.le (by omega)) ⟨by omega, by omega⟩ (fun N hN => by have := hq N hN; rw [zfold_s] at this; exact this)
theorem c_X7_before (w : Int) : ZC mX7_before 7 (fun av g => av = [ZR 7 0, ZI w] ∧ CP g ∧ g 1 0 8 ≤ 899999000) (fun _ g r g' => r = some (ZI (cBefore g w)) ∧ zQR 96 g g') := by
  refine zc_of gX7_before (fun av g hp => by obtain ⟨rfl, -⟩ := hp; exact Nat.le_of_ble_eq_true rfl) (fun Y av g hwf hrg hp hok => ?_)
  obtain ⟨rfl, hp⟩ := hp
  show ZVV _ _ _ 0 [ZR 7 0, ZI w, ZX 99, ZX 99, ZX 99, ZX 99, ZX 99] [] _
  have hb := hp.2
  replace hp := hp.1
  refine zs_iload_n (j := 1) (i := 1) rfl rfl rfl ?_
  refine zs_if_lt 9 rfl (by omega) (fun hc_1 => ?_) (fun hc_1 => ?_)
  · refine zs_iconst (n := (-1)) rfl ⟨by omega, by omega⟩ ?_
    exact zs_ireturn rfl rfl (⟨by unfold cBefore; rw [if_pos (by omega)], ⟨zVS.rf g, hp.2.1, by omega⟩⟩)
  · refine zs_iload_n (j := 1) (i := 1) rfl rfl rfl ?_
    refine zs_iconst (n := 2) rfl ⟨by omega, by omega⟩ ?_
    refine zs_icmp_le 11 rfl (by omega) (fun hc_6 => ?_) (fun hc_6 => ?_)
    · refine zs_iconst (n := 0) rfl ⟨by omega, by omega⟩ ?_
      refine zs_istore_n (j := 2) (i := 2) rfl rfl (by decide) (by intro r x hr; have hr2 : r = 1 := (by omega); subst hr2; intro z; cases z) ?_
      show ZVV _ _ _ _ [ZR 7 0, ZI w, ZI 0, ZX 99, ZX 99, ZX 99, ZX 99] _ _
      refine zs_bipush (n := (-5)) rfl ⟨by omega, by omega⟩ ?_
      refine zs_istore_n (j := 3) (i := 3) rfl rfl (by decide) (by intro r x hr; have hr2 : r = 2 := (by omega); subst hr2; intro z; cases z) ?_
      show ZVV _ _ _ _ [ZR 7 0, ZI w, ZI 0, ZI (-5), ZX 99, ZX 99, ZX 99] _ _
      refine zs_bipush (n := (-5)) rfl ⟨by omega, by omega⟩ ?_
      refine zs_istore (i := 4) rfl (by decide) (by intro r x hr; have hr2 : r = 3 := (by omega); subst hr2; intro z; cases z) ?_
      show ZVV _ _ _ _ [ZR 7 0, ZI w, ZI 0, ZI (-5), ZI (-5), ZX 99, ZX 99] _ _
      refine zs_iconst (n := 0) rfl ⟨by omega, by omega⟩ ?_
      show ZVV _ _ _ 21 _ _ _
      refine zs_istore (i := 5) rfl (by decide) (by intro r x hr; have hr2 : r = 4 := (by omega); subst hr2; intro z; cases z) ?_
      show ZVV _ _ _ _ [ZR 7 0, ZI w, ZI 0, ZI (-5), ZI (-5), ZI 0, ZX 99] _ _
      refine l_X7_before hp hb (by omega) (g 2 0 3).toNat 0 g (0, -5, -5) _ (by intro y h; cases h) (by have := hp.1.1.2.2.1; omega) ⟨zVS.rf g, hp.2.1, by omega⟩ ⟨by decide, by decide⟩ (fun M z => ⟨?_, z⟩)
      unfold cBefore
      rw [if_neg (show ¬ (w < 0 ∨ 2 < w) by omega)]
      rfl
    · refine zs_iconst (n := (-1)) rfl ⟨by omega, by omega⟩ ?_
      exact zs_ireturn rfl rfl (⟨by unfold cBefore; rw [if_pos (by omega)], ⟨zVS.rf g, hp.2.1, by omega⟩⟩)

