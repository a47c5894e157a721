theorem RS.cg {st st' m14 m14' k15 k16 k17 k18 k19 k19' k15' k16' k17' k18' : Nat → Int} {ns n sh np mv bk the : Int} {kd v sr ho bks kd' v' sr' ho' bks' : Nat → Int} (h : RS st m14 k15 k16 k17 k18 k19 ns n sh np mv bk the kd v sr ho bks) (e : ∀ k, (k = 0 ∨ k = 1 ∨ k = 3 ∨ k = 8 ∨ k = 10 ∨ k = 11) → st' k = st k) (e14 : ∀ k, k < 8 → m14' k = m14 k) (e15 : k15' = k15) (e16 : k16' = k16) (e17 : k17' = k17) (e18 : k18' = k18) (e19 : ∀ k, k < 12 → k19' k = k19 k) (ek : ∀ k, k < 6 → kd' k = kd k ∧ v' k = v k ∧ sr' k = sr k ∧ ho' k = ho k) (eb : ∀ k, k < 12 → bks' k = bks k) : RS st' m14' k15' k16' k17' k18' k19' ns n sh np mv bk the kd' v' sr' ho' bks' := by
  subst e15; subst e16; subst e17; subst e18
  obtain ⟨⟨a1, a2, a3, a4, a5, a6⟩, ⟨b1, b2, b3⟩, ⟨c1, c2, c3, c4, c5, c6⟩, d, f⟩ := h
  unfold RS
  rw [e 0 (by omega), e 1 (by omega), e 3 (by omega), e 8 (by omega), e 10 (by omega), e 11 (by omega)]
  refine ⟨⟨a1, a2, a3, a4, a5, a6⟩, ⟨fun h hh => by rw [e14 h (by omega)]; exact b1 h hh, b2, b3⟩, ⟨c1, c2, c3, c4, c5, c6⟩, fun k hk => ?_, fun k hk => ?_⟩
  · obtain ⟨x1, x2, x3, x4⟩ := ek k hk
    rw [x1, x2, x3, x4]; exact d k hk
  · rw [eb k hk, e19 k hk]; exact f k hk
theorem RS.ns {st m14 k15 k16 k17 k18 k19 : Nat → Int} {ns ns' n sh np mv bk the : Int} {kd v sr ho bks : Nat → Int} (h : RS st m14 k15 k16 k17 k18 k19 ns n sh np mv bk the kd v sr ho bks) (hn : ns ≤ ns') : RS st m14 k15 k16 k17 k18 k19 ns' n sh np mv bk the kd v sr ho bks := by
  obtain ⟨⟨a1, a2, a3, a4, a5, a6⟩, b, c, d, f⟩ := h
  exact ⟨⟨a1, a2, a3, a4, a5, by omega⟩, b, c, d, f⟩
theorem RR.of_N2 {g g' : ZG} (H : RR g) (hf : ∀ f, ((f = 0 ∨ f = 3 ∨ f = 4 ∨ f = 5 ∨ f = 7 ∨ f = 10) ∨ (20 ≤ f ∧ f ≤ 22) ∨ (34 ≤ f ∧ f ≤ 42) ∨ (47 ≤ f ∧ f ≤ 55)) → g' f = g f) (h1 : ∀ f, (f = 2 ∨ (14 ≤ f ∧ f ≤ 19)) → g' f 1 = g f 1) (h8 : ∀ k, ¬ (k ≤ 3 ∨ k = 32 ∨ k = 9) → g' 8 0 k = g 8 0 k) (hN : RN g') (hz : ∀ f, (30 ≤ f ∧ f ≤ 33) → ∀ k, 6 ≤ k → g' f 0 k = 0) (hL : LC g') : RR g' := by
  obtain ⟨_, hI, hS, hX, hT, hA, hZ, _⟩ := H
  have e7 := hf 7 (by omega)
  exact ⟨hN, hI.c h1 (fun f hff => by rw [hf f (by omega)]) ⟨by rw [e7], by rw [e7]⟩ (fun k hk => h8 k (by omega)), hS.c (fun f hff => hf f (by omega)) (by rw [e7]) (h8 8 (by omega)), hX.c ⟨hf 5 (by omega), hf 22 (by omega), hf 34 (by omega)⟩ ⟨h8 10 (by omega), h8 11 (by omega)⟩, hT.c (fun f hff => hf f (by omega)), hA.c ⟨hf 0 (by omega), hf 10 (by omega), hf 52 (by omega)⟩ (h8 46 (by omega)), hZ.c (hf 42 (by omega)) (h8 26 (by omega)) hz, hL⟩
/-! image -/
theorem M_image {g : ZG} (H : RR g) : g 2 0 3 = (mImage (zup (zcopyF g 1 0) 7 0 9 1)).1 ∧ OKS g (mImage (zup (zcopyF g 1 0) 7 0 9 1)).2 := by
  have hH := H
  obtain ⟨hN, hI, hS, hX, hT, hA, hZ, hL⟩ := H
  have hN0 := hN
  obtain ⟨⟨a1, a2, a3, a4, a5, a6⟩, ⟨b1, b2, b3⟩, ⟨c1, c2, c3, c4, c5, c6⟩, d, e⟩ := hN0
  generalize hg1 : zup (zcopyF g 1 0) 7 0 9 1 = g1
  have z : ∀ f i, f ≠ 7 → ¬ (i = 1 ∧ (f = 2 ∨ f = 14 ∨ f = 15 ∨ f = 16 ∨ f = 17 ∨ f = 18 ∨ f = 19)) → g1 f i = g f i := fun f i h7 h => by rw [← hg1, zup_nf _ _ _ _ h7]; exact zcopyF_o g h
  have z7 : ∀ k, k ≠ 9 → g1 7 0 k = g 7 0 k := fun k hk => by rw [← hg1, zup_nk _ _ _ _ _ _ hk, zcopyF_o g (by omega)]
  have z79 : g1 7 0 9 = 1 := by rw [← hg1]; exact zup_eq _ _ _ _ _
  have z2 : ∀ k, (k = 0 ∨ k = 1 ∨ k = 3 ∨ k = 8 ∨ k = 10 ∨ k = 11) → g1 2 1 k = g 2 0 k := fun k hk => by rw [← hg1, zup_nf _ _ _ _ (by decide)]; exact zcopyF_2 g hk
  have zp : ∀ f, (f = 15 ∨ f = 16 ∨ f = 17 ∨ f = 18) → g1 f 1 = g f 0 := fun f hf => by rw [← hg1, zup_nf _ _ _ _ (by omega)]; exact zcopyF_p hL.2.2 hf
  have z14 : ∀ k, k < 8 → g1 14 1 k = g 14 0 k := fun k hk => by rw [← hg1, zup_nf _ _ _ _ (by decide)]; exact zcopyF_14 g hk
  have z19 : ∀ k, k < 12 → g1 19 1 k = g 19 0 k := fun k hk => by rw [← hg1, zup_nf _ _ _ _ (by decide)]; exact zcopyF_19 g hk
  have zB : ZB g1 := fun f i k hf hk => by rw [← hg1, zup_nf _ _ _ _ (by omega)]; exact zcopyF_zb hL.2.2 1 0 f i k hf hk
  have zfun : ∀ f, f ≠ 7 → ¬ (f = 2 ∨ f = 14 ∨ f = 15 ∨ f = 16 ∨ f = 17 ∨ f = 18 ∨ f = 19) → g1 f = g f := fun f h7 h => funext fun i => z f i h7 (fun y => h y.2)
  clear hg1
  refine ⟨by show g 2 0 3 = g1 8 0 2; rw [zfun 8 (by decide) (by decide), c3], ?_⟩
  show OKS g (zcpy (mim (mImg g1) 6) 46 0 51 0 0 0 12)
  have y : ∀ f, f ≠ 8 → ¬ (47 ≤ f ∧ f ≤ 51) → zcpy (mim (mImg g1) 6) 46 0 51 0 0 0 12 f = g1 f := by
    intro f h8 h
    funext i c
    unfold zcpy mim
    rw [if_neg (by omega), if_neg (by omega)]
    show mImg g1 f i c = _
    unfold mImg
    rw [zup_nf _ _ _ _ (by omega), zup_nf _ _ _ _ (by omega), zup_nf _ _ _ _ (by omega), zup_nf _ _ _ _ (by omega), zup_nf _ _ _ _ (by omega), zup_nf _ _ _ _ (by omega), zup_nf _ _ _ _ (by omega)]
  have y8 : ∀ c, zcpy (mim (mImg g1) 6) 46 0 51 0 0 0 12 8 0 c = mImg g1 8 0 c := by
    intro c
    unfold zcpy mim
    rw [if_neg (by omega), if_neg (by omega)]
  have y8n : ∀ c, ¬ (34 ≤ c ∧ c ≤ 40) → zcpy (mim (mImg g1) 6) 46 0 51 0 0 0 12 8 0 c = g 8 0 c := by
    intro c hc
    rw [y8, ← zfun 8 (by decide) (by decide)]
    unfold mImg
    rw [zup_nk _ _ _ _ _ _ (by omega), zup_nk _ _ _ _ _ _ (by omega), zup_nk _ _ _ _ _ _ (by omega), zup_nk _ _ _ _ _ _ (by omega), zup_nk _ _ _ _ _ _ (by omega), zup_nk _ _ _ _ _ _ (by omega), zup_nk _ _ _ _ _ _ (by omega)]
  have i34 : mImg g1 8 0 34 = 1 := by unfold mImg; rw [zup_nk _ _ _ _ _ _ (by decide), zup_nk _ _ _ _ _ _ (by decide), zup_nk _ _ _ _ _ _ (by decide), zup_nk _ _ _ _ _ _ (by decide), zup_nk _ _ _ _ _ _ (by decide), zup_nk _ _ _ _ _ _ (by decide), zup_eq]
  have i35 : mImg g1 8 0 35 = g1 8 0 9 := by unfold mImg; rw [zup_nk _ _ _ _ _ _ (by decide), zup_nk _ _ _ _ _ _ (by decide), zup_nk _ _ _ _ _ _ (by decide), zup_nk _ _ _ _ _ _ (by decide), zup_nk _ _ _ _ _ _ (by decide), zup_eq]
  have i36 : mImg g1 8 0 36 = g1 8 0 0 := by unfold mImg; rw [zup_nk _ _ _ _ _ _ (by decide), zup_nk _ _ _ _ _ _ (by decide), zup_nk _ _ _ _ _ _ (by decide), zup_nk _ _ _ _ _ _ (by decide), zup_eq]
  have i37 : mImg g1 8 0 37 = g1 8 0 1 := by unfold mImg; rw [zup_nk _ _ _ _ _ _ (by decide), zup_nk _ _ _ _ _ _ (by decide), zup_nk _ _ _ _ _ _ (by decide), zup_eq]
  have i38 : mImg g1 8 0 38 = g1 8 0 2 := by unfold mImg; rw [zup_nk _ _ _ _ _ _ (by decide), zup_nk _ _ _ _ _ _ (by decide), zup_eq]
  have i39 : mImg g1 8 0 39 = g1 8 0 3 := by unfold mImg; rw [zup_nk _ _ _ _ _ _ (by decide), zup_eq]
  have i40 : mImg g1 8 0 40 = g1 8 0 32 := by unfold mImg; rw [zup_eq]
  have ym : ∀ f, (47 ≤ f ∧ f ≤ 50) → ∀ c, c < 6 → zcpy (mim (mImg g1) 6) 46 0 51 0 0 0 12 f 0 c = g (f - 17) 0 c := by
    intro f hf c hc
    unfold zcpy mim
    rw [if_neg (by omega), if_pos ⟨rfl, hc, hf⟩]
    show mImg g1 (f - 17) 0 c = _
    unfold mImg
    rw [zup_nf _ _ _ _ (by omega), zup_nf _ _ _ _ (by omega), zup_nf _ _ _ _ (by omega), zup_nf _ _ _ _ (by omega), zup_nf _ _ _ _ (by omega), zup_nf _ _ _ _ (by omega), zup_nf _ _ _ _ (by omega), zfun _ (by omega) (by omega)]
  have y51 : ∀ c, c < 12 → zcpy (mim (mImg g1) 6) 46 0 51 0 0 0 12 51 0 c = g 46 0 c := by
    intro c hc
    show (if 51 = 51 ∧ 0 = 0 ∧ 0 ≤ c ∧ c < 0 + 12 then mim (mImg g1) 6 46 0 (0 + (c - 0)) else _) = _
    rw [if_pos ⟨rfl, rfl, Nat.zero_le _, by omega⟩]
    unfold mim
    rw [if_neg (by omega), show 0 + (c - 0) = c by omega]
    show mImg g1 46 0 c = _
    unfold mImg
    rw [zup_nf _ _ _ _ (by decide), zup_nf _ _ _ _ (by decide), zup_nf _ _ _ _ (by decide), zup_nf _ _ _ _ (by decide), zup_nf _ _ _ _ (by decide), zup_nf _ _ _ _ (by decide), zup_nf _ _ _ _ (by decide), zfun 46 (by decide) (by decide)]
  generalize zcpy (mim (mImg g1) 6) 46 0 51 0 0 0 12 = g2 at y y8 y8n ym y51
  have e8 : g1 8 = g 8 := zfun 8 (by decide) (by decide)
  have yz : ∀ f, f ≠ 7 → f ≠ 8 → ¬ (47 ≤ f ∧ f ≤ 51) → ¬ (f = 2 ∨ f = 14 ∨ f = 15 ∨ f = 16 ∨ f = 17 ∨ f = 18 ∨ f = 19) → g2 f = g f := fun f h1 h2 h3 h4 => (y f h2 h3).trans (zfun f h1 h4)
  have y7 : g2 7 0 8 = g 7 0 8 := by rw [y 7 (by decide) (by decide)]; exact z7 8 (by decide)
  refine ⟨⟨?_, ?_, ?_, ?_, ?_, ?_, ?_, ?_⟩, by rw [yz 1 (by decide) (by decide) (by decide) (by decide)]⟩
  · refine hN.c (fun f hf => ?_) y7 (fun k hk => y8n k (by omega))
    rw [y f (by omega) (by omega)]
    exact z f 0 (by omega) (by omega)
  · refine ⟨Or.inr ⟨by rw [y 7 (by decide) (by decide)]; exact z79, ?_⟩, by rw [y8, i34, y 7 (by decide) (by decide), z79], by rw [y 2 (by decide) (by decide), z2 11 (by decide)]; omega⟩
    unfold RI
    rw [y7, y8, y8, y8, y8, y8, y8, i35, i36, i37, i38, i39, i40, e8]
    refine RS.cg hN (fun k hk => by rw [y 2 (by decide) (by decide)]; exact z2 k hk) (fun k hk => by rw [y 14 (by decide) (by decide)]; exact z14 k hk) (by rw [y 15 (by decide) (by decide)]; exact zp 15 (by decide)) (by rw [y 16 (by decide) (by decide)]; exact zp 16 (by decide)) (by rw [y 17 (by decide) (by decide)]; exact zp 17 (by decide)) (by rw [y 18 (by decide) (by decide)]; exact zp 18 (by decide)) (fun k hk => by rw [y 19 (by decide) (by decide)]; exact z19 k hk) (fun k hk => ⟨ym 47 (by decide) k hk, ym 48 (by decide) k hk, ym 49 (by decide) k hk, ym 50 (by decide) k hk⟩) y51
  · exact hS.c (fun f hf => yz f (by omega) (by omega) (by omega) (by omega)) y7 (y8n 8 (by decide))
  · exact hX.c ⟨yz 5 (by decide) (by decide) (by decide) (by decide), yz 22 (by decide) (by decide) (by decide) (by decide), yz 34 (by decide) (by decide) (by decide) (by decide)⟩ ⟨y8n 10 (by decide), y8n 11 (by decide)⟩
  · exact hT.c (fun f hf => yz f (by omega) (by omega) (by omega) (by omega))
  · exact hA.c ⟨yz 0 (by decide) (by decide) (by decide) (by decide), yz 10 (by decide) (by decide) (by decide) (by decide), yz 52 (by decide) (by decide) (by decide) (by decide)⟩ (y8n 46 (by decide))
  · exact hZ.c (yz 42 (by decide) (by decide) (by decide) (by decide)) (y8n 26 (by decide)) (fun f hf k hk => by rw [yz f (by omega) (by omega) (by omega) (by omega)]; exact hZ.2.2 f hf k hk)
  · exact hL.c (yz 13 (by decide) (by decide) (by decide) (by decide)) (yz 1 (by decide) (by decide) (by decide) (by decide)) (fun f i k hf hk => by rw [y f (by omega) (by omega)]; exact zB f i k hf hk)
theorem M_undo {g : ZG} (H : RR g) : (if g 7 0 9 = 0 then -3 else g 2 1 3) = (mUndo (if g 7 0 9 = 0 then g else zcopyF g 0 1)).1 ∧ OKS g (mUndo (if g 7 0 9 = 0 then g else zcopyF g 0 1)).2 := by
  have hH := H
  obtain ⟨hN, ⟨hI1, hI2, hI3⟩, hS, hX, hT, hA, hZ, hL⟩ := H
  by_cases h9 : g 7 0 9 = 0
  · rw [if_pos h9, if_pos h9]
    unfold mUndo
    rw [if_pos (by rw [hI2]; exact h9)]
    exact ⟨rfl, hH, rfl⟩
  rw [if_neg h9, if_neg h9]
  have hI : RI g := by
    rcases hI1 with h | h
    · exact absurd h h9
    · exact h.2
  have hI0 := hI
  obtain ⟨⟨a1, a2, a3, a4, a5, a6⟩, ⟨b1, b2, b3⟩, ⟨c1, c2, c3, c4, c5, c6⟩, d, e⟩ := hI0
  have z : ∀ f i, ¬ (i = 0 ∧ (f = 2 ∨ f = 14 ∨ f = 15 ∨ f = 16 ∨ f = 17 ∨ f = 18 ∨ f = 19)) → zcopyF g 0 1 f i = g f i := fun f i h => zcopyF_o g h
  have z2 : ∀ k, (k = 0 ∨ k = 1 ∨ k = 3 ∨ k = 8 ∨ k = 10 ∨ k = 11) → zcopyF g 0 1 2 0 k = g 2 1 k := fun k hk => zcopyF_2 g hk
  have zp : ∀ f, (f = 15 ∨ f = 16 ∨ f = 17 ∨ f = 18) → zcopyF g 0 1 f 0 = g f 1 := fun f hf => zcopyF_p hL.2.2 hf
  have z14 : ∀ k, k < 8 → zcopyF g 0 1 14 0 k = g 14 1 k := fun k hk => zcopyF_14 g hk
  have z19 : ∀ k, k < 12 → zcopyF g 0 1 19 0 k = g 19 1 k := fun k hk => zcopyF_19 g hk
  have zB : ZB (zcopyF g 0 1) := zcopyF_zb hL.2.2 0 1
  have zfun : ∀ f, ¬ (f = 2 ∨ f = 14 ∨ f = 15 ∨ f = 16 ∨ f = 17 ∨ f = 18 ∨ f = 19) → zcopyF g 0 1 f = g f := fun f h => funext fun i => z f i (fun y => h y.2)
  generalize zcopyF g 0 1 = g1 at z z2 zp z14 z19 zB zfun
  have e8 : g1 8 = g 8 := zfun 8 (by decide)
  unfold mUndo
  rw [if_neg (by rw [e8, hI2]; exact h9)]
  refine ⟨by show g 2 1 3 = g1 8 0 38; rw [e8, c3], ?_⟩
  show OKS g (zcpy (mun (mUnd g1) 6) 51 0 46 0 0 0 12)
  have y : ∀ f, f ≠ 8 → ¬ ((30 ≤ f ∧ f ≤ 33) ∨ f = 46) → zcpy (mun (mUnd g1) 6) 51 0 46 0 0 0 12 f = g1 f := by
    intro f h8 h
    funext i c
    unfold zcpy mun
    rw [if_neg (by omega), if_neg (by omega)]
    show mUnd g1 f i c = _
    unfold mUnd
    rw [zup_nf _ _ _ _ (by omega), zup_nf _ _ _ _ (by omega), zup_nf _ _ _ _ (by omega), zup_nf _ _ _ _ (by omega), zup_nf _ _ _ _ (by omega), zup_nf _ _ _ _ (by omega)]
  have y8 : ∀ c, zcpy (mun (mUnd g1) 6) 51 0 46 0 0 0 12 8 0 c = mUnd g1 8 0 c := by
    intro c
    unfold zcpy mun
    rw [if_neg (by omega), if_neg (by omega)]
  have y8n : ∀ c, ¬ (c ≤ 3 ∨ c = 32 ∨ c = 9) → zcpy (mun (mUnd g1) 6) 51 0 46 0 0 0 12 8 0 c = g 8 0 c := by
    intro c hc
    rw [y8, ← e8]
    unfold mUnd
    rw [zup_nk _ _ _ _ _ _ (by omega), zup_nk _ _ _ _ _ _ (by omega), zup_nk _ _ _ _ _ _ (by omega), zup_nk _ _ _ _ _ _ (by omega), zup_nk _ _ _ _ _ _ (by omega), zup_nk _ _ _ _ _ _ (by omega)]
  have i9 : mUnd g1 8 0 9 = g1 8 0 35 := by unfold mUnd; rw [zup_nk _ _ _ _ _ _ (by decide), zup_nk _ _ _ _ _ _ (by decide), zup_nk _ _ _ _ _ _ (by decide), zup_nk _ _ _ _ _ _ (by decide), zup_nk _ _ _ _ _ _ (by decide), zup_eq]
  have i0 : mUnd g1 8 0 0 = g1 8 0 36 := by unfold mUnd; rw [zup_nk _ _ _ _ _ _ (by decide), zup_nk _ _ _ _ _ _ (by decide), zup_nk _ _ _ _ _ _ (by decide), zup_nk _ _ _ _ _ _ (by decide), zup_eq]
  have i1 : mUnd g1 8 0 1 = g1 8 0 37 := by unfold mUnd; rw [zup_nk _ _ _ _ _ _ (by decide), zup_nk _ _ _ _ _ _ (by decide), zup_nk _ _ _ _ _ _ (by decide), zup_eq]
  have i2 : mUnd g1 8 0 2 = g1 8 0 38 := by unfold mUnd; rw [zup_nk _ _ _ _ _ _ (by decide), zup_nk _ _ _ _ _ _ (by decide), zup_eq]
  have i3 : mUnd g1 8 0 3 = g1 8 0 39 := by unfold mUnd; rw [zup_nk _ _ _ _ _ _ (by decide), zup_eq]
  have i32 : mUnd g1 8 0 32 = g1 8 0 40 := by unfold mUnd; rw [zup_eq]
  have mu : ∀ f i c, f ≠ 8 → mUnd g1 f i c = g1 f i c := fun f i c hf => by unfold mUnd; rw [zup_nf _ _ _ _ (by omega), zup_nf _ _ _ _ (by omega), zup_nf _ _ _ _ (by omega), zup_nf _ _ _ _ (by omega), zup_nf _ _ _ _ (by omega), zup_nf _ _ _ _ (by omega)]
  have ym : ∀ f, (30 ≤ f ∧ f ≤ 33) → ∀ c, zcpy (mun (mUnd g1) 6) 51 0 46 0 0 0 12 f 0 c = if c < 6 then g (f + 17) 0 c else g f 0 c := by
    intro f hf c
    unfold zcpy mun
    rw [if_neg (by omega)]
    by_cases hc : c < 6
    · rw [if_pos ⟨rfl, hc, hf⟩, if_pos hc, mu _ _ _ (by omega), zfun _ (by omega)]
    · rw [if_neg (fun z => hc z.2.1), if_neg hc, mu _ _ _ (by omega), zfun _ (by omega)]
  have y46 : ∀ c, c < 12 → zcpy (mun (mUnd g1) 6) 51 0 46 0 0 0 12 46 0 c = g 51 0 c := by
    intro c hc
    show (if 46 = 46 ∧ 0 = 0 ∧ 0 ≤ c ∧ c < 0 + 12 then mun (mUnd g1) 6 51 0 (0 + (c - 0)) else _) = _
    rw [if_pos ⟨rfl, rfl, Nat.zero_le _, by omega⟩]
    unfold mun
    rw [if_neg (by omega), show 0 + (c - 0) = c by omega, mu _ _ _ (by decide), zfun 51 (by decide)]
  generalize zcpy (mun (mUnd g1) 6) 51 0 46 0 0 0 12 = g2 at y y8 y8n ym y46
  refine ⟨hH.of_N2 (fun f hf => (y f (by omega) (by omega)).trans (zfun f (by omega))) (fun f hf => by rw [y f (by omega) (by omega)]; exact z f 1 (by omega)) y8n ?_ (fun f hf k hk => by rw [ym f hf, if_neg (by omega)]; exact hZ.2.2 f hf k hk) (hL.c ((y 13 (by decide) (by decide)).trans (zfun 13 (by decide))) ((y 1 (by decide) (by decide)).trans (zfun 1 (by decide))) (fun f i k hf hk => by rw [y f (by omega) (by omega)]; exact zB f i k hf hk)), by rw [y 1 (by decide) (by decide), zfun 1 (by decide)]⟩
  unfold RN
  rw [y8, y8, y8, y8, y8, y8, i0, i1, i2, i3, i9, i32, e8, y 7 (by decide) (by decide), zfun 7 (by decide)]
  exact RS.cg hI (fun k hk => by rw [y 2 (by decide) (by decide)]; exact z2 k hk) (fun k hk => by rw [y 14 (by decide) (by decide)]; exact z14 k hk) (by rw [y 15 (by decide) (by decide)]; exact zp 15 (by decide)) (by rw [y 16 (by decide) (by decide)]; exact zp 16 (by decide)) (by rw [y 17 (by decide) (by decide)]; exact zp 17 (by decide)) (by rw [y 18 (by decide) (by decide)]; exact zp 18 (by decide)) (fun k hk => by rw [y 19 (by decide) (by decide)]; exact z19 k hk) (fun k hk => ⟨by rw [ym 30 (by decide), if_pos hk], by rw [ym 31 (by decide), if_pos hk], by rw [ym 32 (by decide), if_pos hk], by rw [ym 33 (by decide), if_pos hk]⟩) y46
theorem MPI.c {g g' : ZG} (H : MPI g) (h : ∀ f, (f = 8 ∨ (30 ≤ f ∧ f ≤ 42)) → g' f = g f) : MPI g' := by
  unfold MPI MOK MHH MCL mfc mbh
  rw [h 8 (by omega), h 30 (by omega), h 31 (by omega), h 32 (by omega), h 33 (by omega), h 35 (by omega), h 36 (by omega), h 37 (by omega), h 38 (by omega), h 39 (by omega), h 40 (by omega)]
  exact H
theorem mT_c {g g' : ZG} (h : ∀ f, (f = 8 ∨ (30 ≤ f ∧ f ≤ 42)) → g' f = g f) : mT g' = mT g := by
  have e : ∀ fa n k a, mMin g' fa n k a = mMin g fa n k a := by
    intro fa n
    induction n with
    | zero => intro k a; rfl
    | succ n ih =>
      intro k a
      unfold mMin
      rw [ih, h 36 (by omega), h 37 (by omega)]
      unfold mSo
      rw [h 38 (by omega), h 39 (by omega), h 40 (by omega)]
  unfold mT mW mWw mWs mWh mSo mfc mbh
  rw [h 8 (by omega), h 30 (by omega), h 31 (by omega), h 32 (by omega), h 33 (by omega), h 35 (by omega), h 36 (by omega), h 37 (by omega), h 38 (by omega), h 39 (by omega), h 40 (by omega)]
  congr 3
  funext p s k h2 f m
  rw [e]
