theorem RN.of {g' : ZG} {st m14 k15 k16 k17 k18 k19 : Nat → Int} {ns n sh np mv bk the : Int} {kd v sr ho bks : Nat → Int} (e2 : g' 2 0 = st) (e14 : g' 14 0 = m14) (e15 : g' 15 0 = k15) (e16 : g' 16 0 = k16) (e17 : g' 17 0 = k17) (e18 : g' 18 0 = k18) (e19 : g' 19 0 = k19) (e7 : g' 7 0 8 = ns) (e0 : g' 8 0 0 = n) (e1 : g' 8 0 1 = sh) (e82 : g' 8 0 2 = np) (e83 : g' 8 0 3 = mv) (e832 : g' 8 0 32 = bk) (e89 : g' 8 0 9 = the) (e30 : g' 30 0 = kd) (e31 : g' 31 0 = v) (e32 : g' 32 0 = sr) (e33 : g' 33 0 = ho) (e46 : g' 46 0 = bks) (h : RS st m14 k15 k16 k17 k18 k19 ns n sh np mv bk the kd v sr ho bks) : RN g' := by
  unfold RN
  rw [e2, e14, e15, e16, e17, e18, e19, e7, e0, e1, e82, e83, e832, e89, e30, e31, e32, e33, e46]
  exact h
theorem dis_add {np h : Int} {ho : Nat → Int} (h0 : 0 ≤ np) (H : DIS np ho) (hw : zwho np ho h = -1) : DIS (np + 1) (fun c => if c = np.toNat then h else ho c) := by
  have hn : ∀ j : Nat, (j : Int) < np → ho j ≠ h := fun j hj => of_decide_eq_false (zfst_none.mp hw j (Nat.zero_le _) (by omega))
  intro p q hpq hq
  show (if p = np.toNat then h else ho p) ≠ (if q = np.toNat then h else ho q)
  rw [if_neg (show ¬ p = np.toNat by omega)]
  by_cases hq2 : q = np.toNat
  · rw [if_pos hq2]; exact hn p (by omega)
  · rw [if_neg hq2]; exact H p q hpq (by omega)
theorem M_person {g : ZG} (H : RR g) (k v s h : Int) : (cPer g k v s h).1 = (mPer (cPer g k v s h).2 k v s h).1 ∧ OKS g (mPer (cPer g k v s h).2 k v s h).2 := by
  have hfn := H.fn
  have hH := H
  obtain ⟨⟨⟨a1, a2, a3, a4, a5, a6⟩, ⟨b1, b2, b3⟩, ⟨c1, c2, c3, c4, c5, c6⟩, d, e⟩, _, _, _, _, _, hZ, hL⟩ := H
  unfold cPer
  by_cases h1 : (k < 0 ∨ 6 < k) ∨ (s < 0 ∨ 2 < s) ∨ ¬ (0 ≤ h ∧ h < g 2 0 0)
  · rw [if_pos h1]
    unfold mPer
    dsimp only
    rw [if_pos (show (k < 0 ∨ 6 < k) ∨ (s < 0 ∨ 2 < s) ∨ ¬ (0 ≤ h ∧ h < g 8 0 0) by rw [c1]; exact h1)]
    exact ⟨rfl, hH, rfl⟩
  rw [if_neg h1]
  by_cases h2 : v < 0 ∨ 9 < v
  · rw [if_pos h2]
    unfold mPer
    dsimp only
    rw [if_neg (show ¬ ((k < 0 ∨ 6 < k) ∨ (s < 0 ∨ 2 < s) ∨ ¬ (0 ≤ h ∧ h < g 8 0 0)) by rw [c1]; exact h1), if_pos h2]
    exact ⟨rfl, hH, rfl⟩
  rw [if_neg h2]
  by_cases h3 : zwho (g 2 0 3) (g 18 0) h ≠ -1
  · rw [if_pos h3]
    unfold mPer
    dsimp only
    rw [if_neg (show ¬ ((k < 0 ∨ 6 < k) ∨ (s < 0 ∨ 2 < s) ∨ ¬ (0 ≤ h ∧ h < g 8 0 0)) by rw [c1]; exact h1), if_neg h2, if_pos (show zwho (g 8 0 2) (g 33 0) h ≠ -1 by rw [hfn.2.2.2, c3]; exact h3)]
    exact ⟨rfl, hH, rfl⟩
  rw [if_neg h3]
  by_cases h4 : 6 ≤ g 2 0 3
  · rw [if_pos h4]
    unfold mPer
    dsimp only
    rw [if_neg (show ¬ ((k < 0 ∨ 6 < k) ∨ (s < 0 ∨ 2 < s) ∨ ¬ (0 ≤ h ∧ h < g 8 0 0)) by rw [c1]; exact h1), if_neg h2, if_neg (show ¬ zwho (g 8 0 2) (g 33 0) h ≠ -1 by rw [hfn.2.2.2, c3]; exact h3), if_pos (show 6 ≤ g 8 0 2 by rw [c3]; exact h4)]
    exact ⟨rfl, hH, rfl⟩
  rw [if_neg h4]
  generalize hp : (g 2 0 3).toNat = p
  have hz : ∀ f, ¬ (f = 2 ∨ (15 ≤ f ∧ f ≤ 18)) → zup (zup (zup (zup (zup g 15 0 p k) 16 0 p v) 17 0 p s) 18 0 p h) 2 0 3 (g 2 0 3 + 1) f = g f := fun f hf => by rw [zup_nf _ _ _ _ (by omega), zup_nf _ _ _ _ (by omega), zup_nf _ _ _ _ (by omega), zup_nf _ _ _ _ (by omega), zup_nf _ _ _ _ (by omega)]
  have y2 : ∀ i c, zup (zup (zup (zup (zup g 15 0 p k) 16 0 p v) 17 0 p s) 18 0 p h) 2 0 3 (g 2 0 3 + 1) 2 i c = if c = 3 ∧ i = 0 then g 2 0 3 + 1 else g 2 i c := by
    intro i c
    by_cases hc : c = 3 ∧ i = 0
    · rw [if_pos hc, hc.1, hc.2, zup_eq]
    · rw [if_neg hc]
      show (if 2 = 2 ∧ c = 3 ∧ i = 0 then _ else _) = _
      rw [if_neg (fun z => hc z.2), zup_nf _ _ _ _ (by decide), zup_nf _ _ _ _ (by decide), zup_nf _ _ _ _ (by decide), zup_nf _ _ _ _ (by decide)]
  have y15 : ∀ i c, zup (zup (zup (zup (zup g 15 0 p k) 16 0 p v) 17 0 p s) 18 0 p h) 2 0 3 (g 2 0 3 + 1) 15 i c = if c = p ∧ i = 0 then k else g 15 i c := by
    intro i c
    rw [zup_nf _ _ _ _ (by decide), zup_nf _ _ _ _ (by decide), zup_nf _ _ _ _ (by decide), zup_nf _ _ _ _ (by decide)]
    show (if 15 = 15 ∧ c = p ∧ i = 0 then k else g 15 i c) = _
    by_cases hc : c = p ∧ i = 0
    · rw [if_pos hc, if_pos ⟨rfl, hc⟩]
    · rw [if_neg hc, if_neg (fun z => hc z.2)]
  have y16 : ∀ i c, zup (zup (zup (zup (zup g 15 0 p k) 16 0 p v) 17 0 p s) 18 0 p h) 2 0 3 (g 2 0 3 + 1) 16 i c = if c = p ∧ i = 0 then v else g 16 i c := by
    intro i c
    rw [zup_nf _ _ _ _ (by decide), zup_nf _ _ _ _ (by decide), zup_nf _ _ _ _ (by decide)]
    show (if 16 = 16 ∧ c = p ∧ i = 0 then v else zup g 15 0 p k 16 i c) = _
    by_cases hc : c = p ∧ i = 0
    · rw [if_pos hc, if_pos ⟨rfl, hc⟩]
    · rw [if_neg hc, if_neg (fun z => hc z.2), zup_nf _ _ _ _ (by decide)]
  have y17 : ∀ i c, zup (zup (zup (zup (zup g 15 0 p k) 16 0 p v) 17 0 p s) 18 0 p h) 2 0 3 (g 2 0 3 + 1) 17 i c = if c = p ∧ i = 0 then s else g 17 i c := by
    intro i c
    rw [zup_nf _ _ _ _ (by decide), zup_nf _ _ _ _ (by decide)]
    show (if 17 = 17 ∧ c = p ∧ i = 0 then s else zup (zup g 15 0 p k) 16 0 p v 17 i c) = _
    by_cases hc : c = p ∧ i = 0
    · rw [if_pos hc, if_pos ⟨rfl, hc⟩]
    · rw [if_neg hc, if_neg (fun z => hc z.2), zup_nf _ _ _ _ (by decide), zup_nf _ _ _ _ (by decide)]
  have y18 : ∀ i c, zup (zup (zup (zup (zup g 15 0 p k) 16 0 p v) 17 0 p s) 18 0 p h) 2 0 3 (g 2 0 3 + 1) 18 i c = if c = p ∧ i = 0 then h else g 18 i c := by
    intro i c
    rw [zup_nf _ _ _ _ (by decide)]
    show (if 18 = 18 ∧ c = p ∧ i = 0 then h else zup (zup (zup g 15 0 p k) 16 0 p v) 17 0 p s 18 i c) = _
    by_cases hc : c = p ∧ i = 0
    · rw [if_pos hc, if_pos ⟨rfl, hc⟩]
    · rw [if_neg hc, if_neg (fun z => hc z.2), zup_nf _ _ _ _ (by decide), zup_nf _ _ _ _ (by decide), zup_nf _ _ _ _ (by decide)]
  generalize zup (zup (zup (zup (zup g 15 0 p k) 16 0 p v) 17 0 p s) 18 0 p h) 2 0 3 (g 2 0 3 + 1) = g1 at hz y2 y15 y16 y17 y18
  have e8 : g1 8 = g 8 := hz 8 (by omega)
  have e33 : g1 33 = g 33 := hz 33 (by omega)
  have f80 : g1 8 0 0 = g 2 0 0 := by rw [e8]; exact c1
  have f82 : g1 8 0 2 = g 2 0 3 := by rw [e8]; exact c3
  have f33 : g1 33 0 = g 18 0 := by rw [e33]; exact hfn.2.2.2
  unfold mPer
  dsimp only
  rw [if_neg (show ¬ ((k < 0 ∨ 6 < k) ∨ (s < 0 ∨ 2 < s) ∨ ¬ (0 ≤ h ∧ h < g1 8 0 0)) by rw [f80]; exact h1), if_neg h2, if_neg (show ¬ zwho (g1 8 0 2) (g1 33 0) h ≠ -1 by rw [f33, f82]; exact h3), if_neg (show ¬ 6 ≤ g1 8 0 2 by rw [f82]; exact h4)]
  refine ⟨by show g 2 0 3 = g1 8 0 2 + 1 - 1; rw [f82]; omega, ?_, ?_⟩
  · show RR (zup (zup (zup (zup (zup g1 30 0 (g1 8 0 2).toNat k) 31 0 (g1 8 0 2).toNat v) 32 0 (g1 8 0 2).toNat s) 33 0 (g1 8 0 2).toNat h) 8 0 2 (g1 8 0 2 + 1))
    rw [f82, hp]
    have hp6 : p < 6 := by omega
    have w : ∀ f, ¬ (f = 8 ∨ (30 ≤ f ∧ f ≤ 33)) → zup (zup (zup (zup (zup g1 30 0 p k) 31 0 p v) 32 0 p s) 33 0 p h) 8 0 2 (g 2 0 3 + 1) f = g1 f := fun f hf => by rw [zup_nf _ _ _ _ (by omega), zup_nf _ _ _ _ (by omega), zup_nf _ _ _ _ (by omega), zup_nf _ _ _ _ (by omega), zup_nf _ _ _ _ (by omega)]
    have w8 : ∀ c, c ≠ 2 → zup (zup (zup (zup (zup g1 30 0 p k) 31 0 p v) 32 0 p s) 33 0 p h) 8 0 2 (g 2 0 3 + 1) 8 0 c = g 8 0 c := fun c hc => by rw [zup_nk _ _ _ _ _ _ hc, zup_nf _ _ _ _ (by decide), zup_nf _ _ _ _ (by decide), zup_nf _ _ _ _ (by decide), zup_nf _ _ _ _ (by decide), e8]
    have w82 : zup (zup (zup (zup (zup g1 30 0 p k) 31 0 p v) 32 0 p s) 33 0 p h) 8 0 2 (g 2 0 3 + 1) 8 0 2 = g 2 0 3 + 1 := zup_eq _ _ _ _ _
    have x30 : zup (zup (zup (zup (zup g1 30 0 p k) 31 0 p v) 32 0 p s) 33 0 p h) 8 0 2 (g 2 0 3 + 1) 30 0 = fun c => if c = p then k else g 15 0 c := by
      rw [zup_nf _ _ _ _ (by decide), zup_nf _ _ _ _ (by decide), zup_nf _ _ _ _ (by decide), zup_nf _ _ _ _ (by decide), zup_at, hz 30 (by omega), hfn.1]
    have x31 : zup (zup (zup (zup (zup g1 30 0 p k) 31 0 p v) 32 0 p s) 33 0 p h) 8 0 2 (g 2 0 3 + 1) 31 0 = fun c => if c = p then v else g 16 0 c := by
      rw [zup_nf _ _ _ _ (by decide), zup_nf _ _ _ _ (by decide), zup_nf _ _ _ _ (by decide), zup_at, zup_nf _ _ _ _ (by decide), hz 31 (by omega), hfn.2.1]
    have x32 : zup (zup (zup (zup (zup g1 30 0 p k) 31 0 p v) 32 0 p s) 33 0 p h) 8 0 2 (g 2 0 3 + 1) 32 0 = fun c => if c = p then s else g 17 0 c := by
      rw [zup_nf _ _ _ _ (by decide), zup_nf _ _ _ _ (by decide), zup_at, zup_nf _ _ _ _ (by decide), zup_nf _ _ _ _ (by decide), hz 32 (by omega), hfn.2.2.1]
    have x33 : zup (zup (zup (zup (zup g1 30 0 p k) 31 0 p v) 32 0 p s) 33 0 p h) 8 0 2 (g 2 0 3 + 1) 33 0 = fun c => if c = p then h else g 18 0 c := by
      rw [zup_nf _ _ _ _ (by decide), zup_at, zup_nf _ _ _ _ (by decide), zup_nf _ _ _ _ (by decide), zup_nf _ _ _ _ (by decide), hz 33 (by omega), hfn.2.2.2]
    generalize zup (zup (zup (zup (zup g1 30 0 p k) 31 0 p v) 32 0 p s) 33 0 p h) 8 0 2 (g 2 0 3 + 1) = g2 at w w8 w82 x30 x31 x32 x33
    have z15 : g1 15 0 = fun c => if c = p then k else g 15 0 c := by funext c; rw [y15]; by_cases hc : c = p <;> simp [hc]
    have z16 : g1 16 0 = fun c => if c = p then v else g 16 0 c := by funext c; rw [y16]; by_cases hc : c = p <;> simp [hc]
    have z17 : g1 17 0 = fun c => if c = p then s else g 17 0 c := by funext c; rw [y17]; by_cases hc : c = p <;> simp [hc]
    have z18 : g1 18 0 = fun c => if c = p then h else g 18 0 c := by funext c; rw [y18]; by_cases hc : c = p <;> simp [hc]
    refine hH.of_N (fun f hf => (w f (by omega)).trans (hz f (by omega))) (fun f hf => ?_) (fun c hc => w8 c (by omega)) ?_ (fun f hf c hc => ?_) (fun f i c hf hc => ?_)
    · rw [w f (by omega)]
      funext c
      by_cases f2 : f = 2
      · subst f2; rw [y2, if_neg (by omega)]
      by_cases f15 : f = 15
      · subst f15; rw [y15, if_neg (by omega)]
      by_cases f16 : f = 16
      · subst f16; rw [y16, if_neg (by omega)]
      by_cases f17 : f = 17
      · subst f17; rw [y17, if_neg (by omega)]
      by_cases f18 : f = 18
      · subst f18; rw [y18, if_neg (by omega)]
      rw [hz f (by omega)]
    · have s2 : ∀ c, c ≠ 3 → g1 2 0 c = g 2 0 c := fun c hc => by rw [y2, if_neg (by omega)]
      have s23 : g1 2 0 3 = g 2 0 3 + 1 := by rw [y2, if_pos ⟨rfl, rfl⟩]
      refine RN.of (by rw [w 2 (by omega)]) (by rw [w 14 (by omega), hz 14 (by omega)]) (by rw [w 15 (by omega), z15]) (by rw [w 16 (by omega), z16]) (by rw [w 17 (by omega), z17]) (by rw [w 18 (by omega), z18]) (by rw [w 19 (by omega), hz 19 (by omega)]) (by rw [w 7 (by omega), hz 7 (by omega)]) (w8 0 (by decide)) (w8 1 (by decide)) w82 (w8 3 (by decide)) (w8 32 (by decide)) (w8 9 (by decide)) x30 x31 x32 x33 (by rw [w 46 (by omega), hz 46 (by omega)]) ?_
      unfold RS
      rw [s2 0 (by decide), s2 1 (by decide), s23, s2 8 (by decide), s2 10 (by decide), s2 11 (by decide)]
      refine ⟨⟨a1, a2, by omega, a4, a5, a6⟩, ⟨b1, fun q hq => ?_, ?_⟩, ⟨c1, c2, rfl, c4, c5, c6⟩, fun q hq => ⟨rfl, rfl, rfl, rfl⟩, e⟩
      · by_cases hqp : q = p
        · simp only [hqp, if_true]; omega
        · simp only [hqp, if_false]; exact b2 q (by omega)
      · rw [← hp]
        exact dis_add a3.1 b3 (Classical.not_not.mp h3)
    · have h4c : f = 30 ∨ f = 31 ∨ f = 32 ∨ f = 33 := by omega
      have := hL.2.2
      rcases h4c with rfl | rfl | rfl | rfl
      · rw [x30]; show (if c = p then k else g 15 0 c) = 0; rw [if_neg (by omega)]; exact this 15 0 c (by omega) hc
      · rw [x31]; show (if c = p then v else g 16 0 c) = 0; rw [if_neg (by omega)]; exact this 16 0 c (by omega) hc
      · rw [x32]; show (if c = p then s else g 17 0 c) = 0; rw [if_neg (by omega)]; exact this 17 0 c (by omega) hc
      · rw [x33]; show (if c = p then h else g 18 0 c) = 0; rw [if_neg (by omega)]; exact this 18 0 c (by omega) hc
    · have h4c : f = 15 ∨ f = 16 ∨ f = 17 ∨ f = 18 := by omega
      have hB := hL.2.2 f i c hf hc
      rw [w f (by omega)]
      rcases h4c with rfl | rfl | rfl | rfl
      · rw [y15, if_neg (by omega)]; exact hB
      · rw [y16, if_neg (by omega)]; exact hB
      · rw [y17, if_neg (by omega)]; exact hB
      · rw [y18, if_neg (by omega)]; exact hB
  · show zup (zup (zup (zup (zup g1 30 0 (g1 8 0 2).toNat k) 31 0 (g1 8 0 2).toNat v) 32 0 (g1 8 0 2).toNat s) 33 0 (g1 8 0 2).toNat h) 8 0 2 (g1 8 0 2 + 1) 1 0 8 = _
    rw [zup_nf _ _ _ _ (by decide), zup_nf _ _ _ _ (by decide), zup_nf _ _ _ _ (by decide), zup_nf _ _ _ _ (by decide), zup_nf _ _ _ _ (by decide), hz 1 (by omega)]
theorem M_put {g : ZG} (H : RR g) (p h : Int) : (cPut g p h).1 = (mPut (cPut g p h).2 p h).1 ∧ OKS g (mPut (cPut g p h).2 p h).2 := by
  have hfn := H.fn
  have hH := H
  obtain ⟨⟨⟨a1, a2, a3, a4, a5, a6⟩, ⟨b1, b2, b3⟩, ⟨c1, c2, c3, c4, c5, c6⟩, d, e⟩, _, _, _, _, _, hZ, hL⟩ := H
  unfold cPut
  by_cases h1 : ¬ (0 ≤ p ∧ p < g 2 0 3) ∨ ¬ (0 ≤ h ∧ h < g 2 0 0)
  · rw [if_pos h1]
    unfold mPut
    dsimp only
    rw [if_pos (show ¬ (0 ≤ p ∧ p < g 8 0 2) ∨ ¬ (0 ≤ h ∧ h < g 8 0 0) by rw [c1, c3]; exact h1)]
    exact ⟨rfl, hH, rfl⟩
  rw [if_neg h1]
  by_cases h3 : zwho (g 2 0 3) (g 18 0) h ≠ -1
  · rw [if_pos h3]
    unfold mPut
    dsimp only
    rw [if_neg (show ¬ (¬ (0 ≤ p ∧ p < g 8 0 2) ∨ ¬ (0 ≤ h ∧ h < g 8 0 0)) by rw [c1, c3]; exact h1), if_pos (show zwho (g 8 0 2) (g 33 0) h ≠ -1 by rw [hfn.2.2.2, c3]; exact h3)]
    exact ⟨rfl, hH, rfl⟩
  rw [if_neg h3]
  have e8 : zup g 18 0 p.toNat h 8 = g 8 := zup_nf _ _ _ _ (by decide)
  have e33 : zup g 18 0 p.toNat h 33 = g 33 := zup_nf _ _ _ _ (by decide)
  unfold mPut
  dsimp only
  rw [if_neg (show ¬ (¬ (0 ≤ p ∧ p < zup g 18 0 p.toNat h 8 0 2) ∨ ¬ (0 ≤ h ∧ h < zup g 18 0 p.toNat h 8 0 0)) by rw [e8, c1, c3]; exact h1), if_neg (show ¬ zwho (zup g 18 0 p.toNat h 8 0 2) (zup g 18 0 p.toNat h 33 0) h ≠ -1 by rw [e8, e33, hfn.2.2.2, c3]; exact h3)]
  refine ⟨by show g 18 0 p.toNat = zup g 18 0 p.toNat h 33 0 p.toNat; rw [e33, hfn.2.2.2], ?_, ?_⟩
  · show RR (zup (zup g 18 0 p.toNat h) 33 0 p.toNat h)
    have w : ∀ f, f ≠ 18 → f ≠ 33 → zup (zup g 18 0 p.toNat h) 33 0 p.toNat h f = g f := fun f h1 h2 => by rw [zup_nf _ _ _ _ h2, zup_nf _ _ _ _ h1]
    have w18 : zup (zup g 18 0 p.toNat h) 33 0 p.toNat h 18 = zup g 18 0 p.toNat h 18 := zup_nf _ _ _ _ (by decide)
    have x18 : zup (zup g 18 0 p.toNat h) 33 0 p.toNat h 18 0 = fun c => if c = p.toNat then h else g 18 0 c := by rw [w18, zup_at]
    have x33 : zup (zup g 18 0 p.toNat h) 33 0 p.toNat h 33 0 = fun c => if c = p.toNat then h else g 18 0 c := by rw [zup_at, e33, hfn.2.2.2]
    refine hH.of_N (fun f hf => w f (by omega) (by omega)) (fun f hf => ?_) (fun c hc => by rw [w 8 (by decide) (by decide)]) ?_ (fun f hf c hc => ?_) (fun f i c hf hc => ?_)
    · by_cases f18 : f = 18
      · subst f18; rw [w18]; exact zup_ni _ _ _ _ (by decide)
      · rw [w f f18 (by omega)]
    · refine RN.of (by rw [w 2 (by decide) (by decide)]) (by rw [w 14 (by decide) (by decide)]) (by rw [w 15 (by decide) (by decide)]) (by rw [w 16 (by decide) (by decide)]) (by rw [w 17 (by decide) (by decide)]) x18 (by rw [w 19 (by decide) (by decide)]) (by rw [w 7 (by decide) (by decide)]) (by rw [w 8 (by decide) (by decide)]) (by rw [w 8 (by decide) (by decide)]) (by rw [w 8 (by decide) (by decide)]) (by rw [w 8 (by decide) (by decide)]) (by rw [w 8 (by decide) (by decide)]) (by rw [w 8 (by decide) (by decide)]) (by rw [w 30 (by decide) (by decide)]) (by rw [w 31 (by decide) (by decide)]) (by rw [w 32 (by decide) (by decide)]) x33 (by rw [w 46 (by decide) (by decide)]) ?_
      refine ⟨⟨a1, a2, a3, a4, a5, a6⟩, ⟨b1, fun q hq => ?_, dis_put b3 (Classical.not_not.mp h3)⟩, ⟨c1, c2, c3, c4, c5, c6⟩, fun q hq => ⟨(d q hq).1, (d q hq).2.1, (d q hq).2.2.1, rfl⟩, e⟩
      have := b2 q hq
      by_cases hqp : q = p.toNat
      · refine ⟨?_, this.2⟩
        show 0 ≤ (if q = p.toNat then h else g 18 0 q) ∧ (if q = p.toNat then h else g 18 0 q) < g 2 0 0
        rw [if_pos hqp]; omega
      · refine ⟨?_, this.2⟩
        show 0 ≤ (if q = p.toNat then h else g 18 0 q) ∧ (if q = p.toNat then h else g 18 0 q) < g 2 0 0
        rw [if_neg hqp]; exact this.1
    · by_cases f33 : f = 33
      · subst f33; rw [x33]; show (if c = p.toNat then h else g 18 0 c) = 0; rw [if_neg (by omega)]; exact hL.2.2 18 0 c (by omega) hc
      · rw [w f (by omega) f33]; exact hZ.2.2 f hf c hc
    · by_cases f18 : f = 18
      · subst f18
        rw [w18]
        show (if 18 = 18 ∧ c = p.toNat ∧ i = 0 then h else g 18 i c) = 0
        rw [if_neg (by omega)]; exact hL.2.2 18 i c hf hc
      · rw [w f f18 (by omega)]; exact hL.2.2 f i c hf hc
  · show zup (zup g 18 0 p.toNat h) 33 0 p.toNat h 1 0 8 = _
    rw [zup_nf _ _ _ _ (by decide), zup_nf _ _ _ _ (by decide)]
theorem M_book {g : ZG} (H : RR g) (t : Int) : (cBook g t).1 = (mBook (cBook g t).2 t).1 ∧ OKS g (mBook (cBook g t).2 t).2 := by
  have hfn := H.fn
  have hH := H
  obtain ⟨⟨⟨a1, a2, a3, a4, a5, a6⟩, ⟨b1, b2, b3⟩, ⟨c1, c2, c3, c4, c5, c6⟩, d, e⟩, _, _, _, _, _, hZ, hL⟩ := H
  unfold cBook
  by_cases h1 : t = -1
  · rw [if_pos h1]
    unfold mBook
    dsimp only
    rw [if_pos h1]
    refine ⟨rfl, ?_, by show zup (zup g 2 0 10 0) 8 0 32 0 1 0 8 = _; rw [zup_nf _ _ _ _ (by decide), zup_nf _ _ _ _ (by decide)]⟩
    show RR (zup (zup g 2 0 10 0) 8 0 32 0)
    have w : ∀ f, f ≠ 2 → f ≠ 8 → zup (zup g 2 0 10 0) 8 0 32 0 f = g f := fun f h1 h2 => by rw [zup_nf _ _ _ _ h2, zup_nf _ _ _ _ h1]
    have w8 : ∀ c, c ≠ 32 → zup (zup g 2 0 10 0) 8 0 32 0 8 0 c = g 8 0 c := fun c hc => by rw [zup_nk _ _ _ _ _ _ hc, zup_nf _ _ _ _ (by decide)]
    have w2 : zup (zup g 2 0 10 0) 8 0 32 0 2 = zup g 2 0 10 0 2 := zup_nf _ _ _ _ (by decide)
    have w2k : ∀ c, c ≠ 10 → zup g 2 0 10 0 2 0 c = g 2 0 c := fun c hc => zup_nk _ _ _ _ _ _ hc
    refine hH.of_N (fun f hf => w f (by omega) (by omega)) (fun f hf => ?_) (fun c hc => w8 c (by omega)) ?_ (fun f hf c hc => by rw [w f (by omega) (by omega)]; exact hZ.2.2 f hf c hc) (fun f i c hf hc => by rw [w f (by omega) (by omega)]; exact hL.2.2 f i c hf hc)
    · by_cases f2 : f = 2
      · subst f2; rw [w2]; exact zup_ni _ _ _ _ (by decide)
      · rw [w f f2 (by omega)]
    · refine RN.of (by rw [w2]) (by rw [w 14 (by decide) (by decide)]) (by rw [w 15 (by decide) (by decide)]) (by rw [w 16 (by decide) (by decide)]) (by rw [w 17 (by decide) (by decide)]) (by rw [w 18 (by decide) (by decide)]) (by rw [w 19 (by decide) (by decide)]) (by rw [w 7 (by decide) (by decide)]) (w8 0 (by decide)) (w8 1 (by decide)) (w8 2 (by decide)) (w8 3 (by decide)) (zup_eq _ _ _ _ _) (w8 9 (by decide)) (by rw [w 30 (by decide) (by decide)]) (by rw [w 31 (by decide) (by decide)]) (by rw [w 32 (by decide) (by decide)]) (by rw [w 33 (by decide) (by decide)]) (by rw [w 46 (by decide) (by decide)]) ?_
      unfold RS
      rw [w2k 0 (by decide), w2k 1 (by decide), w2k 3 (by decide), w2k 8 (by decide), w2k 11 (by decide), show zup g 2 0 10 0 2 0 10 = 0 from zup_eq _ _ _ _ _]
      exact ⟨⟨a1, a2, a3, a4, by decide, a6⟩, ⟨b1, b2, b3⟩, ⟨c1, c2, c3, c4, rfl, c6⟩, d, e⟩
  rw [if_neg h1]
  by_cases h2 : t < 0 ∨ 6 ≤ t / 10 ∨ 8 ≤ t % 10
  · rw [if_pos h2]
    unfold mBook
    dsimp only
    rw [if_neg h1, if_pos (show t < 0 ∨ 57 < t ∨ 8 ≤ t % 10 by omega)]
    exact ⟨rfl, hH, rfl⟩
  rw [if_neg h2]
  have h2m : ¬ (t < 0 ∨ 57 < t ∨ 8 ≤ t % 10) := by omega
  by_cases h3 : 12 ≤ g 2 0 10
  · rw [if_pos h3]
    unfold mBook
    dsimp only
    rw [if_neg h1, if_neg h2m, if_pos (show 12 ≤ g 8 0 32 by rw [c5]; exact h3)]
    exact ⟨rfl, hH, rfl⟩
  rw [if_neg h3]
  generalize hq : (g 2 0 10).toNat = q
  generalize hb : g 2 0 10 = bb at *
  have e8 : zup (zup g 19 0 q t) 2 0 10 (bb + 1) 8 = g 8 := by rw [zup_nf _ _ _ _ (by decide), zup_nf _ _ _ _ (by decide)]
  unfold mBook
  dsimp only
  rw [if_neg h1, if_neg h2m, if_neg (show ¬ 12 ≤ zup (zup g 19 0 q t) 2 0 10 (bb + 1) 8 0 32 by rw [e8, c5]; exact h3)]
  have f32 : zup (zup g 19 0 q t) 2 0 10 (bb + 1) 8 0 32 = bb := by rw [e8, c5]
  refine ⟨by show bb + 1 = zup (zup g 19 0 q t) 2 0 10 (bb + 1) 8 0 32 + 1; rw [f32], ?_, ?_⟩
  · show RR (zup (zup (zup (zup g 19 0 q t) 2 0 10 (bb + 1)) 46 0 (zup (zup g 19 0 q t) 2 0 10 (bb + 1) 8 0 32).toNat t) 8 0 32 (zup (zup g 19 0 q t) 2 0 10 (bb + 1) 8 0 32 + 1))
    rw [f32, hq]
    have w : ∀ f, f ≠ 2 → f ≠ 8 → f ≠ 19 → f ≠ 46 → zup (zup (zup (zup g 19 0 q t) 2 0 10 (bb + 1)) 46 0 q t) 8 0 32 (bb + 1) f = g f := fun f h1 h2 h3 h4 => by rw [zup_nf _ _ _ _ h2, zup_nf _ _ _ _ h4, zup_nf _ _ _ _ h1, zup_nf _ _ _ _ h3]
    have w8 : ∀ c, c ≠ 32 → zup (zup (zup (zup g 19 0 q t) 2 0 10 (bb + 1)) 46 0 q t) 8 0 32 (bb + 1) 8 0 c = g 8 0 c := fun c hc => by rw [zup_nk _ _ _ _ _ _ hc, zup_nf _ _ _ _ (by decide), zup_nf _ _ _ _ (by decide), zup_nf _ _ _ _ (by decide)]
    have w2 : zup (zup (zup (zup g 19 0 q t) 2 0 10 (bb + 1)) 46 0 q t) 8 0 32 (bb + 1) 2 = zup (zup g 19 0 q t) 2 0 10 (bb + 1) 2 := by rw [zup_nf _ _ _ _ (by decide), zup_nf _ _ _ _ (by decide)]
    have w19 : zup (zup (zup (zup g 19 0 q t) 2 0 10 (bb + 1)) 46 0 q t) 8 0 32 (bb + 1) 19 = zup g 19 0 q t 19 := by rw [zup_nf _ _ _ _ (by decide), zup_nf _ _ _ _ (by decide), zup_nf _ _ _ _ (by decide)]
    have w46 : zup (zup (zup (zup g 19 0 q t) 2 0 10 (bb + 1)) 46 0 q t) 8 0 32 (bb + 1) 46 0 = fun c => if c = q then t else g 46 0 c := by rw [zup_nf _ _ _ _ (by decide), zup_at, zup_nf _ _ _ _ (by decide), zup_nf _ _ _ _ (by decide)]
    have w2k : ∀ c, c ≠ 10 → zup (zup g 19 0 q t) 2 0 10 (bb + 1) 2 0 c = g 2 0 c := fun c hc => by rw [zup_nk _ _ _ _ _ _ hc, zup_nf _ _ _ _ (by decide)]
    refine hH.of_N (fun f hf => w f (by omega) (by omega) (by omega) (by omega)) (fun f hf => ?_) (fun c hc => w8 c (by omega)) ?_ (fun f hf c hc => by rw [w f (by omega) (by omega) (by omega) (by omega)]; exact hZ.2.2 f hf c hc) (fun f i c hf hc => by rw [w f (by omega) (by omega) (by omega) (by omega)]; exact hL.2.2 f i c hf hc)
    · by_cases f2 : f = 2
      · subst f2; rw [w2, zup_ni _ _ _ _ (by decide), zup_nf _ _ _ _ (by decide)]
      · by_cases f19 : f = 19
        · subst f19; rw [w19]; exact zup_ni _ _ _ _ (by decide)
        · rw [w f f2 (by omega) f19 (by omega)]
    · refine RN.of (by rw [w2]) (by rw [w 14 (by decide) (by decide) (by decide) (by decide)]) (by rw [w 15 (by decide) (by decide) (by decide) (by decide)]) (by rw [w 16 (by decide) (by decide) (by decide) (by decide)]) (by rw [w 17 (by decide) (by decide) (by decide) (by decide)]) (by rw [w 18 (by decide) (by decide) (by decide) (by decide)]) (by rw [w19, zup_at]) (by rw [w 7 (by decide) (by decide) (by decide) (by decide)]) (w8 0 (by decide)) (w8 1 (by decide)) (w8 2 (by decide)) (w8 3 (by decide)) (zup_eq _ _ _ _ _) (w8 9 (by decide)) (by rw [w 30 (by decide) (by decide) (by decide) (by decide)]) (by rw [w 31 (by decide) (by decide) (by decide) (by decide)]) (by rw [w 32 (by decide) (by decide) (by decide) (by decide)]) (by rw [w 33 (by decide) (by decide) (by decide) (by decide)]) w46 ?_
      unfold RS
      rw [w2k 0 (by decide), w2k 1 (by decide), w2k 3 (by decide), w2k 8 (by decide), w2k 11 (by decide), show zup (zup g 19 0 q t) 2 0 10 (bb + 1) 2 0 10 = bb + 1 from zup_eq _ _ _ _ _]
      refine ⟨⟨a1, a2, a3, a4, by omega, a6⟩, ⟨b1, b2, b3⟩, ⟨c1, c2, c3, c4, rfl, c6⟩, d, fun c hc => ?_⟩
      show (if c = q then t else g 46 0 c) = if c = q then t else g 19 0 c
      rw [e c hc]
  · show zup (zup (zup (zup g 19 0 q t) 2 0 10 (bb + 1)) 46 0 (zup (zup g 19 0 q t) 2 0 10 (bb + 1) 8 0 32).toNat t) 8 0 32 (zup (zup g 19 0 q t) 2 0 10 (bb + 1) 8 0 32 + 1) 1 0 8 = _
    rw [zup_nf _ _ _ _ (by decide), zup_nf _ _ _ _ (by decide), zup_nf _ _ _ _ (by decide), zup_nf _ _ _ _ (by decide)]
