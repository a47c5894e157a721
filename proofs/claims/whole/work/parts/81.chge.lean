theorem zVS.at {g M : ZG} (h : zVS g M) {f i : Nat} (h1 : ¬ (f = 1 ∨ f = 6 ∨ f = 11 ∨ f = 12 ∨ f = 13 ∨ f = 23 ∨ f = 24)) (h2 : ¬ ((f = 2 ∨ (14 ≤ f ∧ f ≤ 19)) ∧ i = 2)) : M f i = g f i := by
  refine h f i ?_
  unfold zvis
  simp only [Bool.not_eq_true', Bool.or_eq_false_iff, Bool.and_eq_false_iff, beq_eq_false_iff_ne]
  omega
/-! a move -/
def MVC (g g1 : ZG) : Prop := (9999 ≤ g 2 0 8 ∧ g1 = g) ∨ (g 2 0 8 < 9999 ∧ ∃ M, zTL M = (tStep (cT g)).2 ∧ zLV g 2 M ∧ (M 2 2 10 = g 2 0 10 ∧ M 2 2 11 = g 2 0 11 ∧ ∀ k, k < 12 → M 19 2 k = g 19 0 k) ∧ g1 = zcopyF M 0 2)
theorem MVC.m {g g1 : ZG} (h : MVC g g1) : ∀ f, (f = 8 ∨ (30 ≤ f ∧ f ≤ 42)) → g1 f = g f := by
  intro f hf
  rcases h with ⟨_, h⟩ | ⟨_, M, _, hV, _, h⟩
  · rw [h]
  · rw [h]
    funext i
    rw [zcopyF_o M (by omega)]
    exact hV.2.2.1.at (by omega) (by omega)
theorem M_move {g g1 g2 : ZG} {r : Option ZV} (H : RR g) (hc : MVC g g1) (hm : (g1 8 0 3 = 9999 ∧ r = some (ZI (-3)) ∧ g2 = g1) ∨ (g1 8 0 3 < 9999 ∧ r = some (ZI (tStep (mT g1)).1) ∧ mT g2 = (tStep (mT g1)).2 ∧ zGM g1 g2 ∧ MOK g2 ∧ MHH g2 ∧ g2 8 0 3 ≤ g1 8 0 3 + 1)) : r = some (ZI (cMove g)) ∧ RR g2 ∧ g2 1 0 8 ≤ g 1 0 8 + 2 := by
  have hH := H
  have hT := H.t
  have e8 : g1 8 = g 8 := hc.m 8 (by omega)
  have hmT : mT g1 = mT g := mT_c hc.m
  have hcok := H.cok
  obtain ⟨⟨⟨a1, a2, a3, a4, a5, a6⟩, ⟨b1, b2, b3⟩, ⟨c1, c2, c3, c4, c5, c6⟩, d, e⟩, hI, hS, hX, hTp, hA, hZ, hL⟩ := H
  rcases hc with ⟨h1, h2⟩ | ⟨h1, M, hTM, hV, ⟨m10, m11, m19⟩, h2⟩
  · subst h2
    rcases hm with ⟨q1, q2, q3⟩ | ⟨q1, _⟩
    · refine ⟨by rw [q2]; unfold cMove; rw [if_pos h1], by rw [q3]; exact hH, by rw [q3]; omega⟩
    · rw [c4] at q1; omega
  · rcases hm with ⟨q1, _⟩ | ⟨q1, q2, q3, q4, q5, q6, q7⟩
    · rw [e8, c4] at q1; omega
    rw [hmT, ← hT] at q2 q3
    have hTT : zTL M = mT g2 := by rw [hTM, q3]
    have t0 : M 2 2 0 = g2 8 0 0 := congrArg tn hTT
    have t1 : M 2 2 1 = g2 8 0 1 := congrArg tsh hTT
    have t2 : M 2 2 3 = g2 8 0 2 := congrArg tnp hTT
    have t3 : M 2 2 8 = g2 8 0 3 := congrArg tmv hTT
    have t15 : M 15 2 = g2 30 0 := congrArg tkd hTT
    have t16 : M 16 2 = g2 31 0 := congrArg tv hTT
    have t17 : M 17 2 = g2 32 0 := congrArg tsr hTT
    have t18 : M 18 2 = g2 33 0 := congrArg tho hTT
    have hnp : M 2 2 3 = g 2 0 3 ∧ DIS (g 2 0 3) (M 18 2) := by
      have hd := dis_step (t := cT g) a3.1 b3
      rw [← hTM] at hd
      exact hd
    obtain ⟨hLOK, hLHH, hVS, hB, hs8, _⟩ := hV
    have z : ∀ f i, ¬ (i = 0 ∧ (f = 2 ∨ f = 14 ∨ f = 15 ∨ f = 16 ∨ f = 17 ∨ f = 18 ∨ f = 19)) → zcopyF M 0 2 f i = M f i := fun f i h => zcopyF_o M h
    have z2 : ∀ k, (k = 0 ∨ k = 1 ∨ k = 3 ∨ k = 8 ∨ k = 10 ∨ k = 11) → zcopyF M 0 2 2 0 k = M 2 2 k := fun k hk => zcopyF_2 M hk
    have zp : ∀ f, (f = 15 ∨ f = 16 ∨ f = 17 ∨ f = 18) → zcopyF M 0 2 f 0 = M f 2 := fun f hf => zcopyF_p hB hf
    have z14 : ∀ k, k < 8 → zcopyF M 0 2 14 0 k = M 14 2 k := fun k hk => zcopyF_14 M hk
    have z19 : ∀ k, k < 12 → zcopyF M 0 2 19 0 k = M 19 2 k := fun k hk => zcopyF_19 M hk
    have zB : ZB (zcopyF M 0 2) := zcopyF_zb hB 0 2
    rw [← h2] at z z2 zp z14 z19 zB
    have w : ∀ f i, ¬ (f = 1 ∨ f = 6 ∨ f = 11 ∨ f = 12 ∨ f = 13 ∨ f = 23 ∨ f = 24) → ¬ ((f = 2 ∨ (14 ≤ f ∧ f ≤ 19)) ∧ i ≠ 1) → g1 f i = g f i := fun f i h1 h2 => (z f i (by omega)).trans (hVS.at h1 (by omega))
    have gm : ∀ f, f ≠ 8 → f ≠ 33 → f ≠ 43 → g2 f = g1 f := q4.1
    have g8 : ∀ k, k ≠ 3 → g2 8 0 k = g 8 0 k := fun k hk => by rw [q4.2.1 0 k (by omega), e8]
    have hL1 : LC M := lc_of hLOK hB
    refine ⟨by rw [q2]; unfold cMove; rw [if_neg (by omega)], ?_, by rw [gm 1 (by decide) (by decide) (by decide), z 1 0 (by omega)]; exact hs8⟩
    refine hH.of_N2 (fun f hf => ?_) (fun f hf => ?_) (fun k hk => g8 k (by omega)) ?_ (fun f hf k hk => ?_) (hL1.c ?_ ?_ (fun f i k hf hk => ?_))
    · rw [gm f (by omega) (by omega) (by omega)]
      funext i
      exact w f i (by omega) (by omega)
    · rw [gm f (by omega) (by omega) (by omega)]
      exact w f 1 (by omega) (by omega)
    · unfold RN
      rw [gm 2 (by decide) (by decide) (by decide), gm 14 (by decide) (by decide) (by decide), gm 15 (by decide) (by decide) (by decide), gm 16 (by decide) (by decide) (by decide), gm 17 (by decide) (by decide) (by decide), gm 18 (by decide) (by decide) (by decide), gm 19 (by decide) (by decide) (by decide), gm 7 (by decide) (by decide) (by decide), gm 46 (by decide) (by decide) (by decide), g8 32 (by decide), g8 9 (by decide), ← t0, ← t1, ← t2, ← t3, ← t15, ← t16, ← t17, ← t18, zp 15 (by decide), zp 16 (by decide), zp 17 (by decide), zp 18 (by decide), w 7 0 (by decide) (by decide), w 46 0 (by decide) (by decide)]
      unfold RS
      rw [z2 0 (by decide), z2 1 (by decide), z2 3 (by decide), z2 8 (by decide), z2 10 (by decide), z2 11 (by decide), m10, m11]
      obtain ⟨s1, s2, s3, s4, s5, s6⟩ := hLOK.1
      refine ⟨⟨s1, s2, s3, ⟨s4.1, ?_⟩, a5, a6⟩, ⟨fun h hh => by rw [z14 h (by omega)]; exact s5 h hh, fun p hp => ?_, ?_⟩, ⟨rfl, rfl, rfl, rfl, c5, c6⟩, fun _ _ => ⟨rfl, rfl, rfl, rfl⟩, fun k hk => ?_⟩
      · rw [t3]
        rw [e8, c4] at q7
        omega
      · have := s6 p hp
        exact ⟨⟨hLHH p hp, this.1.2⟩, this.2.1, this.2.2.1, this.2.2.2⟩
      · rw [hnp.1]; exact hnp.2
      · rw [e k hk, z19 k hk, m19 k hk]
    · by_cases hf33 : f = 33
      · subst hf33
        rw [q4.2.2 0 k (by omega), w 33 0 (by decide) (by decide)]
        exact hZ.2.2 33 (by omega) k hk
      · rw [gm f (by omega) hf33 (by omega), w f 0 (by omega) (by omega)]
        exact hZ.2.2 f hf k hk
    · rw [gm 13 (by decide) (by decide) (by decide)]; funext i; exact z 13 i (by omega)
    · rw [gm 1 (by decide) (by decide) (by decide)]; funext i; exact z 1 i (by omega)
    · rw [gm f (by omega) (by omega) (by omega)]; exact zB f i k hf hk
/-! a street -/
theorem CLS.lt {g g' : ZG} {B : Nat} (h : ∀ k, k < B → g' 36 0 k = g 36 0 k ∧ g' 37 0 k = g 37 0 k ∧ g' 38 0 k = g 38 0 k ∧ g' 39 0 k = g 39 0 k) {base : Nat} : ∀ (cl : List CL1) (b off : Nat), b + cl.length ≤ B → CLS base g b off cl → CLS base g' b off cl := by
  intro cl
  induction cl with
  | nil => intro b off _ _; trivial
  | cons y r ih =>
    intro b off hB hc
    have hB : b + (r.length + 1) ≤ B := hB
    obtain ⟨x1, x2, x3, x4⟩ := h b (by omega)
    refine ⟨?_, ih _ _ (by omega) hc.2⟩
    rw [x1, x2, x3, x4]
    exact hc.1
theorem STM.lt {g g' : ZG} {j f : Nat} {L : List CL1} (hj : j < f) (hL : LOK1 L) (h35 : g' 35 0 j = g 35 0 j) (h36 : ∀ k, k < 10 * f → g' 36 0 k = g 36 0 k ∧ g' 37 0 k = g 37 0 k ∧ g' 38 0 k = g 38 0 k ∧ g' 39 0 k = g 39 0 k) (h40 : ∀ k, k < 100 * f → g' 40 0 k = g 40 0 k) (H : STM j g L) : STM j g' L := by
  have h1 := hL.2.1
  have h2 := hL.2.2
  have h3 := ccat_cat L
  refine ⟨by rw [h35]; exact H.1, CLS.lt h36 _ _ _ (by rw [List.length_map]; omega) H.2.1, fun i hi => ?_⟩
  rw [h40 (100 * j + i) (by omega)]
  exact H.2.2 i hi
theorem pset_o (g : ZG) (j : Nat) (s : PS) {f i : Nat} (h5 : ¬ (f = 5 ∧ i = 0)) (h3 : ¬ (f = 3 ∧ i = j)) (h20 : ¬ (f = 20 ∧ i = j)) : pset g j s f i = g f i := by
  funext k
  unfold pset
  rw [if_neg h5, if_neg h3, if_neg h20]
def SPC (g : ZG) (y : Bool × Int × List CL1) : Prop := XT (lkm g) (g 8 0 10) 10 0 [] y ∧ (0 ≤ y.2.1 ∧ y.2.1 ≤ 100) ∧ ((y.1 = false ∧ (cStP g).1 = y.2.1) ∨ (y.1 = true ∧ (cStP g).1 = -1 ∧ ∃ L : List CL1, (cStP g).2.2.2 = ccat L ∧ y.2.2 = L.map trc ∧ LOK1 L))
theorem RR.spc {g : ZG} (H : RR g) : ∃ y, SPC g y := by
  have hx := H.2.2.2.1
  obtain ⟨y, y1, y2, y3⟩ := text_eq H.lkp 9 0 (0, false, []) 0 [] [] rfl (Int.le_refl 0) hx.1.1 (Int.le_refl 0)
  refine ⟨y, ?_, y2, ?_⟩
  · rw [H.lk, hx.2.1]; exact y1
  · rcases y3 with y3 | ⟨z1, z2, L, z3, z4, z5, z6, z7⟩
    · exact Or.inl y3
    · refine Or.inr ⟨z1, z2, L, z3, z4, z7, z5, ?_⟩
      have : ((([] : List Int).length : Nat) : Int) = 0 := rfl
      omega
theorem cStF_o (g : ZG) {f i : Nat} (h5 : f ≠ 5) (h3 : ¬ ((f = 3 ∨ f = 20) ∧ i = (g 7 0 8).toNat)) : cStF g f i = g f i := by
  unfold cStF
  rw [zup_nf _ _ _ _ h5, pset_o _ _ _ (fun z => h5 z.1) (by omega) (by omega), zup_nf _ _ _ _ h5]
theorem cSt_m (g : ZG) : ∀ f, ((f = 8 ∨ f = 22) ∨ (30 ≤ f ∧ f ≤ 56)) → (cStreet g).2 f = g f := by
  intro f hf
  unfold cStreet
  by_cases h1 : g 7 0 8 < 0 ∨ 6 ≤ g 7 0 8
  · rw [if_pos h1]
  · rw [if_neg h1]
    by_cases h2 : 0 ≤ (cStP g).1
    · rw [if_pos h2]; funext i; exact cStF_o g (by omega) (by omega)
    · rw [if_neg h2]
      show zup (zup (cStF g) 2 0 11 (g 7 0 8)) 7 0 8 (g 7 0 8 + 1) f = _
      rw [zup_nf _ _ _ _ (by omega), zup_nf _ _ _ _ (by omega)]
      funext i
      exact cStF_o g (by omega) (by omega)
theorem M_street {g g2 : ZG} {r : Option ZV} {y : Bool × Int × List CL1} (H : RR g) (hy : SPC g y) (hm : ((cStreet g).2 8 0 8 = 6 ∧ r = some (ZI (-4)) ∧ g2 = (cStreet g).2) ∨ ((cStreet g).2 8 0 8 < 6 ∧ y.1 = false ∧ r = some (ZI (-10 - y.2.1)) ∧ ∃ M, zTx ((cStreet g).2 8 0 8).toNat (cStreet g).2 M ∧ M 8 0 11 = y.2.1 ∧ g2 = zup M 8 0 10 0) ∨ ((cStreet g).2 8 0 8 < 6 ∧ y.1 = true ∧ r = some (ZI ((cStreet g).2 8 0 8)) ∧ ∃ M, zTx ((cStreet g).2 8 0 8).toNat (cStreet g).2 M ∧ M 8 0 11 = y.2.1 ∧ (M 35 0 ((cStreet g).2 8 0 8).toNat = (y.2.2.length : Int) ∧ CLS (100 * ((cStreet g).2 8 0 8).toNat) M (10 * ((cStreet g).2 8 0 8).toNat) 0 y.2.2 ∧ M 8 0 21 = ((100 * ((cStreet g).2 8 0 8).toNat : Nat) : Int) + (cat y.2.2).length ∧ SL (100 * ((cStreet g).2 8 0 8).toNat) M (cat y.2.2)) ∧ g2 = zup (zup (zup M 8 0 10 0) 8 0 9 ((cStreet g).2 8 0 8)) 8 0 8 ((cStreet g).2 8 0 8 + 1))) : r = some (ZI (cStreet g).1) ∧ OKS g g2 := by
  have hH := H
  obtain ⟨hN, hI, hS, hX, hTp, hA, hZ, hL⟩ := H
  obtain ⟨s1, s2, ⟨s3, s4⟩, Ls, s5⟩ := hS
  have hy2 := hy.2.1
  have e88 : (cStreet g).2 8 0 8 = g 7 0 8 := by rw [cSt_m g 8 (by omega)]; exact s2
  rw [e88] at hm
  have hmm := cSt_m g
  have hdef : cStreet g = if g 7 0 8 < 0 ∨ 6 ≤ g 7 0 8 then (-4, g) else if 0 ≤ (cStP g).1 then (-10 - (cStP g).1, cStF g) else (g 7 0 8, zup (zup (cStF g) 2 0 11 (g 7 0 8)) 7 0 8 (g 7 0 8 + 1)) := rfl
  by_cases h1 : g 7 0 8 < 0 ∨ 6 ≤ g 7 0 8
  · rw [if_pos h1] at hdef
    rcases hm with ⟨q1, q2, q3⟩ | ⟨q1, _⟩ | ⟨q1, _⟩
    · rw [q2, q3, hdef]; exact ⟨rfl, hH, rfl⟩
    · omega
    · omega
  rw [if_neg h1] at hdef
  have hj7 : g 7 0 8 = (((g 7 0 8).toNat : Nat) : Int) := (Int.toNat_of_nonneg s1.1).symm
  have hj6 : (g 7 0 8).toNat < 6 := by clear hm; omega
  generalize hj : (g 7 0 8).toNat = j at *
  -- what both cases share
  have base : ∀ (g1 M : ZG) (v11 : Int), (∀ f i, f ≠ 5 → ¬ (f = 2 ∨ f = 7) → ¬ ((f = 3 ∨ f = 20) ∧ i = j) → g1 f i = g f i) → (g1 5 0 0 = 0) → (∀ f, 22 = f → g1 f = g f) → zTx j g1 M → M 8 0 11 = v11 → (0 ≤ v11 ∧ v11 ≤ 100) →
      (∀ f i, f ≠ 5 → f ≠ 8 → ¬ (f = 2 ∨ f = 7) → ¬ (35 ≤ f ∧ f ≤ 41) → ¬ ((f = 3 ∨ f = 20) ∧ i = j) → M f i = g f i) ∧ (∀ k, ¬ (k = 11 ∨ k = 12 ∨ k = 21 ∨ k = 22 ∨ k = 23) → M 8 0 k = g 8 0 k) ∧ (∀ j', j' < j → STC j' M (Ls j') ∧ STM j' M (Ls j') ∧ LOK1 (Ls j')) ∧ M 5 0 0 = 0 := by
    intro g1 M v11 ho h50 h22 hT h11 hv
    have c1 : ∀ f i, f ≠ 5 → f ≠ 8 → ¬ (f = 2 ∨ f = 7) → ¬ (35 ≤ f ∧ f ≤ 41) → ¬ ((f = 3 ∨ f = 20) ∧ i = j) → M f i = g f i := fun f i h5 h8 h2 h35 h3 => by
      rw [hT.1 f h8 (by omega) (by omega) (by omega) (by omega) (by omega) (by omega) (by omega)]
      exact ho f i h5 h2 h3
    refine ⟨c1, fun k hk => ?_, fun j' hjj => ?_, ?_⟩
    · rw [hT.2.1 0 k (by omega), ho 8 0 (by decide) (by decide) (by omega)]
    · obtain ⟨k1, k2, k3⟩ := s5 j' (by omega)
      refine ⟨?_, ?_, k3⟩
      · unfold STC
        rw [c1 3 j' (by decide) (by decide) (by decide) (by decide) (by omega), c1 20 j' (by decide) (by decide) (by decide) (by decide) (by omega)]
        exact k1
      · have k2b : STM j' g1 (Ls j') := STM.lt (f := 6) (by omega) k3 (by rw [ho 35 0 (by decide) (by decide) (by omega)]) (fun k _ => by rw [ho 36 0 (by decide) (by decide) (by omega), ho 37 0 (by decide) (by decide) (by omega), ho 38 0 (by decide) (by decide) (by omega), ho 39 0 (by decide) (by decide) (by omega)]; exact ⟨rfl, rfl, rfl, rfl⟩) (fun k _ => by rw [ho 40 0 (by decide) (by decide) (by omega)]) k2
        exact STM.lt hjj k3 (hT.2.2.2.2 j' (by omega)) hT.2.2.2.1 hT.2.2.1 k2b
    · rw [hT.1 5 (by decide) (by decide) (by decide) (by decide) (by decide) (by decide) (by decide) (by decide)]; exact h50
  have hF5 : cStF g 5 0 0 = 0 := by unfold cStF; exact zup_eq _ _ _ _ _
  have hFo : ∀ f i, f ≠ 5 → ¬ ((f = 3 ∨ f = 20) ∧ i = j) → cStF g f i = g f i := fun f i h5 h3 => cStF_o g h5 (by rw [hj]; exact h3)
  rcases hy.2.2 with ⟨y1, yp⟩ | ⟨y1, yp, L, yL1, yL2, yL3⟩
  · -- a fault
    rw [if_pos (show 0 ≤ (cStP g).1 by omega)] at hdef
    rw [hdef] at hm ⊢
    rcases hm with ⟨q1, _⟩ | ⟨q1, q2, q3, M, q4, q5, q6⟩ | ⟨q1, q2, _⟩
    · omega
    · have B := base (cStF g) M y.2.1 (fun f i h5 _ h3 => hFo f i h5 h3) hF5 (fun f hf => funext fun i => hFo f i (by omega) (by omega)) q4 q5 hy2
      obtain ⟨B1, B2, B3, B4⟩ := B
      have B2x : M 2 = g 2 ∧ M 7 = g 7 := ⟨by rw [q4.1 2 (by decide) (by decide) (by decide) (by decide) (by decide) (by decide) (by decide) (by decide)]; exact funext fun i => hFo 2 i (by decide) (by omega), by rw [q4.1 7 (by decide) (by decide) (by decide) (by decide) (by decide) (by decide) (by decide) (by decide)]; exact funext fun i => hFo 7 i (by decide) (by omega)⟩
      refine ⟨by rw [q3, yp], ?_⟩
      have w : ∀ f i, f ≠ 5 → f ≠ 8 → ¬ (35 ≤ f ∧ f ≤ 41) → ¬ ((f = 3 ∨ f = 20) ∧ i = j) → g2 f i = g f i := fun f i h5 h8 h35 h3 => by
        rw [q6, zup_nf _ _ _ _ h8]
        by_cases f2 : f = 2
        · rw [f2, B2x.1]
        · by_cases f7 : f = 7
          · rw [f7, B2x.2]
          · exact B1 f i h5 h8 (by omega) h35 h3
      have w8 : ∀ k, ¬ (k = 10 ∨ k = 11 ∨ k = 12 ∨ k = 21 ∨ k = 22 ∨ k = 23) → g2 8 0 k = g 8 0 k := fun k hk => by rw [q6, zup_nk _ _ _ _ _ _ (by omega)]; exact B2 k (by omega)
      have wf : ∀ f, f ≠ 5 → f ≠ 8 → ¬ (35 ≤ f ∧ f ≤ 41) → ¬ (f = 3 ∨ f = 20) → g2 f = g f := fun f h5 h8 h35 h3 => funext fun i => w f i h5 h8 h35 (fun z => h3 z.1)
      refine ⟨⟨hN.c (fun f hf => w f 0 (by omega) (by omega) (by omega) (by omega)) (by rw [w 7 0 (by decide) (by decide) (by decide) (by omega)]) (fun k hk => w8 k (by omega)), hI.c (fun f hf => w f 1 (by omega) (by omega) (by omega) (by omega)) (fun f hf => w f 0 (by omega) (by omega) (by omega) (by omega)) ⟨by rw [w 7 0 (by decide) (by decide) (by decide) (by omega)], by rw [w 7 0 (by decide) (by decide) (by decide) (by omega)]⟩ (fun k hk => w8 k (by omega)), ?_, ?_, hTp.c (fun f hf => wf f (by omega) (by omega) (by omega) (by omega)), hA.c ⟨wf 0 (by decide) (by decide) (by decide) (by decide), wf 10 (by decide) (by decide) (by decide) (by decide), wf 52 (by decide) (by decide) (by decide) (by decide)⟩ (w8 46 (by decide)), ?_, hL.c (wf 13 (by decide) (by decide) (by decide) (by decide)) (wf 1 (by decide) (by decide) (by decide) (by decide)) (fun f i k hf hk => by rw [wf f (by omega) (by omega) (by omega) (by omega)]; exact hL.2.2 f i k hf hk)⟩, by rw [wf 1 (by decide) (by decide) (by decide) (by decide)]⟩
      · refine ⟨by rw [w 7 0 (by decide) (by decide) (by decide) (by omega)]; exact s1, by rw [w8 8 (by decide), w 7 0 (by decide) (by decide) (by decide) (by omega)]; exact s2, by rw [w 3 6 (by decide) (by decide) (by decide) (by omega)]; exact ⟨s3, s4⟩, Ls, fun j' hjj => ?_⟩
        rw [w 7 0 (by decide) (by decide) (by decide) (by omega)] at hjj
        obtain ⟨k1, k2, k3⟩ := B3 j' (by omega)
        refine ⟨by unfold STC; rw [q6, zup_nf _ _ _ _ (by decide), zup_nf _ _ _ _ (by decide)]; exact k1, ⟨by rw [q6, zup_nf _ _ _ _ (by decide)]; exact k2.1, CLS.c (fun f hf => by rw [q6, zup_nf _ _ _ _ (by omega)]) _ _ _ k2.2.1, fun i hi => by rw [q6, zup_nf _ _ _ _ (by decide)]; exact k2.2.2 i hi⟩, k3⟩
      · unfold RTx
        rw [show g2 5 0 0 = 0 by rw [q6, zup_nf _ _ _ _ (by decide)]; exact B4, show g2 8 0 10 = 0 by rw [q6]; exact zup_eq _ _ _ _ _, show g2 8 0 11 = y.2.1 by rw [q6, zup_nk _ _ _ _ _ _ (by decide)]; exact q5, w 34 0 (by decide) (by decide) (by decide) (by omega), w 22 0 (by decide) (by decide) (by decide) (by omega)]
        exact ⟨by decide, rfl, hy2, hX.2.2.2⟩
      · refine ⟨?_, by rw [w8 26 (by decide)]; exact hZ.2.1, fun f hf k hk => by rw [w f 0 (by omega) (by omega) (by omega) (by omega)]; exact hZ.2.2 f hf k hk⟩
        unfold LET
        rw [w 42 0 (by decide) (by decide) (by decide) (by omega)]
        exact hZ.1
    · rw [q2] at y1; cases y1
  · -- it stands
    rw [if_neg (show ¬ 0 ≤ (cStP g).1 by omega), hj7] at hdef
    rw [hdef] at hm ⊢
    rw [hj7] at hm
    rcases hm with ⟨q1, _⟩ | ⟨q1, q2, _⟩ | ⟨q1, q2, q3, M, q4, q5, ⟨q35, qC, q21, qS⟩, q6⟩
    · omega
    · rw [q2] at y1; cases y1
    · have q4 : zTx j (zup (zup (cStF g) 2 0 11 (j : Int)) 7 0 8 ((j : Int) + 1)) M := q4
      have B := base (zup (zup (cStF g) 2 0 11 (j : Int)) 7 0 8 ((j : Int) + 1)) M y.2.1 (fun f i h5 h2 h3 => by rw [zup_nf _ _ _ _ (by omega), zup_nf _ _ _ _ (by omega)]; exact hFo f i h5 h3) (by rw [zup_nf _ _ _ _ (by decide), zup_nf _ _ _ _ (by decide)]; exact hF5) (fun f hf => by rw [zup_nf _ _ _ _ (by omega), zup_nf _ _ _ _ (by omega)]; exact funext fun i => hFo f i (by omega) (by omega)) q4 q5 hy2
      obtain ⟨B1, B2, B3, B4⟩ := B
      have M27 : ∀ f, (f = 2 ∨ f = 7 ∨ f = 3 ∨ f = 20) → M f = zup (zup (cStF g) 2 0 11 (j : Int)) 7 0 8 ((j : Int) + 1) f := fun f hf => q4.1 f (by omega) (by omega) (by omega) (by omega) (by omega) (by omega) (by omega) (by omega)
      have m2 : ∀ k, k ≠ 11 → M 2 0 k = g 2 0 k := fun k hk => by rw [M27 2 (by decide), zup_nf _ _ _ _ (by decide), zup_nk _ _ _ _ _ _ hk, hFo 2 0 (by decide) (by omega)]
      have m21 : M 2 1 = g 2 1 := by rw [M27 2 (by decide), zup_nf _ _ _ _ (by decide), zup_ni _ _ _ _ (by decide), hFo 2 1 (by decide) (by omega)]
      have m211 : M 2 0 11 = (j : Int) := by rw [M27 2 (by decide), zup_nf _ _ _ _ (by decide)]; exact zup_eq _ _ _ _ _
      have m7 : ∀ k, k ≠ 8 → M 7 0 k = g 7 0 k := fun k hk => by rw [M27 7 (by decide), zup_nk _ _ _ _ _ _ hk, zup_nf _ _ _ _ (by decide), hFo 7 0 (by decide) (by omega)]
      have m78 : M 7 0 8 = (j : Int) + 1 := by rw [M27 7 (by decide)]; exact zup_eq _ _ _ _ _
      refine ⟨by rw [q3], ?_⟩
      have u : ∀ f, f ≠ 8 → g2 f = M f := fun f h8 => by rw [q6, zup_nf _ _ _ _ h8, zup_nf _ _ _ _ h8, zup_nf _ _ _ _ h8]
      have w : ∀ f i, f ≠ 5 → f ≠ 8 → ¬ (f = 2 ∨ f = 7) → ¬ (35 ≤ f ∧ f ≤ 41) → ¬ ((f = 3 ∨ f = 20) ∧ i = j) → g2 f i = g f i := fun f i h5 h8 h2 h35 h3 => by rw [u f h8]; exact B1 f i h5 h8 h2 h35 h3
      have w8 : ∀ k, ¬ (k = 8 ∨ k = 9 ∨ k = 10 ∨ k = 11 ∨ k = 12 ∨ k = 21 ∨ k = 22 ∨ k = 23) → g2 8 0 k = g 8 0 k := fun k hk => by rw [q6, zup_nk _ _ _ _ _ _ (by omega), zup_nk _ _ _ _ _ _ (by omega), zup_nk _ _ _ _ _ _ (by omega)]; exact B2 k (by omega)
      have w88 : g2 8 0 8 = (j : Int) + 1 := by rw [q6]; exact zup_eq _ _ _ _ _
      have w89 : g2 8 0 9 = (j : Int) := by rw [q6, zup_nk _ _ _ _ _ _ (by decide)]; exact zup_eq _ _ _ _ _
      have w810 : g2 8 0 10 = 0 := by rw [q6, zup_nk _ _ _ _ _ _ (by decide), zup_nk _ _ _ _ _ _ (by decide)]; exact zup_eq _ _ _ _ _
      have w811 : g2 8 0 11 = y.2.1 := by rw [q6, zup_nk _ _ _ _ _ _ (by decide), zup_nk _ _ _ _ _ _ (by decide), zup_nk _ _ _ _ _ _ (by decide)]; exact q5
      have wf : ∀ f, f ≠ 5 → f ≠ 8 → ¬ (f = 2 ∨ f = 7) → ¬ (35 ≤ f ∧ f ≤ 41) → ¬ (f = 3 ∨ f = 20) → g2 f = g f := fun f h5 h8 h2 h35 h3 => funext fun i => w f i h5 h8 h2 h35 (fun z => h3 z.1)
      have w78 : g2 7 0 8 = (j : Int) + 1 := by rw [u 7 (by decide)]; exact m78
      have hcc := ccat_cat L
      obtain ⟨⟨a1, a2, a3, a4, a5, a6⟩, bb, ⟨c1, c2, c3, c4, c5, c6⟩, d, e⟩ := hN
      refine ⟨⟨?_, ?_, ?_, ?_, hTp.c (fun f hf => wf f (by omega) (by omega) (by omega) (by omega) (by omega)), hA.c ⟨wf 0 (by decide) (by decide) (by decide) (by decide) (by decide), wf 10 (by decide) (by decide) (by decide) (by decide) (by decide), wf 52 (by decide) (by decide) (by decide) (by decide) (by decide)⟩ (w8 46 (by decide)), ?_, hL.c (wf 13 (by decide) (by decide) (by decide) (by decide) (by decide)) (wf 1 (by decide) (by decide) (by decide) (by decide) (by decide)) (fun f i k hf hk => by rw [wf f (by omega) (by omega) (by omega) (by omega) (by omega)]; exact hL.2.2 f i k hf hk)⟩, by rw [wf 1 (by decide) (by decide) (by decide) (by decide) (by decide)]⟩
      · unfold RN
        rw [u 2 (by decide), w 14 0 (by decide) (by decide) (by decide) (by decide) (by omega), w 15 0 (by decide) (by decide) (by decide) (by decide) (by omega), w 16 0 (by decide) (by decide) (by decide) (by decide) (by omega), w 17 0 (by decide) (by decide) (by decide) (by decide) (by omega), w 18 0 (by decide) (by decide) (by decide) (by decide) (by omega), w 19 0 (by decide) (by decide) (by decide) (by decide) (by omega), w78, w8 0 (by decide), w8 1 (by decide), w8 2 (by decide), w8 3 (by decide), w8 32 (by decide), w89, w 30 0 (by decide) (by decide) (by decide) (by decide) (by omega), w 31 0 (by decide) (by decide) (by decide) (by decide) (by omega), w 32 0 (by decide) (by decide) (by decide) (by decide) (by omega), w 33 0 (by decide) (by decide) (by decide) (by decide) (by omega), w 46 0 (by decide) (by decide) (by decide) (by decide) (by omega)]
        unfold RS
        rw [m2 0 (by decide), m2 1 (by decide), m2 3 (by decide), m2 8 (by decide), m2 10 (by decide), m211]
        exact ⟨⟨a1, a2, a3, a4, a5, Or.inr (by omega)⟩, bb, ⟨c1, c2, c3, c4, c5, by rw [if_neg (by omega)]⟩, d, e⟩
      · obtain ⟨i1, i2, i3⟩ := hI
        have w79 : g2 7 0 9 = g 7 0 9 := by rw [u 7 (by decide)]; exact m7 9 (by decide)
        have w21 : g2 2 1 = g 2 1 := by rw [u 2 (by decide)]; exact m21
        refine ⟨?_, by rw [w79, w8 34 (by decide)]; exact i2, by rw [w21]; exact i3⟩
        rw [w79]
        rcases i1 with i1 | ⟨i1, i4⟩
        · exact Or.inl i1
        · refine Or.inr ⟨i1, ?_⟩
          unfold RI
          rw [w21, w 14 1 (by decide) (by decide) (by decide) (by decide) (by omega), w 15 1 (by decide) (by decide) (by decide) (by decide) (by omega), w 16 1 (by decide) (by decide) (by decide) (by decide) (by omega), w 17 1 (by decide) (by decide) (by decide) (by decide) (by omega), w 18 1 (by decide) (by decide) (by decide) (by decide) (by omega), w 19 1 (by decide) (by decide) (by decide) (by decide) (by omega), w78, w8 35 (by decide), w8 36 (by decide), w8 37 (by decide), w8 38 (by decide), w8 39 (by decide), w8 40 (by decide), w 47 0 (by decide) (by decide) (by decide) (by decide) (by omega), w 48 0 (by decide) (by decide) (by decide) (by decide) (by omega), w 49 0 (by decide) (by decide) (by decide) (by decide) (by omega), w 50 0 (by decide) (by decide) (by decide) (by decide) (by omega), w 51 0 (by decide) (by decide) (by decide) (by decide) (by omega)]
          exact RS.ns i4 (by omega)
      · refine ⟨by rw [w78]; omega, by rw [w88, w78], by rw [w 3 6 (by decide) (by decide) (by decide) (by decide) (by omega)]; exact ⟨s3, s4⟩, fun j' => if j' = j then L else Ls j', fun j' hjj => ?_⟩
        rw [w78] at hjj
        dsimp only
        by_cases hje : j' = j
        · subst hje
          rw [if_pos rfl]
          have hP : (cStP g).2.2.2 = ccat L := yL1
          have p3 : ∀ k, g2 3 j' k = pset (zup g 5 0 2 ((j' : Nat) : Int)) j' (cStP g).2 3 j' k := fun k => by
            rw [u 3 (by decide), M27 3 (by decide), zup_nf _ _ _ _ (by decide), zup_nf _ _ _ _ (by decide)]
            unfold cStF
            rw [zup_nf _ _ _ _ (by decide), hj]
          have p20 : ∀ k, g2 20 j' k = pset (zup g 5 0 2 ((j' : Nat) : Int)) j' (cStP g).2 20 j' k := fun k => by
            rw [u 20 (by decide), M27 20 (by decide), zup_nf _ _ _ _ (by decide), zup_nf _ _ _ _ (by decide)]
            unfold cStF
            rw [zup_nf _ _ _ _ (by decide), hj]
          refine ⟨⟨?_, fun i hi => ?_, ?_⟩, ⟨?_, ?_, ?_⟩, yL3⟩
          · rw [p3, pset_len, hP]
          · rw [Nat.zero_add, p20]
            unfold pset
            rw [if_neg (by omega), if_neg (by omega), if_pos ⟨rfl, rfl⟩, hP, if_pos hi]
          · rw [p3]
            unfold pset
            rw [if_neg (by omega), if_pos ⟨rfl, rfl⟩, if_neg (by decide), if_pos rfl, hP]
          · rw [u 35 (by decide)]
            rw [yL2, List.length_map] at q35
            exact q35
          · rw [yL2] at qC
            exact CLS.c (fun f hf => by rw [u f (by omega)]) _ _ _ qC
          · rw [yL2] at qS
            intro i hi
            rw [u 40 (by decide)]
            exact qS i hi
        · rw [if_neg hje]
          obtain ⟨k1, k2, k3⟩ := B3 j' (by omega)
          refine ⟨by unfold STC; rw [u 3 (by decide), u 20 (by decide)]; exact k1, ⟨by rw [u 35 (by decide)]; exact k2.1, CLS.c (fun f hf => by rw [u f (by omega)]) _ _ _ k2.2.1, fun i hi => by rw [u 40 (by decide)]; exact k2.2.2 i hi⟩, k3⟩
      · unfold RTx
        rw [show g2 5 0 0 = 0 by rw [u 5 (by decide)]; exact B4, w810, w811, w 34 0 (by decide) (by decide) (by decide) (by decide) (by omega), w 22 0 (by decide) (by decide) (by decide) (by decide) (by omega)]
        exact ⟨by decide, rfl, hy2, hX.2.2.2⟩
      · refine ⟨?_, by rw [w8 26 (by decide)]; exact hZ.2.1, fun f hf k hk => by rw [w f 0 (by omega) (by omega) (by omega) (by omega) (by omega)]; exact hZ.2.2 f hf k hk⟩
        unfold LET
        rw [w 42 0 (by decide) (by decide) (by decide) (by decide) (by omega)]
        exact hZ.1
