/-! pieces of the relation that a change leaves -/
theorem RN.c {g g' : ZG} (H : RN g) (hf : ∀ f, ((f = 2 ∨ (14 ≤ f ∧ f ≤ 19)) ∨ (30 ≤ f ∧ f ≤ 33) ∨ f = 46) → g' f 0 = g f 0) (h7 : g' 7 0 8 = g 7 0 8) (h8 : ∀ k, (k ≤ 3 ∨ k = 32 ∨ k = 9) → g' 8 0 k = g 8 0 k) : RN g' := by
  unfold RN
  rw [hf 2 (by omega), hf 14 (by omega), hf 15 (by omega), hf 16 (by omega), hf 17 (by omega), hf 18 (by omega), hf 19 (by omega), h7, hf 30 (by omega), hf 31 (by omega), hf 32 (by omega), hf 33 (by omega), hf 46 (by omega), h8 0 (by omega), h8 1 (by omega), h8 2 (by omega), h8 3 (by omega), h8 32 (by omega), h8 9 (by omega)]
  exact H
theorem RIm.c {g g' : ZG} (H : RIm g) (h1 : ∀ f, (f = 2 ∨ (14 ≤ f ∧ f ≤ 19)) → g' f 1 = g f 1) (hf : ∀ f, (47 ≤ f ∧ f ≤ 51) → g' f 0 = g f 0) (h7 : g' 7 0 8 = g 7 0 8 ∧ g' 7 0 9 = g 7 0 9) (h8 : ∀ k, (34 ≤ k ∧ k ≤ 40) → g' 8 0 k = g 8 0 k) : RIm g' := by
  unfold RIm RI
  rw [h1 2 (by omega), h1 14 (by omega), h1 15 (by omega), h1 16 (by omega), h1 17 (by omega), h1 18 (by omega), h1 19 (by omega), h7.1, h7.2, hf 47 (by omega), hf 48 (by omega), hf 49 (by omega), hf 50 (by omega), hf 51 (by omega), h8 34 (by omega), h8 35 (by omega), h8 36 (by omega), h8 37 (by omega), h8 38 (by omega), h8 39 (by omega), h8 40 (by omega)]
  exact H
theorem CLS.c {g g' : ZG} (h : ∀ f, (36 ≤ f ∧ f ≤ 39) → g' f 0 = g f 0) {base : Nat} : ∀ (cl : List CL1) (b off : Nat), CLS base g b off cl → CLS base g' b off cl := by
  intro cl
  induction cl with
  | nil => intro b off _; trivial
  | cons y r ih =>
    intro b off hc
    refine ⟨?_, ih _ _ hc.2⟩
    rw [h 36 (by omega), h 37 (by omega), h 38 (by omega), h 39 (by omega)]
    exact hc.1
theorem RSt.c {g g' : ZG} (H : RSt g) (hf : ∀ f, (f = 3 ∨ f = 20 ∨ (35 ≤ f ∧ f ≤ 40)) → g' f = g f) (h7 : g' 7 0 8 = g 7 0 8) (h8 : g' 8 0 8 = g 8 0 8) : RSt g' := by
  obtain ⟨s1, s2, s3, Ls, s5⟩ := H
  refine ⟨by rw [h7]; exact s1, by rw [h7, h8]; exact s2, by rw [hf 3 (by omega)]; exact s3, Ls, fun j hj => ?_⟩
  rw [h7] at hj
  obtain ⟨c1, c2, c3⟩ := s5 j hj
  refine ⟨?_, ⟨by rw [hf 35 (by omega)]; exact c2.1, CLS.c (fun f hff => by rw [hf f (by omega)]) _ _ _ c2.2.1, fun i hi => by rw [hf 40 (by omega)]; exact c2.2.2 i hi⟩, c3⟩
  unfold STC
  rw [hf 3 (by omega), hf 20 (by omega)]
  exact c1
theorem RTx.c {g g' : ZG} (H : RTx g) (hf : g' 5 = g 5 ∧ g' 22 = g 22 ∧ g' 34 = g 34) (h8 : g' 8 0 10 = g 8 0 10 ∧ g' 8 0 11 = g 8 0 11) : RTx g' := by
  unfold RTx
  rw [hf.1, hf.2.1, hf.2.2, h8.1, h8.2]
  exact H
theorem RTp.c {g g' : ZG} (H : RTp g) (hf : ∀ f, (f = 4 ∨ f = 21 ∨ (53 ≤ f ∧ f ≤ 55)) → g' f = g f) : RTp g' := by
  unfold RTp
  rw [hf 4 (by omega), hf 21 (by omega), hf 53 (by omega), hf 54 (by omega), hf 55 (by omega)]
  exact H
theorem RTr.c {g g' : ZG} (H : RTr g) (hf : g' 0 = g 0 ∧ g' 10 = g 10 ∧ g' 52 = g 52) (h8 : g' 8 0 46 = g 8 0 46) : RTr g' := by
  unfold RTr
  rw [hf.1, hf.2.1, hf.2.2, h8]
  exact H
theorem RZ.c {g g' : ZG} (H : RZ g) (h42 : g' 42 = g 42) (h8 : g' 8 0 26 = g 8 0 26) (hz : ∀ f, (30 ≤ f ∧ f ≤ 33) → ∀ k, 6 ≤ k → g' f 0 k = 0) : RZ g' := by
  refine ⟨?_, by rw [h8]; exact H.2.1, hz⟩
  unfold LET
  rw [h42]
  exact H.1
theorem LC.c {g g' : ZG} (H : LC g) (h13 : g' 13 = g 13) (h1 : g' 1 = g 1) (hB : ZB g') : LC g' := ⟨fun s hs => by rw [h13, h1]; exact H.1 s hs, by rw [h1]; exact H.2.1, hB⟩
/-- only the town of now changes -/
theorem RR.of_N {g g' : ZG} (H : RR g) (hf : ∀ f, ¬ (f = 2 ∨ f = 8 ∨ (14 ≤ f ∧ f ≤ 19) ∨ (30 ≤ f ∧ f ≤ 33) ∨ f = 46) → g' f = g f) (h1 : ∀ f, (f = 2 ∨ (14 ≤ f ∧ f ≤ 19)) → g' f 1 = g f 1) (h8 : ∀ k, ¬ (k ≤ 3 ∨ k = 32 ∨ k = 9) → g' 8 0 k = g 8 0 k) (hN : RN g') (hz : ∀ f, (30 ≤ f ∧ f ≤ 33) → ∀ k, 6 ≤ k → g' f 0 k = 0) (hB : ZB g') : RR g' := by
  obtain ⟨_, hI, hS, hX, hT, hA, hZ, hL⟩ := H
  have e7 := hf 7 (by omega)
  exact ⟨hN, hI.c h1 (fun f hff => by rw [hf f (by omega)]) ⟨by rw [e7], by rw [e7]⟩ (fun k hk => h8 k (by omega)), hS.c (fun f hff => hf f (by omega)) (by rw [e7]) (h8 8 (by omega)), hX.c ⟨hf 5 (by omega), hf 22 (by omega), hf 34 (by omega)⟩ ⟨h8 10 (by omega), h8 11 (by omega)⟩, hT.c (fun f hff => hf f (by omega)), hA.c ⟨hf 0 (by omega), hf 10 (by omega), hf 52 (by omega)⟩ (h8 46 (by omega)), hZ.c (hf 42 (by omega)) (h8 26 (by omega)) hz, hL.c (hf 13 (by omega)) (hf 1 (by omega)) hB⟩
/-- nothing of the town changes -/
theorem RR.of_O {g g' : ZG} (H : RR g) (hf : ∀ f, ¬ ((f = 4 ∨ f = 5 ∨ f = 0 ∨ f = 8 ∨ f = 10) ∨ (21 ≤ f ∧ f ≤ 22) ∨ f = 34 ∨ (52 ≤ f ∧ f ≤ 56)) → g' f = g f) (h8 : ∀ k, ¬ (k = 10 ∨ k = 46) → g' 8 0 k = g 8 0 k) (hX : RTx g') (hT : RTp g') (hA : RTr g') : RR g' := by
  obtain ⟨hN, hI, hS, _, _, _, hZ, hL⟩ := H
  have e7 := hf 7 (by omega)
  exact ⟨hN.c (fun f hff => by rw [hf f (by omega)]) (by rw [e7]) (fun k hk => h8 k (by omega)), hI.c (fun f hff => by rw [hf f (by omega)]) (fun f hff => by rw [hf f (by omega)]) ⟨by rw [e7], by rw [e7]⟩ (fun k hk => h8 k (by omega)), hS.c (fun f hff => hf f (by omega)) (by rw [e7]) (h8 8 (by omega)), hX, hT, hA, hZ.c (hf 42 (by omega)) (h8 26 (by omega)) (fun f hff k hk => by rw [hf f (by omega)]; exact hZ.2.2 f hff k hk), hL.c (hf 13 (by omega)) (hf 1 (by omega)) (fun f i k hff hk => by rw [hf f (by omega)]; exact hL.2.2 f i k hff hk)⟩
/-! the changes one by one -/
def OKS (g g2 : ZG) : Prop := RR g2 ∧ g2 1 0 8 = g 1 0 8
theorem M_town {g : ZG} (H : RR g) (n sh : Int) : (cTown g n sh).1 = (mTown (cTown g n sh).2 n sh).1 ∧ OKS g (mTown (cTown g n sh).2 n sh).2 := by
  have hfn := H.fn
  have hH := H
  obtain ⟨⟨⟨a1, a2, a3, a4, a5, a6⟩, ⟨b1, b2, b3⟩, ⟨c1, c2, c3, c4, c5, c6⟩, d, e⟩, _, _, _, _, _, hZ, hL⟩ := H
  unfold cTown
  by_cases h1 : sh < 0 ∨ 2 < sh
  · rw [if_pos h1]; unfold mTown; rw [if_pos h1]; exact ⟨rfl, hH, rfl⟩
  rw [if_neg h1]
  by_cases h2 : n < 3 ∨ 8 < n
  · rw [if_pos h2]; unfold mTown; rw [if_neg h1, if_pos h2]; exact ⟨rfl, hH, rfl⟩
  rw [if_neg h2]
  by_cases h3 : zfst (fun p => decide (n ≤ g 18 0 p)) (g 2 0 3).toNat 0 ≠ -1
  · rw [if_pos h3]; unfold mTown; dsimp only; rw [if_neg h1, if_neg h2, if_pos (show zfst (fun p => decide (n ≤ g 33 0 p)) (g 8 0 2).toNat 0 ≠ -1 by rw [hfn.2.2.2, c3]; exact h3)]; exact ⟨rfl, hH, rfl⟩
  rw [if_neg h3]
  have hz : ∀ f, f ≠ 2 → f ≠ 14 → zlayF (zup (zup g 2 0 0 n) 2 0 1 sh) 0 n sh 0 f = g f := by
    intro f f2 f14
    have : zlayF (zup (zup g 2 0 0 n) 2 0 1 sh) 0 n sh 0 f = zup (zup g 2 0 0 n) 2 0 1 sh f := by
      funext i k; unfold zlayF; rw [if_neg (fun z => f14 z.1)]
    rw [this, zup_nf _ _ _ _ f2, zup_nf _ _ _ _ f2]
  have hz2 : ∀ i k, zlayF (zup (zup g 2 0 0 n) 2 0 1 sh) 0 n sh 0 2 i k = if k = 1 ∧ i = 0 then sh else if k = 0 ∧ i = 0 then n else g 2 i k := by
    intro i k
    unfold zlayF zup
    rw [if_neg (by omega)]
    by_cases hk : k = 1 ∧ i = 0
    · rw [if_pos ⟨rfl, hk⟩, if_pos hk]
    · rw [if_neg (fun z => hk z.2), if_neg hk]
      by_cases hk0 : k = 0 ∧ i = 0
      · rw [if_pos ⟨rfl, hk0⟩, if_pos hk0]
      · rw [if_neg (fun z => hk0 z.2), if_neg hk0]
  have hz14 : ∀ i k, zlayF (zup (zup g 2 0 0 n) 2 0 1 sh) 0 n sh 0 14 i k = if (k : Int) < n ∧ i = 0 then ((zmk (fun o => nx n sh k o) n.toNat : Nat) : Int) else g 14 i k := by
    intro i k
    unfold zlayF
    by_cases hk : (k : Int) < n ∧ i = 0
    · rw [if_pos ⟨rfl, ⟨Nat.zero_le _, hk.1⟩, hk.2⟩, if_pos hk]
    · rw [if_neg (fun z => hk ⟨z.2.1.2, z.2.2⟩), if_neg hk, zup_nf _ _ _ _ (by decide), zup_nf _ _ _ _ (by decide)]
  generalize hg1 : zlayF (zup (zup g 2 0 0 n) 2 0 1 sh) 0 n sh 0 = g1 at hz hz2 hz14
  have e8 : g1 8 = g 8 := hz 8 (by decide) (by decide)
  have e33 : g1 33 = g 33 := hz 33 (by decide) (by decide)
  unfold mTown
  dsimp only
  rw [if_neg h1, if_neg h2, if_neg (show ¬ zfst (fun p => decide (n ≤ g1 33 0 p)) (g1 8 0 2).toNat 0 ≠ -1 by rw [e8, e33, hfn.2.2.2, c3]; exact h3)]
  refine ⟨by show g 2 0 0 = g1 8 0 0; rw [e8]; exact c1.symm, ?_, ?_⟩
  · show RR (zup (zup g1 8 0 0 n) 8 0 1 sh)
    refine hH.of_N (fun f hf => ?_) (fun f hf => ?_) (fun k hk => ?_) ?_ (fun f hf k hk => ?_) (fun f i k hf hk => ?_)
    · rw [zup_nf _ _ _ _ (by omega), zup_nf _ _ _ _ (by omega)]; exact hz f (by omega) (by omega)
    · rw [zup_nf _ _ _ _ (by omega), zup_nf _ _ _ _ (by omega)]
      by_cases h2f : f = 2
      · subst h2f; funext k; rw [hz2, if_neg (by omega), if_neg (by omega)]
      · by_cases h14f : f = 14
        · subst h14f; funext k; rw [hz14, if_neg (by omega)]
        · rw [hz f h2f h14f]
    · rw [zup_nk _ _ _ _ _ _ (by omega), zup_nk _ _ _ _ _ _ (by omega), e8]
    · have s2 : ∀ k, k ≠ 0 → k ≠ 1 → g1 2 0 k = g 2 0 k := fun k k0 k1 => by rw [hz2, if_neg (by omega), if_neg (by omega)]
      have s20 : g1 2 0 0 = n := by rw [hz2, if_neg (by omega), if_pos (by omega)]
      have s21 : g1 2 0 1 = sh := by rw [hz2, if_pos (by omega)]
      unfold RN
      rw [show zup (zup g1 8 0 0 n) 8 0 1 sh 2 = g1 2 by rw [zup_nf _ _ _ _ (by decide), zup_nf _ _ _ _ (by decide)]]
      rw [show zup (zup g1 8 0 0 n) 8 0 1 sh 14 = g1 14 by rw [zup_nf _ _ _ _ (by decide), zup_nf _ _ _ _ (by decide)]]
      rw [show zup (zup g1 8 0 0 n) 8 0 1 sh 15 = g 15 by rw [zup_nf _ _ _ _ (by decide), zup_nf _ _ _ _ (by decide)]; exact hz 15 (by decide) (by decide)]
      rw [show zup (zup g1 8 0 0 n) 8 0 1 sh 16 = g 16 by rw [zup_nf _ _ _ _ (by decide), zup_nf _ _ _ _ (by decide)]; exact hz 16 (by decide) (by decide)]
      rw [show zup (zup g1 8 0 0 n) 8 0 1 sh 17 = g 17 by rw [zup_nf _ _ _ _ (by decide), zup_nf _ _ _ _ (by decide)]; exact hz 17 (by decide) (by decide)]
      rw [show zup (zup g1 8 0 0 n) 8 0 1 sh 18 = g 18 by rw [zup_nf _ _ _ _ (by decide), zup_nf _ _ _ _ (by decide)]; exact hz 18 (by decide) (by decide)]
      rw [show zup (zup g1 8 0 0 n) 8 0 1 sh 19 = g 19 by rw [zup_nf _ _ _ _ (by decide), zup_nf _ _ _ _ (by decide)]; exact hz 19 (by decide) (by decide)]
      rw [show zup (zup g1 8 0 0 n) 8 0 1 sh 7 = g 7 by rw [zup_nf _ _ _ _ (by decide), zup_nf _ _ _ _ (by decide)]; exact hz 7 (by decide) (by decide)]
      rw [show zup (zup g1 8 0 0 n) 8 0 1 sh 30 = g 30 by rw [zup_nf _ _ _ _ (by decide), zup_nf _ _ _ _ (by decide)]; exact hz 30 (by decide) (by decide)]
      rw [show zup (zup g1 8 0 0 n) 8 0 1 sh 31 = g 31 by rw [zup_nf _ _ _ _ (by decide), zup_nf _ _ _ _ (by decide)]; exact hz 31 (by decide) (by decide)]
      rw [show zup (zup g1 8 0 0 n) 8 0 1 sh 32 = g 32 by rw [zup_nf _ _ _ _ (by decide), zup_nf _ _ _ _ (by decide)]; exact hz 32 (by decide) (by decide)]
      rw [show zup (zup g1 8 0 0 n) 8 0 1 sh 33 = g 33 by rw [zup_nf _ _ _ _ (by decide), zup_nf _ _ _ _ (by decide)]; exact hz 33 (by decide) (by decide)]
      rw [show zup (zup g1 8 0 0 n) 8 0 1 sh 46 = g 46 by rw [zup_nf _ _ _ _ (by decide), zup_nf _ _ _ _ (by decide)]; exact hz 46 (by decide) (by decide)]
      have k8 : ∀ k, k ≠ 0 → k ≠ 1 → zup (zup g1 8 0 0 n) 8 0 1 sh 8 0 k = g 8 0 k := fun k k0 k1 => by rw [zup_nk _ _ _ _ _ _ k1, zup_nk _ _ _ _ _ _ k0, e8]
      rw [k8 2 (by decide) (by decide), k8 3 (by decide) (by decide), k8 32 (by decide) (by decide), k8 9 (by decide) (by decide), show zup (zup g1 8 0 0 n) 8 0 1 sh 8 0 0 = n by rw [zup_nk _ _ _ _ _ _ (by decide), zup_eq], show zup (zup g1 8 0 0 n) 8 0 1 sh 8 0 1 = sh from zup_eq _ _ _ _ _]
      have hlt : ∀ p : Nat, (p : Int) < g 2 0 3 → g 18 0 p < n := by
        intro p hp
        have := zfst_none.mp (Classical.not_not.mp h3) p (Nat.zero_le _) (by omega)
        have := of_decide_eq_false this
        omega
      unfold RS
      rw [s2 3 (by decide) (by decide), s2 8 (by decide) (by decide), s2 10 (by decide) (by decide), s2 11 (by decide) (by decide), s20, s21]
      exact ⟨⟨by omega, by omega, a3, a4, a5, a6⟩, ⟨fun h hh => by rw [hz14, if_pos ⟨hh, rfl⟩], fun p hp => ⟨⟨(b2 p hp).1.1, hlt p hp⟩, (b2 p hp).2⟩, b3⟩, ⟨rfl, rfl, c3, c4, c5, c6⟩, d, e⟩
    · rw [zup_nf _ _ _ _ (by omega), zup_nf _ _ _ _ (by omega), hz f (by omega) (by omega)]; exact hZ.2.2 f hf k hk
    · rw [zup_nf _ _ _ _ (by omega), zup_nf _ _ _ _ (by omega), hz f (by omega) (by omega)]; exact hL.2.2 f i k hf hk
  · show zup (zup g1 8 0 0 n) 8 0 1 sh 1 0 8 = _
    rw [zup_nf _ _ _ _ (by decide), zup_nf _ _ _ _ (by decide), hz 1 (by decide) (by decide)]
