theorem M_feed {g : ZG} (H : RR g) (s : Int) : (cFeed g s).1 = (mFeed (cFeed g s).2 s).1 ∧ OKS g (mFeed (cFeed g s).2 s).2 := by
  have hH := H
  obtain ⟨_, _, _, ⟨x1, x2, x3, x4⟩, hT, hA, _, _⟩ := H
  unfold cFeed
  by_cases h1 : s < 0 ∨ 127 < s
  · rw [if_pos h1]; unfold mFeed; dsimp only; rw [if_pos h1]; exact ⟨rfl, hH, rfl⟩
  rw [if_neg h1]
  by_cases h2 : 0 ≤ g 5 0 0 ∧ g 5 0 0 < 100
  · rw [if_pos h2]
    generalize hq : (g 5 0 0).toNat = q
    generalize hb : g 5 0 0 = bb at *
    have f10 : zup (zup g 22 0 q s) 5 0 0 (bb + 1) 8 0 10 = bb := by rw [zup_nf _ _ _ _ (by decide), zup_nf _ _ _ _ (by decide)]; exact x2
    unfold mFeed
    dsimp only
    rw [if_neg h1, if_neg (show ¬ zup (zup g 22 0 q s) 5 0 0 (bb + 1) 8 0 10 = 100 by rw [f10]; omega)]
    refine ⟨by show bb + 1 = zup (zup g 22 0 q s) 5 0 0 (bb + 1) 8 0 10 + 1; rw [f10], ?_, ?_⟩
    · show RR (zup (zup (zup (zup g 22 0 q s) 5 0 0 (bb + 1)) 34 0 (zup (zup g 22 0 q s) 5 0 0 (bb + 1) 8 0 10).toNat s) 8 0 10 (zup (zup g 22 0 q s) 5 0 0 (bb + 1) 8 0 10 + 1))
      rw [f10, hq]
      have w : ∀ f, f ≠ 22 → f ≠ 5 → f ≠ 34 → f ≠ 8 → zup (zup (zup (zup g 22 0 q s) 5 0 0 (bb + 1)) 34 0 q s) 8 0 10 (bb + 1) f = g f := fun f h1 h2 h3 h4 => by rw [zup_nf _ _ _ _ (by omega), zup_nf _ _ _ _ (by omega), zup_nf _ _ _ _ (by omega), zup_nf _ _ _ _ (by omega)]
      have w8 : ∀ c, c ≠ 10 → zup (zup (zup (zup g 22 0 q s) 5 0 0 (bb + 1)) 34 0 q s) 8 0 10 (bb + 1) 8 0 c = g 8 0 c := fun c hc => by rw [zup_nk _ _ _ _ _ _ hc, zup_nf _ _ _ _ (by decide), zup_nf _ _ _ _ (by decide), zup_nf _ _ _ _ (by decide)]
      refine hH.of_O (fun f hf => w f (by omega) (by omega) (by omega) (by omega)) (fun c hc => w8 c (by omega)) ?_ (hT.c (fun f hf => w f (by omega) (by omega) (by omega) (by omega))) (hA.c ⟨w 0 (by decide) (by decide) (by decide) (by decide), w 10 (by decide) (by decide) (by decide) (by decide), w 52 (by decide) (by decide) (by decide) (by decide)⟩ (w8 46 (by decide)))
      have w5 : zup (zup (zup (zup g 22 0 q s) 5 0 0 (bb + 1)) 34 0 q s) 8 0 10 (bb + 1) 5 0 0 = bb + 1 := by rw [zup_nf _ _ _ _ (by decide), zup_nf _ _ _ _ (by decide), zup_eq]
      have w22 : ∀ k, zup (zup (zup (zup g 22 0 q s) 5 0 0 (bb + 1)) 34 0 q s) 8 0 10 (bb + 1) 22 0 k = if k = q then s else g 22 0 k := fun k => by rw [zup_nf _ _ _ _ (by decide), zup_nf _ _ _ _ (by decide), zup_nf _ _ _ _ (by decide), zup_at]
      have w34 : ∀ k, zup (zup (zup (zup g 22 0 q s) 5 0 0 (bb + 1)) 34 0 q s) 8 0 10 (bb + 1) 34 0 k = if k = q then s else g 34 0 k := fun k => by rw [zup_nf _ _ _ _ (by decide), zup_at, zup_nf _ _ _ _ (by decide), zup_nf _ _ _ _ (by decide)]
      unfold RTx
      rw [w5, w8 11 (by decide), show zup (zup (zup (zup g 22 0 q s) 5 0 0 (bb + 1)) 34 0 q s) 8 0 10 (bb + 1) 8 0 10 = bb + 1 from zup_eq _ _ _ _ _]
      refine ⟨by omega, rfl, x3, fun k hk => ?_⟩
      rw [w22, w34]
      by_cases hkq : k = q
      · rw [if_pos hkq, if_pos hkq]; exact ⟨rfl, by omega, by omega⟩
      · rw [if_neg hkq, if_neg hkq]; exact x4 k hk
    · show zup (zup (zup (zup g 22 0 q s) 5 0 0 (bb + 1)) 34 0 (zup (zup g 22 0 q s) 5 0 0 (bb + 1) 8 0 10).toNat s) 8 0 10 (zup (zup g 22 0 q s) 5 0 0 (bb + 1) 8 0 10 + 1) 1 0 8 = _
      rw [zup_nf _ _ _ _ (by decide), zup_nf _ _ _ _ (by decide), zup_nf _ _ _ _ (by decide), zup_nf _ _ _ _ (by decide)]
  · rw [if_neg h2]
    unfold mFeed
    dsimp only
    rw [if_neg h1, if_pos (show g 8 0 10 = 100 by rw [x2]; omega)]
    exact ⟨rfl, hH, rfl⟩
/-! tapes -/
theorem T_tape {g : ZG} (H : RR g) {t : Nat} {s n len : Int} (ht : t < 6) (hs : -1 ≤ s ∧ s ≤ 4) (hn : 0 ≤ n ∧ n ≤ 60) (h0 : s = -1 → n = 0) (hl : len = n) : OKS g (mzero (zup (zup (mzero (zup (zup g 4 t 0 s) 4 t 1 n) 21 t 0 60) 53 0 t s) 54 0 t len) 55 0 (60 * t) (60 * t + 60)) := by
  subst hl
  have hH := H
  obtain ⟨_, _, _, hX, hT, hA, _, _⟩ := H
  have mz : ∀ (G : ZG) (f q a b x : Nat), x ≠ f → mzero G f q a b x = G x := fun G f q a b x hx => by funext i k; unfold mzero; rw [if_neg (fun z => hx z.1)]
  have w : ∀ f, f ≠ 4 → f ≠ 21 → f ≠ 53 → f ≠ 54 → f ≠ 55 → mzero (zup (zup (mzero (zup (zup g 4 t 0 s) 4 t 1 len) 21 t 0 60) 53 0 t s) 54 0 t len) 55 0 (60 * t) (60 * t + 60) f = g f := fun f h1 h2 h3 h4 h5 => by rw [mz _ _ _ _ _ _ h5, zup_nf _ _ _ _ h4, zup_nf _ _ _ _ h3, mz _ _ _ _ _ _ h2, zup_nf _ _ _ _ h1, zup_nf _ _ _ _ h1]
  refine ⟨hH.of_O (fun f hf => w f (by omega) (by omega) (by omega) (by omega) (by omega)) (fun c hc => by rw [w 8 (by decide) (by decide) (by decide) (by decide) (by decide)]) (hX.c ⟨w 5 (by decide) (by decide) (by decide) (by decide) (by decide), w 22 (by decide) (by decide) (by decide) (by decide) (by decide), w 34 (by decide) (by decide) (by decide) (by decide) (by decide)⟩ ⟨by rw [w 8 (by decide) (by decide) (by decide) (by decide) (by decide)], by rw [w 8 (by decide) (by decide) (by decide) (by decide) (by decide)]⟩) ?_ (hA.c ⟨w 0 (by decide) (by decide) (by decide) (by decide) (by decide), w 10 (by decide) (by decide) (by decide) (by decide) (by decide), w 52 (by decide) (by decide) (by decide) (by decide) (by decide)⟩ (by rw [w 8 (by decide) (by decide) (by decide) (by decide) (by decide)])), by rw [w 1 (by decide) (by decide) (by decide) (by decide) (by decide)]⟩
  intro q hq
  obtain ⟨⟨p1, p2, p3, p4, p5⟩, p6⟩ := hT q hq
  have v4 : ∀ c, mzero (zup (zup (mzero (zup (zup g 4 t 0 s) 4 t 1 len) 21 t 0 60) 53 0 t s) 54 0 t len) 55 0 (60 * t) (60 * t + 60) 4 q c = if q = t ∧ c = 1 then len else if q = t ∧ c = 0 then s else g 4 q c := by
    intro c
    rw [mz _ _ _ _ _ _ (by decide), zup_nf _ _ _ _ (by decide), zup_nf _ _ _ _ (by decide), mz _ _ _ _ _ _ (by decide)]
    show (if 4 = 4 ∧ c = 1 ∧ q = t then len else if 4 = 4 ∧ c = 0 ∧ q = t then s else g 4 q c) = _
    by_cases hqt : q = t <;> by_cases c1 : c = 1 <;> by_cases c0 : c = 0 <;> simp [hqt, c1, c0]
  have v53 : mzero (zup (zup (mzero (zup (zup g 4 t 0 s) 4 t 1 len) 21 t 0 60) 53 0 t s) 54 0 t len) 55 0 (60 * t) (60 * t + 60) 53 0 q = if q = t then s else g 53 0 q := by
    rw [mz _ _ _ _ _ _ (by decide), zup_nf _ _ _ _ (by decide), zup_at, mz _ _ _ _ _ _ (by decide), zup_nf _ _ _ _ (by decide), zup_nf _ _ _ _ (by decide)]
  have v54 : mzero (zup (zup (mzero (zup (zup g 4 t 0 s) 4 t 1 len) 21 t 0 60) 53 0 t s) 54 0 t len) 55 0 (60 * t) (60 * t + 60) 54 0 q = if q = t then len else g 54 0 q := by
    rw [mz _ _ _ _ _ _ (by decide), zup_at, zup_nf _ _ _ _ (by decide), mz _ _ _ _ _ _ (by decide), zup_nf _ _ _ _ (by decide), zup_nf _ _ _ _ (by decide)]
  have v21 : ∀ c, c < 60 → mzero (zup (zup (mzero (zup (zup g 4 t 0 s) 4 t 1 len) 21 t 0 60) 53 0 t s) 54 0 t len) 55 0 (60 * t) (60 * t + 60) 21 q c = if q = t then 0 else g 21 q c := by
    intro c hc
    rw [mz _ _ _ _ _ _ (by decide), zup_nf _ _ _ _ (by decide), zup_nf _ _ _ _ (by decide)]
    show (if 21 = 21 ∧ (0 ≤ c ∧ c < 60) ∧ q = t then 0 else zup (zup g 4 t 0 s) 4 t 1 len 21 q c) = _
    by_cases hqt : q = t
    · rw [if_pos ⟨rfl, ⟨Nat.zero_le _, hc⟩, hqt⟩, if_pos hqt]
    · rw [if_neg (fun z => hqt z.2.2), if_neg hqt, zup_nf _ _ _ _ (by decide), zup_nf _ _ _ _ (by decide)]
  have v55 : ∀ c, c < 60 → mzero (zup (zup (mzero (zup (zup g 4 t 0 s) 4 t 1 len) 21 t 0 60) 53 0 t s) 54 0 t len) 55 0 (60 * t) (60 * t + 60) 55 0 (60 * q + c) = if q = t then 0 else g 55 0 (60 * q + c) := by
    intro c hc
    show (if 55 = 55 ∧ (60 * t ≤ 60 * q + c ∧ 60 * q + c < 60 * t + 60) ∧ 0 = 0 then 0 else zup (zup (mzero (zup (zup g 4 t 0 s) 4 t 1 len) 21 t 0 60) 53 0 t s) 54 0 t len 55 0 (60 * q + c)) = _
    by_cases hqt : q = t
    · rw [if_pos ⟨rfl, by omega, rfl⟩, if_pos hqt]
    · rw [if_neg (fun z => hqt (by omega)), if_neg hqt, zup_nf _ _ _ _ (by decide), zup_nf _ _ _ _ (by decide), mz _ _ _ _ _ _ (by decide), zup_nf _ _ _ _ (by decide), zup_nf _ _ _ _ (by decide)]
  rw [v4 0, v4 1, v53, v54]
  by_cases hqt : q = t
  · rw [if_pos hqt, if_pos hqt, if_neg (fun z => absurd z.2 (by decide)), if_pos ⟨hqt, rfl⟩, if_pos ⟨hqt, rfl⟩]
    refine ⟨⟨rfl, rfl, hs, hn, h0⟩, fun i hi => ?_⟩
    rw [v55 i hi, v21 i hi, if_pos hqt, if_pos hqt]
    exact ⟨rfl, fun _ => Or.inl rfl⟩
  · rw [if_neg hqt, if_neg hqt, if_neg (fun z => hqt z.1), if_neg (fun z => hqt z.1), if_neg (fun z => hqt z.1), if_neg (fun z => hqt z.1)]
    refine ⟨⟨p1, p2, p3, p4, p5⟩, fun i hi => ?_⟩
    rw [v55 i hi, v21 i hi, if_neg hqt, if_neg hqt]
    exact p6 i hi
theorem M_tape {g : ZG} (H : RR g) (t s n : Int) : (cTape g t s n).1 = (mTape (cTape g t s n).2 t s n).1 ∧ OKS g (mTape (cTape g t s n).2 t s n).2 := by
  have hok : OKS g g := ⟨H, rfl⟩
  unfold cTape
  by_cases h1 : 0 ≤ t ∧ t < 6
  · rw [if_neg (show ¬ ¬ (0 ≤ t ∧ t < 6) from fun z => z h1)]
    have h1m : ¬ ¬ (0 ≤ t ∧ t ≤ 5) := by omega
    have e1 : (60 * t).toNat = 60 * t.toNat := by omega
    by_cases h2 : s = -1
    · rw [if_pos h2]
      unfold mTape
      dsimp only
      rw [if_neg h1m, if_neg (show ¬ (s < -1 ∨ 4 < s ∨ (0 ≤ s ∧ 60 < n)) by omega), if_neg (show ¬ (0 ≤ s ∧ n < 0) by omega)]
      refine ⟨rfl, ?_⟩
      dsimp only
      rw [e1]
      exact T_tape H (by omega) (by omega) ⟨by decide, by decide⟩ (fun _ => rfl) (if_pos (by omega))
    · rw [if_neg h2]
      by_cases h3 : s < 0 ∨ 4 < s ∨ 60 < n
      · rw [if_pos h3]
        unfold mTape
        dsimp only
        rw [if_neg h1m, if_pos (show s < -1 ∨ 4 < s ∨ (0 ≤ s ∧ 60 < n) by omega)]
        exact ⟨rfl, hok⟩
      · rw [if_neg h3]
        by_cases h4 : n < 0
        · rw [if_pos h4]
          unfold mTape
          dsimp only
          rw [if_neg h1m, if_neg (show ¬ (s < -1 ∨ 4 < s ∨ (0 ≤ s ∧ 60 < n)) by omega), if_pos (show 0 ≤ s ∧ n < 0 by omega)]
          exact ⟨rfl, hok⟩
        · rw [if_neg h4]
          unfold mTape
          dsimp only
          rw [if_neg h1m, if_neg (show ¬ (s < -1 ∨ 4 < s ∨ (0 ≤ s ∧ 60 < n)) by omega), if_neg (show ¬ (0 ≤ s ∧ n < 0) by omega)]
          refine ⟨rfl, ?_⟩
          dsimp only
          rw [e1]
          exact T_tape H (by omega) (by omega) (by omega) (fun z => absurd z h2) (if_neg (by omega))
  · rw [if_pos h1]
    unfold mTape
    dsimp only
    rw [if_pos (show ¬ (0 ≤ t ∧ t ≤ 5) by omega)]
    exact ⟨rfl, hok⟩
theorem zcut_bool {x : Int} : zcut 4 x = 0 ∨ zcut 4 x = 1 := by
  unfold zcut
  rw [if_neg (by decide), if_neg (by decide), if_neg (by decide), if_pos rfl]
  split
  · exact Or.inl rfl
  · exact Or.inr rfl
theorem M_item {g : ZG} (H : RR g) (t i x : Int) : (cItem g t i x).1 = (mItem (cItem g t i x).2 t i x).1 ∧ OKS g (mItem (cItem g t i x).2 t i x).2 := by
  have hok : OKS g g := ⟨H, rfl⟩
  have hH := H
  obtain ⟨_, _, _, hX, hT, hA, _, _⟩ := H
  unfold cItem
  by_cases h1 : 0 ≤ t ∧ t < 6
  · rw [if_neg (show ¬ ¬ (0 ≤ t ∧ t < 6) from fun z => z h1)]
    have h1m : ¬ ¬ (0 ≤ t ∧ t ≤ 5) := by omega
    obtain ⟨⟨p1, p2, p3, p4, p5⟩, p6⟩ := hT t.toNat (by omega)
    by_cases h2 : g 4 t.toNat 0 = -1
    · rw [if_pos h2]
      unfold mItem
      dsimp only
      rw [if_neg h1m, if_pos (show g 53 0 t.toNat < 0 by rw [p1]; omega)]
      exact ⟨rfl, hok⟩
    · rw [if_neg h2]
      by_cases h3 : i < 0 ∨ g 4 t.toNat 1 ≤ i
      · rw [if_pos h3]
        unfold mItem
        dsimp only
        rw [if_neg h1m, if_neg (show ¬ g 53 0 t.toNat < 0 by rw [p1]; omega), if_pos (show i < 0 ∨ g 54 0 t.toNat ≤ i by rw [p2]; exact h3)]
        exact ⟨rfl, hok⟩
      · rw [if_neg h3]
        generalize hv : zcut (g 4 t.toNat 0) x = v
        generalize ht : t.toNat = tn at *
        generalize hi : i.toNat = k at *
        have e53 : zup g 21 tn k v 53 = g 53 := zup_nf _ _ _ _ (by decide)
        have e54 : zup g 21 tn k v 54 = g 54 := zup_nf _ _ _ _ (by decide)
        unfold mItem
        dsimp only
        rw [if_neg h1m, ht, if_neg (show ¬ zup g 21 tn k v 53 0 tn < 0 by rw [e53, p1]; omega), if_neg (show ¬ (i < 0 ∨ zup g 21 tn k v 54 0 tn ≤ i) by rw [e54, p2]; exact h3)]
        refine ⟨rfl, ?_⟩
        dsimp only
        rw [e53, p1, hv, show (60 * t + i).toNat = 60 * tn + k by omega]
        have w : ∀ f, f ≠ 21 → f ≠ 55 → zup (zup g 21 tn k v) 55 0 (60 * tn + k) v f = g f := fun f h1 h2 => by rw [zup_nf _ _ _ _ h2, zup_nf _ _ _ _ h1]
        refine ⟨hH.of_O (fun f hf => w f (by omega) (by omega)) (fun c hc => by rw [w 8 (by decide) (by decide)]) (hX.c ⟨w 5 (by decide) (by decide), w 22 (by decide) (by decide), w 34 (by decide) (by decide)⟩ ⟨by rw [w 8 (by decide) (by decide)], by rw [w 8 (by decide) (by decide)]⟩) ?_ (hA.c ⟨w 0 (by decide) (by decide), w 10 (by decide) (by decide), w 52 (by decide) (by decide)⟩ (by rw [w 8 (by decide) (by decide)])), by rw [w 1 (by decide) (by decide)]⟩
        intro q hq
        have hTq := hT q hq
        rw [w 4 (by decide) (by decide), w 53 (by decide) (by decide), w 54 (by decide) (by decide)]
        refine ⟨hTq.1, fun c hc => ?_⟩
        have v21 : zup (zup g 21 tn k v) 55 0 (60 * tn + k) v 21 q c = if c = k ∧ q = tn then v else g 21 q c := by
          rw [zup_nf _ _ _ _ (by decide)]
          show (if 21 = 21 ∧ c = k ∧ q = tn then v else g 21 q c) = _
          by_cases hc2 : c = k ∧ q = tn
          · rw [if_pos hc2, if_pos ⟨rfl, hc2⟩]
          · rw [if_neg hc2, if_neg (fun z => hc2 z.2)]
        have v55 : zup (zup g 21 tn k v) 55 0 (60 * tn + k) v 55 0 (60 * q + c) = if c = k ∧ q = tn then v else g 55 0 (60 * q + c) := by
          rw [zup_at, zup_nf _ _ _ _ (by decide)]
          dsimp only
          by_cases hc2 : c = k ∧ q = tn
          · rw [if_pos hc2, if_pos (by rw [hc2.1, hc2.2])]
          · rw [if_neg hc2, if_neg (fun z => hc2 (by omega))]
        rw [v21, v55]
        by_cases hc2 : c = k ∧ q = tn
        · rw [if_pos hc2, if_pos hc2]
          refine ⟨rfl, fun z => ?_⟩
          rw [← hv]
          rw [hc2.2] at z
          rw [z]
          exact zcut_bool
        · rw [if_neg hc2, if_neg hc2]; exact hTq.2 c hc
  · rw [if_pos h1]
    unfold mItem
    dsimp only
    rw [if_pos (show ¬ (0 ≤ t ∧ t ≤ 5) by omega)]
    exact ⟨rfl, hok⟩
theorem M_shift {g : ZG} (H : RR g) (t i u j n : Int) : (cShift g t i u j n).1 = (mShift (cShift g t i u j n).2 t i u j n).1 ∧ OKS g (mShift (cShift g t i u j n).2 t i u j n).2 := by
  have hok : OKS g g := ⟨H, rfl⟩
  have hH := H
  obtain ⟨_, _, _, hX, hT, hA, _, _⟩ := H
  unfold cShift
  by_cases h1 : ¬ (0 ≤ t ∧ t < 6) ∨ ¬ (0 ≤ u ∧ u < 6)
  · rw [if_pos h1]
    unfold mShift
    dsimp only
    rw [if_pos (show ¬ (0 ≤ t ∧ t ≤ 5) ∨ ¬ (0 ≤ u ∧ u ≤ 5) by omega)]
    exact ⟨rfl, hok⟩
  rw [if_neg h1]
  have h1m : ¬ (¬ (0 ≤ t ∧ t ≤ 5) ∨ ¬ (0 ≤ u ∧ u ≤ 5)) := by omega
  obtain ⟨⟨p1, p2, p3, p4, p5⟩, p6⟩ := hT t.toNat (by omega)
  obtain ⟨⟨q1, q2, q3, q4, q5⟩, q6⟩ := hT u.toNat (by omega)
  by_cases h2 : g 4 t.toNat 0 = -1 ∨ g 4 u.toNat 0 = -1
  · rw [if_pos h2]
    unfold mShift
    dsimp only
    rw [if_neg h1m, if_pos (show g 53 0 t.toNat < 0 ∨ g 53 0 u.toNat < 0 by rw [p1, q1]; omega)]
    exact ⟨rfl, hok⟩
  rw [if_neg h2]
  by_cases h3 : g 4 t.toNat 0 ≠ g 4 u.toNat 0
  · rw [if_pos h3]
    unfold mShift
    dsimp only
    rw [if_neg h1m, if_neg (show ¬ (g 53 0 t.toNat < 0 ∨ g 53 0 u.toNat < 0) by rw [p1, q1]; omega), if_pos (show g 53 0 t.toNat ≠ g 53 0 u.toNat by rw [p1, q1]; exact h3)]
    exact ⟨rfl, hok⟩
  rw [if_neg h3]
  by_cases h4 : n < 0 ∨ ¬ (0 ≤ i ∧ i ≤ g 4 t.toNat 1 ∧ n ≤ g 4 t.toNat 1 - i) ∨ ¬ (0 ≤ j ∧ j ≤ g 4 u.toNat 1 ∧ n ≤ g 4 u.toNat 1 - j)
  · rw [if_pos h4]
    unfold mShift
    dsimp only
    rw [if_neg h1m, if_neg (show ¬ (g 53 0 t.toNat < 0 ∨ g 53 0 u.toNat < 0) by rw [p1, q1]; omega), if_neg (show ¬ g 53 0 t.toNat ≠ g 53 0 u.toNat by rw [p1, q1]; exact h3), if_pos (show n < 0 ∨ i < 0 ∨ j < 0 ∨ g 54 0 t.toNat - n < i ∨ g 54 0 u.toNat - n < j by rw [p2, q2]; omega)]
    exact ⟨rfl, hok⟩
  rw [if_neg h4]
  generalize hg1 : zcpy g 21 t.toNat 21 u.toNat i.toNat j.toNat n.toNat = g1
  have z : ∀ f, f ≠ 21 → g1 f = g f := fun f hf => by rw [← hg1]; funext a c; unfold zcpy; rw [if_neg (fun z => hf z.1)]
  have z21 : ∀ a c, g1 21 a c = if a = u.toNat ∧ j.toNat ≤ c ∧ c < j.toNat + n.toNat then g 21 t.toNat (i.toNat + (c - j.toNat)) else g 21 a c := by
    intro a c
    rw [← hg1]
    unfold zcpy
    by_cases hc : a = u.toNat ∧ j.toNat ≤ c ∧ c < j.toNat + n.toNat
    · rw [if_pos ⟨rfl, hc⟩, if_pos hc]
    · rw [if_neg (fun z => hc z.2), if_neg hc]
  unfold mShift
  dsimp only
  rw [if_neg h1m, if_neg (show ¬ (g1 53 0 t.toNat < 0 ∨ g1 53 0 u.toNat < 0) by rw [z 53 (by decide), p1, q1]; omega), if_neg (show ¬ g1 53 0 t.toNat ≠ g1 53 0 u.toNat by rw [z 53 (by decide), p1, q1]; exact h3), if_neg (show ¬ (n < 0 ∨ i < 0 ∨ j < 0 ∨ g1 54 0 t.toNat - n < i ∨ g1 54 0 u.toNat - n < j) by rw [z 54 (by decide), p2, q2]; omega)]
  refine ⟨rfl, ?_⟩
  dsimp only
  have ci : (60 * t + i).toNat = 60 * t.toNat + i.toNat := by omega
  have cj : (60 * u + j).toNat = 60 * u.toNat + j.toNat := by omega
  rw [ci, cj]
  have w : ∀ f, f ≠ 21 → f ≠ 55 → f ≠ 56 → zcpy (zcpy g1 55 0 56 0 (60 * t.toNat + i.toNat) 0 n.toNat) 56 0 55 0 0 (60 * u.toNat + j.toNat) n.toNat f = g f := fun f h1 h2 h3 => by
    rw [← z f h1]; funext a c; unfold zcpy; rw [if_neg (fun z => h2 z.1), if_neg (fun z => h3 z.1)]
  have w21 : zcpy (zcpy g1 55 0 56 0 (60 * t.toNat + i.toNat) 0 n.toNat) 56 0 55 0 0 (60 * u.toNat + j.toNat) n.toNat 21 = g1 21 := by
    funext a c; unfold zcpy; rw [if_neg (fun z => absurd z.1 (by decide)), if_neg (fun z => absurd z.1 (by decide))]
  have w55 : ∀ c, zcpy (zcpy g1 55 0 56 0 (60 * t.toNat + i.toNat) 0 n.toNat) 56 0 55 0 0 (60 * u.toNat + j.toNat) n.toNat 55 0 c = if 60 * u.toNat + j.toNat ≤ c ∧ c < 60 * u.toNat + j.toNat + n.toNat then g 55 0 (60 * t.toNat + i.toNat + (c - (60 * u.toNat + j.toNat))) else g 55 0 c := by
    intro c
    show (if 55 = 55 ∧ 0 = 0 ∧ 60 * u.toNat + j.toNat ≤ c ∧ c < 60 * u.toNat + j.toNat + n.toNat then zcpy g1 55 0 56 0 (60 * t.toNat + i.toNat) 0 n.toNat 56 0 (0 + (c - (60 * u.toNat + j.toNat))) else zcpy g1 55 0 56 0 (60 * t.toNat + i.toNat) 0 n.toNat 55 0 c) = _
    by_cases hc : 60 * u.toNat + j.toNat ≤ c ∧ c < 60 * u.toNat + j.toNat + n.toNat
    · rw [if_pos ⟨rfl, rfl, hc⟩, if_pos hc]
      show (if 56 = 56 ∧ 0 = 0 ∧ 0 ≤ 0 + (c - (60 * u.toNat + j.toNat)) ∧ 0 + (c - (60 * u.toNat + j.toNat)) < 0 + n.toNat then g1 55 0 (60 * t.toNat + i.toNat + (0 + (c - (60 * u.toNat + j.toNat)) - 0)) else _) = _
      rw [if_pos ⟨rfl, rfl, Nat.zero_le _, by omega⟩, z 55 (by decide), show 0 + (c - (60 * u.toNat + j.toNat)) - 0 = c - (60 * u.toNat + j.toNat) by omega]
    · rw [if_neg (fun z => hc z.2.2), if_neg hc]
      show (if 55 = 56 ∧ _ then _ else g1 55 0 c) = _
      rw [if_neg (fun z => absurd z.1 (by decide)), z 55 (by decide)]
  refine ⟨hH.of_O (fun f hf => w f (by omega) (by omega) (by omega)) (fun c hc => by rw [w 8 (by decide) (by decide) (by decide)]) (hX.c ⟨w 5 (by decide) (by decide) (by decide), w 22 (by decide) (by decide) (by decide), w 34 (by decide) (by decide) (by decide)⟩ ⟨by rw [w 8 (by decide) (by decide) (by decide)], by rw [w 8 (by decide) (by decide) (by decide)]⟩) ?_ (hA.c ⟨w 0 (by decide) (by decide) (by decide), w 10 (by decide) (by decide) (by decide), w 52 (by decide) (by decide) (by decide)⟩ (by rw [w 8 (by decide) (by decide) (by decide)])), by rw [w 1 (by decide) (by decide) (by decide)]⟩
  intro q hq
  have hTq := hT q hq
  rw [w 4 (by decide) (by decide) (by decide), w 53 (by decide) (by decide) (by decide), w 54 (by decide) (by decide) (by decide), w21]
  refine ⟨hTq.1, fun c hc => ?_⟩
  rw [w55, z21]
  by_cases hc2 : q = u.toNat ∧ j.toNat ≤ c ∧ c < j.toNat + n.toNat
  · rw [if_pos hc2, if_pos (by omega)]
    have := p6 (i.toNat + (c - j.toNat)) (by omega)
    rw [show 60 * t.toNat + i.toNat + (60 * q + c - (60 * u.toNat + j.toNat)) = 60 * t.toNat + (i.toNat + (c - j.toNat)) by omega]
    refine ⟨this.1, fun y => this.2 ?_⟩
    rw [hc2.1] at y
    omega
  · rw [if_neg hc2, if_neg (by omega)]; exact hTq.2 c hc
/-! acts -/
theorem mbegin_f (g : ZG) (b : Int) {f : Nat} (h0 : f ≠ 0) (h10 : f ≠ 10) : mbegin g b f = g f := by
  unfold mbegin; split
  · rw [zup_nf _ _ _ _ h0, zup_nf _ _ _ _ h10]
  · rw [zup_nf _ _ _ _ h0]
theorem mlog_f {f : Nat} (h0 : f ≠ 0) (h10 : f ≠ 10) : ∀ (l : List Int) (g : ZG), mlog g l f = g f := by
  intro l
  induction l with
  | nil => intro g; rfl
  | cons b r ih => intro g; exact (ih (mbegin g b)).trans (mbegin_f g b h0 h10)
theorem mbody_f (g : ZG) (b : Int) {f : Nat} (h8 : f ≠ 8) (h52 : f ≠ 52) : mbody g b f = g f := by
  unfold mbody; split
  · rw [zup_nf _ _ _ _ h8, zup_nf _ _ _ _ h52]
  · rw [zup_nf _ _ _ _ h8]
theorem mlg_f {f : Nat} (h8 : f ≠ 8) (h52 : f ≠ 52) : ∀ (l : List Int) (g : ZG), mlg g l f = g f := by
  intro l
  induction l with
  | nil => intro g; rfl
  | cons b r ih => intro g; exact (ih (mbody g b)).trans (mbody_f g b h8 h52)
theorem mbody_8 (g : ZG) (b : Int) {k : Nat} (hk : k ≠ 46) : mbody g b 8 0 k = g 8 0 k := by
  unfold mbody; split
  · rw [zup_nk _ _ _ _ _ _ hk, zup_nf _ _ _ _ (by decide)]
  · rw [zup_nk _ _ _ _ _ _ hk]
theorem mlg_8 {k : Nat} (hk : k ≠ 46) : ∀ (l : List Int) (g : ZG), mlg g l 8 0 k = g 8 0 k := by
  intro l
  induction l with
  | nil => intro g; rfl
  | cons b r ih => intro g; exact (ih (mbody g b)).trans (mbody_8 g b hk)
def LGR (a b : ZG) : Prop := b 8 0 46 = a 0 0 3 ∧ 0 ≤ a 0 0 3 ∧ ∀ k, k < 20 → b 52 0 k = a 10 0 k
theorem log_rel : ∀ (l : List Int) (a b : ZG), LGR a b → LGR (mlog a l) (mlg b l) := by
  intro l
  induction l with
  | nil => intro a b h; exact h
  | cons x r ih =>
    intro a b h
    refine ih (mbegin a x) (mbody b x) ?_
    obtain ⟨h1, h2, h3⟩ := h
    unfold mbegin mbody
    rw [h1]
    by_cases hc : a 0 0 3 < 20
    · rw [if_pos ⟨h2, hc⟩, if_pos hc]
      refine ⟨?_, ?_, fun k hk => ?_⟩
      · rw [zup_eq, zup_eq]
      · rw [zup_eq]; omega
      · rw [zup_nf _ _ _ _ (by decide), zup_at, zup_nf _ _ _ _ (by decide), zup_at]
        dsimp only
        rw [h3 k hk]
    · rw [if_neg (fun z => hc z.2), if_neg hc]
      refine ⟨?_, ?_, fun k hk => ?_⟩
      · rw [zup_eq, zup_eq]
      · rw [zup_eq]; omega
      · rw [zup_nf _ _ _ _ (by decide), zup_nf _ _ _ _ (by decide)]; exact h3 k hk
theorem M_act {g : ZG} (H : RR g) (p a x : Int) : (cActs g p a x).1 = (mActs (cActs g p a x).2 p a x).1 ∧ OKS g (mActs (cActs g p a x).2 p a x).2 := by
  have hfn := H.fn
  have hH := H
  obtain ⟨⟨_, _, ⟨c1, c2, c3, c4, c5, c6⟩, _⟩, _, _, hX, hT, ⟨r1, r2, r3⟩, _, _⟩ := H
  have fin : ∀ g2 : ZG, (∀ f, f ≠ 0 → f ≠ 10 → f ≠ 8 → f ≠ 52 → g2 f = g f) → (∀ k, k ≠ 46 → g2 8 0 k = g 8 0 k) → RTr g2 → OKS g g2 := by
    intro g2 w w8 hr
    exact ⟨hH.of_O (fun f hf => w f (by omega) (by omega) (by omega) (by omega)) (fun c hc => w8 c (by omega)) (hX.c ⟨w 5 (by decide) (by decide) (by decide) (by decide), w 22 (by decide) (by decide) (by decide) (by decide), w 34 (by decide) (by decide) (by decide) (by decide)⟩ ⟨w8 10 (by decide), w8 11 (by decide)⟩) (hT.c (fun f hf => w f (by omega) (by omega) (by omega) (by omega))) hr, by rw [w 1 (by decide) (by decide) (by decide) (by decide)]⟩
  unfold cActs
  by_cases h1 : ¬ (0 ≤ p ∧ p < g 2 0 3) ∨ a < 0 ∨ 2 < a
  · rw [if_pos h1]
    unfold mActs
    dsimp only
    rw [if_pos (show ¬ (0 ≤ p ∧ p < zup g 0 0 3 0 8 0 2) ∨ a < 0 ∨ 2 < a by rw [zup_nf _ _ _ _ (by decide), c3]; exact h1)]
    refine ⟨rfl, ?_⟩
    dsimp only
    refine fin _ (fun f f0 f10 f8 f52 => by rw [zup_nf _ _ _ _ f8, zup_nf _ _ _ _ f0]) (fun k hk => by rw [zup_nk _ _ _ _ _ _ hk, zup_nf _ _ _ _ (by decide)]) ⟨?_, ?_, fun k hk => ?_⟩
    · rw [zup_eq, zup_nf _ _ _ _ (by decide), zup_eq]
    · rw [zup_nf _ _ _ _ (by decide), zup_eq]; decide
    · rw [zup_nf _ _ _ _ (by decide), zup_nf _ _ _ _ (by decide), zup_nf _ _ _ _ (by decide), zup_nf _ _ _ _ (by decide)]; exact r3 k hk
  rw [if_neg h1]
  have ef : ∀ f, f ≠ 0 → f ≠ 10 → mlog (mact g p) (cAct g p a x).1 f = g f := fun f f0 f10 => by
    rw [mlog_f f0 f10]
    show zup (zup (zup (zup g 0 0 3 0) 0 0 0 _) 0 0 1 _) 0 0 2 p f = _
    rw [zup_nf _ _ _ _ f0, zup_nf _ _ _ _ f0, zup_nf _ _ _ _ f0, zup_nf _ _ _ _ f0]
  have hAct : mAct (mlog (mact g p) (cAct g p a x).1) p a x = cAct g p a x := by
    unfold mAct
    rw [ef 30 (by decide) (by decide), ef 31 (by decide) (by decide), hfn.1, hfn.2.1]
    rfl
  unfold mActs
  dsimp only
  rw [if_neg (show ¬ (¬ (0 ≤ p ∧ p < mlog (mact g p) (cAct g p a x).1 8 0 2) ∨ a < 0 ∨ 2 < a) by rw [ef 8 (by decide) (by decide), c3]; exact h1), hAct]
  refine ⟨rfl, ?_⟩
  dsimp only
  have hlg := log_rel (cAct g p a x).1 (mact g p) (zup (mlog (mact g p) (cAct g p a x).1) 8 0 46 0) ⟨by
      rw [zup_eq]
      show 0 = zup (zup (zup (zup g 0 0 3 0) 0 0 0 _) 0 0 1 _) 0 0 2 p 0 0 3
      rw [zup_nk _ _ _ _ _ _ (by decide), zup_nk _ _ _ _ _ _ (by decide), zup_nk _ _ _ _ _ _ (by decide), zup_eq], by
      show 0 ≤ zup (zup (zup (zup g 0 0 3 0) 0 0 0 _) 0 0 1 _) 0 0 2 p 0 0 3
      rw [zup_nk _ _ _ _ _ _ (by decide), zup_nk _ _ _ _ _ _ (by decide), zup_nk _ _ _ _ _ _ (by decide), zup_eq]
      decide, fun k hk => by
      rw [zup_nf _ _ _ _ (by decide), ef 52 (by decide) (by decide), r3 k hk]
      show _ = zup (zup (zup (zup g 0 0 3 0) 0 0 0 _) 0 0 1 _) 0 0 2 p 10 0 k
      rw [zup_nf _ _ _ _ (by decide), zup_nf _ _ _ _ (by decide), zup_nf _ _ _ _ (by decide), zup_nf _ _ _ _ (by decide)]⟩
  refine fin _ (fun f f0 f10 f8 f52 => by rw [mlg_f f8 f52, zup_nf _ _ _ _ f8, ef f f0 f10]) (fun k hk => by rw [mlg_8 hk, zup_nk _ _ _ _ _ _ hk, ef 8 (by decide) (by decide)]) ?_
  have k0 : mlg (zup (mlog (mact g p) (cAct g p a x).1) 8 0 46 0) (cAct g p a x).1 0 = mlog (mact g p) (cAct g p a x).1 0 := by rw [mlg_f (by decide) (by decide), zup_nf _ _ _ _ (by decide)]
  have k10 : mlg (zup (mlog (mact g p) (cAct g p a x).1) 8 0 46 0) (cAct g p a x).1 10 = mlog (mact g p) (cAct g p a x).1 10 := by rw [mlg_f (by decide) (by decide), zup_nf _ _ _ _ (by decide)]
  unfold RTr
  rw [k0, k10]
  exact hlg
