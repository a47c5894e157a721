/-! asking: both answer the same -/
theorem RC.rf (g : ZG) : RC g g := ⟨fun _ _ _ => rfl, fun _ _ _ _ => rfl, fun _ _ _ _ => rfl⟩
def BR (g g1 : ZG) : Prop := (cT g = mT g1) ∧ (g1 8 0 0 = g 2 0 0 ∧ g1 8 0 1 = g 2 0 1 ∧ g1 8 0 2 = g 2 0 3 ∧ g1 8 0 3 = g 2 0 8 ∧ g1 8 0 32 = g 2 0 10) ∧ (g1 30 0 = g 15 0 ∧ g1 31 0 = g 16 0 ∧ g1 32 0 = g 17 0 ∧ g1 33 0 = g 18 0) ∧ (∀ k, k < 12 → g1 46 0 k = g 19 0 k) ∧ (g1 53 0 = g 53 0 ∧ g1 54 0 = g 54 0 ∧ g1 55 0 = g 55 0 ∧ g1 52 0 = g 52 0) ∧ (g1 8 0 8 = g 8 0 8 ∧ g1 8 0 10 = g 8 0 10 ∧ g1 8 0 46 = g 8 0 46)
theorem RC.br {g g1 : ZG} (h : RC g g1) (H1 : RR g1) : BR g g1 := by
  have hT := H1.t
  obtain ⟨f1, f2, f3, f4⟩ := H1.fn
  obtain ⟨⟨_, _, ⟨c1, c2, c3, c4, c5, c6⟩, _, hk⟩, _⟩ := H1
  have e2 := h.2.1 2 0 (by omega) (by omega)
  have e15 := h.2.1 15 0 (by omega) (by omega)
  have e16 := h.2.1 16 0 (by omega) (by omega)
  have e17 := h.2.1 17 0 (by omega) (by omega)
  have e18 := h.2.1 18 0 (by omega) (by omega)
  have e19 := h.2.1 19 0 (by omega) (by omega)
  have hc : cT g1 = cT g := by
    show zTC g1 0 (-1) = zTC g 0 (-1)
    unfold zTC zwC
    rw [e2, e15, e16, e17, e18]
    have e3 : g1 3 = g 3 := funext fun i => h.1 3 i (by omega)
    have e20 : g1 20 = g 20 := funext fun i => h.1 20 i (by omega)
    rw [e3, e20]
  rw [e2] at c1 c2 c3 c4 c5
  rw [e15] at f1
  rw [e16] at f2
  rw [e17] at f3
  rw [e18] at f4
  rw [e19] at hk
  exact ⟨by rw [← hc, hT], ⟨c1, c2, c3, c4, c5⟩, ⟨f1, f2, f3, f4⟩, hk, ⟨h.1 53 0 (by omega), h.1 54 0 (by omega), h.1 55 0 (by omega), h.1 52 0 (by omega)⟩, h.2.2 8 (by omega) (by omega) (by omega), h.2.2 10 (by omega) (by omega) (by omega), h.2.2 46 (by omega) (by omega) (by omega)⟩
theorem E_of {g g1 : ZG} (b : BR g g1) (p w : Int) : cOf g p w = mOf g1 p w := by
  obtain ⟨hT, ⟨c1, c2, c3, c4, c5⟩, ⟨f1, f2, f3, f4⟩, _⟩ := b
  unfold cOf mOf
  rw [hT, c3, f1, f2, f3, f4]
theorem E_told {g g1 : ZG} (b : BR g g1) (w : Int) : cTold g w = mTold g1 w := by
  obtain ⟨hT, ⟨c1, c2, c3, c4, c5⟩, ⟨f1, f2, f3, f4⟩, _⟩ := b
  unfold cTold mTold
  rw [← hT, c1, c2, c3, c4, f4]
  rfl
theorem E_run {g g1 : ZG} (b : BR g g1) (n w : Int) : cRun g n w = mRun g1 n w := by
  obtain ⟨hT, ⟨c1, c2, c3, c4, c5⟩, _⟩ := b
  unfold cRun mRun
  rw [hT, c3]
theorem E_again {g g1 : ZG} (b : BR g g1) : tAgain (g 18 0) 100 1 (cT g) = tAgain (g1 33 0) 100 1 (mT g1) := by
  obtain ⟨hT, _, ⟨f1, f2, f3, f4⟩, _⟩ := b
  rw [hT, f4]
theorem E_few {g g1 : ZG} (b : BR g g1) (H : RR g) : cFew g = (mRes (mT g1) (g1 33 0)).1 := by
  obtain ⟨hT, _, ⟨f1, f2, f3, f4⟩, _⟩ := b
  rw [few_eq H.t H.1.1.2.2.1, ← H.t, hT, f4, H.fn.2.2.2]
theorem E_mixed {g g1 : ZG} (b : BR g g1) (H : RR g) (p : Int) : cMixed g p = mMixed g1 p := by
  obtain ⟨hT, ⟨c1, c2, c3, c4, c5⟩, ⟨f1, f2, f3, f4⟩, _⟩ := b
  rw [mixed_eq H.t H.1.1.2.2.1 p]
  have h8 : g 8 0 2 = g 2 0 3 := H.1.2.2.1.2.2.1
  unfold mMixed
  rw [← H.t, hT, f4, H.fn.2.2.2, c3, h8]
theorem E_begins {g g1 : ZG} (b : BR g g1) (H : RR g) : tBeg (tlp (cT g)) (cT g) 11 0 = mBeg (tlp (mT g1)) (mT g1) 101 0 := by
  have h6 : 0 ≤ tnp (cT g) ∧ tnp (cT g) ≤ 6 := H.1.1.2.2.1
  rw [← b.1, begins_eq h6]
theorem E_holds {g g1 : ZG} (b : BR g g1) (H : RR g) : tHolds (cT g) ((tHap (cT g) : Nat) : Int) (g 2 0 3).toNat 0 0 = ((mHolds (mT g1) : Nat) : Int) := by
  rw [← b.1]
  exact holds_eq (t := cT g) H.1.1.2.2.1 (fun q hq => (H.1.2.1.2.1 q hq).1.1)
theorem E_before {g g1 : ZG} (b : BR g g1) (H : RR g) (w : Int) : cBefore g w = mBefore g1 w := by
  unfold cBefore mBefore
  by_cases hw : w < 0 ∨ 2 < w
  · rw [if_pos hw, if_pos hw]
  · rw [if_neg hw, if_neg hw, ← b.1]
    have hn : tn (cT g) ≤ 8 := H.1.1.1.2
    exact (before_eq (t := cT g) hn (w := w) (by omega)).symm
theorem E_quarter {g g1 : ZG} (b : BR g g1) (q s t : Int) : cQuarter g q s t = mQuarter g1 q s t := by
  obtain ⟨hT, ⟨c1, c2, c3, c4, c5⟩, ⟨f1, f2, f3, f4⟩, _⟩ := b
  unfold cQuarter mQuarter
  have e1 : mqAll g1 q = qAll g q := by unfold mqAll qAll; rw [c1, c3, f4]
  have e2 : mqOf g1 q s = qOf g q s := by unfold mqOf qOf; rw [c1, c3, f3, f4]
  rw [e1, e2]
  have hA : 0 ≤ qAll g q := (zsum_01 (fun j => by by_cases h : (if g 18 0 j < g 2 0 0 / 2 then (0 : Int) else 1) = q <;> simp [h])).1
  have hO : 0 ≤ qOf g q s := (zsum_01 (fun j => by by_cases h : (if g 18 0 j < g 2 0 0 / 2 then (0 : Int) else 1) = q ∧ g 17 0 j = s <;> simp [h])).1
  by_cases hb : q < 0 ∨ 1 < q ∨ s < 0 ∨ 2 < s ∨ t < 0 ∨ 1 < t
  · rw [if_pos hb, if_pos hb]
  · rw [if_neg hb, if_neg hb]
    by_cases h0 : qAll g q = 0
    · rw [if_pos h0]
      unfold cPart
      rw [if_pos (by omega)]
    · rw [if_neg h0, cPart_low hO (by omega)]
theorem E_odds {g g1 : ZG} (b : BR g g1) (H : RR g) (n t : Int) : cOdds g n t = mOdds g1 n t := by
  obtain ⟨hT, ⟨c1, c2, c3, c4, c5⟩, ⟨f1, f2, f3, f4⟩, _⟩ := b
  obtain ⟨⟨a1, a2, a3, _⟩, ⟨_, b2, b3⟩, _⟩ := H.1
  have hw : mWays g1 = g 2 0 3 * (g 2 0 0 - g 2 0 3) := by
    unfold mWays
    rw [c1, c3, f4, ways_eq (by omega) a3.1 (fun p hp => (b2 p hp).1) b3]
  have hle : 0 ≤ g 2 0 0 - g 2 0 3 := by
    have := ways_eq (n := g 2 0 0) (np := g 2 0 3) (ho := g 18 0) (by omega) a3.1 (fun p hp => (b2 p hp).1) b3
    omega
  have hr : ∀ m, 0 ≤ tCB (cT g) m := fun m => (tCB_rng m (cT g) a1.2 a3.2).1
  have h01 : tCB (cT g) 0 = 0 ∨ tCB (cT g) 0 = 1 := by
    show (if tAll (cT g) = true then (1 : Int) else 0) = 0 ∨ (if tAll (cT g) = true then (1 : Int) else 0) = 1
    split
    · exact Or.inr rfl
    · exact Or.inl rfl
  have h1a : tCB (cT g) 0 = 1 ↔ tAll (cT g) = true := by
    show (if tAll (cT g) = true then (1 : Int) else 0) = 1 ↔ _
    by_cases hc : tAll (cT g) = true
    · rw [if_pos hc]; exact ⟨fun _ => hc, fun _ => rfl⟩
    · rw [if_neg hc]; exact ⟨fun z => absurd z (by decide), fun z => absurd z hc⟩
  have hwn : 0 ≤ g 2 0 3 * (g 2 0 0 - g 2 0 3) := Int.mul_nonneg a3.1 hle
  unfold cOdds mOdds
  rw [hw, ← hT]
  generalize hW : g 2 0 3 * (g 2 0 0 - g 2 0 3) = w at hwn
  by_cases hb : n < 0 ∨ 2 < n ∨ t < 0 ∨ 1 < t
  · rw [if_pos hb, if_pos hb]
  · rw [if_neg hb, if_neg hb]
    have hone : cPart (tCB (cT g) 0) 1 t = if t = 1 ∨ tAll (cT g) = true then 1 else 0 := by
      rw [cPart_one h01 (by omega)]
      by_cases hc : tAll (cT g) = true
      · rw [if_pos (Or.inr (h1a.mpr hc)), if_pos (Or.inr hc)]
      · by_cases ht : t = 1
        · rw [if_pos (Or.inl ht), if_pos (Or.inl ht)]
        · rw [if_neg (fun z => z.elim ht (fun y => hc (h1a.mp y))), if_neg (fun z => z.elim ht hc)]
    by_cases hz : w = 0
    · rw [if_pos hz, if_pos (Or.inr hz)]; exact hone
    · rw [if_neg hz]
      have hn : n = 0 ∨ n = 1 ∨ n = 2 := by omega
      rcases hn with rfl | rfl | rfl
      · rw [if_pos (Or.inl rfl)]; exact hone
      · rw [if_neg (fun z => z.elim (by decide) hz), if_pos rfl]
        show cPart (tCB (cT g) 1) (1 * w) t = _
        rw [Int.one_mul, cPart_low (hr 1) (by omega)]
      · rw [if_neg (fun z => z.elim (by decide) hz), if_neg (by decide)]
        show cPart (tCB (cT g) 2) (1 * w * w) t = _
        rw [Int.one_mul, cPart_low (hr 2) (Int.mul_pos (by omega) (by omega))]
theorem look_cong {a b : Nat → Int} : ∀ (n k : Nat) (t : ZT), (∀ j, k ≤ j → j < k + n → a j = b j) → tLook a n k t = tLook b n k t := by
  intro n
  induction n with
  | zero => intro k t _; rfl
  | succ n ih =>
    intro k t h
    rw [tLook_s, tLook_s, h k (Nat.le_refl _) (by omega), ih (k + 1) _ (fun j h1 h2 => h j (by omega) (by omega))]
theorem E_looked {g g1 : ZG} (b : BR g g1) (H : RR g) : tLook (g 19 0) (g 2 0 10).toNat 0 (cT g) = tLook (g1 46 0) (g1 8 0 32).toNat 0 (mT g1) := by
  obtain ⟨hT, ⟨c1, c2, c3, c4, c5⟩, _, hk, _⟩ := b
  have h12 := H.1.1.2.2.2.2.1
  rw [hT, c5]
  exact look_cong _ _ _ (fun j _ hj => (hk j (by omega)).symm)
theorem E_judge {g g1 : ZG} (b : BR g g1) (H : RR g) (u i : Int) : cJudge g u i = mJudge g1 u i := by
  obtain ⟨hT, ⟨c1, c2, c3, c4, c5⟩, _, _, ⟨t1, t2, t3, t4⟩, _⟩ := b
  unfold cJudge mJudge
  rw [← hT, t1, t2, t3, c3]
  by_cases hu : 0 ≤ u ∧ u < 6
  · rw [if_neg (show ¬ ¬ (0 ≤ u ∧ u < 6) from fun z => z hu), if_neg (show ¬ ¬ (0 ≤ u ∧ u ≤ 5) by omega)]
    obtain ⟨⟨p1, p2, p3, p4, p5⟩, p6⟩ := H.2.2.2.2.1 u.toNat (by omega)
    rw [p1, p2]
    by_cases hs : g 4 u.toNat 0 ≠ -1 ∧ g 4 u.toNat 0 ≠ 4
    · rw [if_pos hs, if_pos (by omega)]
    · rw [if_neg hs, if_neg (by omega)]
      refine (judge_eq (fun hneg => by have := p5 (by omega); omega) (fun j j0 j1 => ?_) _ _).symm
      have h6 := p6 j.toNat (by omega)
      have e : (60 * u + j).toNat = 60 * u.toNat + j.toNat := by omega
      rw [e, h6.1]
      refine ⟨rfl, h6.2 ?_⟩
      by_cases h4 : g 4 u.toNat 0 = 4
      · exact h4
      · exact absurd (p5 (by omega)) (by omega)
  · rw [if_pos hu, if_pos (fun z => hu ⟨z.1, by omega⟩)]
theorem E_nei {g g1 : ZG} (b : BR g g1) (H : RR g) (h : Int) : (cNei g h).1 = mNei g1 h ∧ (cNei g h).2 = g := by
  obtain ⟨hT, ⟨c1, c2, c3, c4, c5⟩, _⟩ := b
  unfold cNei mNei
  rw [c1, c2]
  by_cases hh : 0 ≤ h ∧ h < g 2 0 0
  · rw [if_pos hh, if_pos hh]
    refine ⟨?_, rfl⟩
    show g 14 0 h.toNat = _
    rw [H.1.2.1.1 h.toNat (by omega), Int.toNat_of_nonneg hh.1]
  · rw [if_neg hh, if_neg hh]; exact ⟨rfl, rfl⟩
theorem E_taken {g g1 : ZG} (b : BR g g1) (H : RR g) (p k : Int) : cTaken g p k = (mTaken g1 p k).1 ∧ (mTaken g1 p k).2 = g1 := by
  obtain ⟨hT, ⟨c1, c2, c3, c4, c5⟩, ⟨f1, f2, f3, f4⟩, _⟩ := b
  unfold cTaken mTaken
  rw [c3, f1]
  by_cases hk : k < 0 ∨ 6 < k
  · rw [if_pos hk, if_pos hk]; exact ⟨rfl, rfl⟩
  · rw [if_neg hk, if_neg hk]
    by_cases hp : 0 ≤ p ∧ p < g 2 0 3
    · rw [if_neg (fun z => z hp), if_neg (fun z => z hp)]
      have := (H.1.2.1.2.1 p.toNat (by omega)).2.2.1
      rw [taken_eq this (by omega)]
      by_cases hc : k = 0 ∨ g 15 0 p.toNat = k ∨ (k = 1 ∧ g 15 0 p.toNat = 4) ∨ (k = 2 ∧ g 15 0 p.toNat = 5) ∨ (k = 3 ∧ g 15 0 p.toNat = 6)
      · rw [if_pos hc, if_pos hc]; exact ⟨rfl, rfl⟩
      · rw [if_neg hc, if_neg hc]; exact ⟨rfl, rfl⟩
    · rw [if_pos hp, if_pos hp]; exact ⟨rfl, rfl⟩
theorem E_trace {g g1 : ZG} (b : BR g g1) (H : RR g) (i : Int) : (cTrace g i).1 = (mTrace g1 i).1 ∧ (cTrace g i).2 = g ∧ (mTrace g1 i).2 = g1 := by
  obtain ⟨_, _, _, _, ⟨t1, t2, t3, t4⟩, ⟨d1, d2, d3⟩⟩ := b
  obtain ⟨r1, r2, r3⟩ := H.2.2.2.2.2.1
  unfold cTrace mTrace
  rw [d3, t4, r1]
  by_cases hc : i < 0 ∨ g 0 0 3 ≤ i ∨ 20 ≤ i
  · rw [if_pos hc, if_pos hc]; exact ⟨rfl, rfl, rfl⟩
  · rw [if_neg hc, if_neg hc]; exact ⟨(r3 i.toNat (by omega)).symm, rfl, rfl⟩
theorem E_count {g g1 : ZG} (b : BR g g1) (H : RR g) (w : Int) : (cCount g w).1 = (mCount g1 w).1 ∧ (cCount g w).2 = g ∧ (mCount g1 w).2 = g1 := by
  obtain ⟨_, ⟨c1, c2, c3, c4, c5⟩, _, _, _, ⟨d1, d2, d3⟩⟩ := b
  have r1 := H.2.2.2.2.2.1.1
  have s1 := H.2.2.1.2.1
  have x1 := H.2.2.2.1.2.1
  unfold cCount mCount
  rw [d3, d1, d2, c3, c5, r1, s1, x1]
  by_cases w0 : w = 0
  · rw [if_pos w0, if_pos w0]; exact ⟨rfl, rfl, rfl⟩
  rw [if_neg w0, if_neg w0]
  by_cases w1 : w = 1
  · rw [if_pos w1, if_pos w1]; exact ⟨rfl, rfl, rfl⟩
  rw [if_neg w1, if_neg w1]
  by_cases w2 : w = 2
  · rw [if_pos w2, if_pos w2]; exact ⟨rfl, rfl, rfl⟩
  rw [if_neg w2, if_neg w2]
  by_cases w3 : w = 3
  · rw [if_pos w3, if_pos w3]; exact ⟨rfl, rfl, rfl⟩
  rw [if_neg w3, if_neg w3]
  by_cases w4 : w = 4
  · rw [if_pos w4, if_pos w4]; exact ⟨rfl, rfl, rfl⟩
  rw [if_neg w4, if_neg w4]
  exact ⟨rfl, rfl, rfl⟩
theorem E_read {g g1 : ZG} (b : BR g g1) (H : RR g) (t i : Int) : (cRead g t i).1 = (mRead g1 t i).1 ∧ (cRead g t i).2 = g ∧ (mRead g1 t i).2 = g1 := by
  obtain ⟨_, _, _, _, ⟨t1, t2, t3, t4⟩, _⟩ := b
  unfold cRead mRead
  rw [t1, t2, t3]
  by_cases ht : 0 ≤ t ∧ t < 6
  · obtain ⟨⟨p1, p2, p3, p4, p5⟩, p6⟩ := H.2.2.2.2.1 t.toNat (by omega)
    rw [p1, p2]
    by_cases hc : i < 0 ∨ g 4 t.toNat 1 ≤ i
    · rw [if_pos (Or.inr hc), if_pos (Or.inr (Or.inr hc))]; exact ⟨rfl, rfl, rfl⟩
    · rw [if_neg (by omega), if_neg (by omega)]
      refine ⟨?_, rfl, rfl⟩
      show g 21 t.toNat i.toNat = g 55 0 (60 * t + i).toNat
      rw [show (60 * t + i).toNat = 60 * t.toNat + i.toNat by omega, (p6 i.toNat (by omega)).1]
  · rw [if_pos (Or.inl ht), if_pos (Or.inl (fun z => ht ⟨z.1, by omega⟩))]; exact ⟨rfl, rfl, rfl⟩
