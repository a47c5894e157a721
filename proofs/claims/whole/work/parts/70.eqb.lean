theorem mHeld_iff (t : ZT) (p sm : Nat) : ∀ m k : Nat, mHeld t p sm m k = true ↔ ∃ j, k ≤ j ∧ j < k + m ∧ j ≠ p ∧ sm.testBit j = true ∧ tSu t j (tho t j) = false := by
  intro m
  induction m with
  | zero => intro k; constructor; intro z; cases z; rintro ⟨j, h1, h2, _⟩; omega
  | succ m ih =>
    intro k
    rw [mHeld_s]
    by_cases hc : k ≠ p ∧ sm.testBit k = true ∧ tSu t k (tho t k) = false
    · rw [if_pos hc]
      exact ⟨fun _ => ⟨k, Nat.le_refl _, by omega, hc⟩, fun _ => rfl⟩
    · rw [if_neg hc, ih]
      constructor
      · rintro ⟨j, h1, h2, h3⟩; exact ⟨j, by omega, by omega, h3⟩
      · rintro ⟨j, h1, h2, h3⟩
        by_cases hj : j = k
        · subst hj; exact absurd h3 hc
        · exact ⟨j, by omega, by omega, h3⟩
theorem holds_cond {a b k : Nat} (ha : a < 64) (hb : b < 64) (hk : k < 6) : zand (zand (a : Int) (zxor (b : Int) (-1))) (zxor (zshl 1 (k : Int)) (-1)) ≠ 0 ↔ ∃ j, j < 6 ∧ k ≠ j ∧ a.testBit j = true ∧ b.testBit j = false := by
  have h := holds_bits a ha b hb k hk
  constructor
  · intro z
    rw [decide_eq_true z] at h
    have h := h.symm
    simp only [Bool.or_eq_true, Bool.and_eq_true, decide_eq_true_eq, Bool.not_eq_true'] at h
    rcases h with ((((h | h) | h) | h) | h) | h
    · exact ⟨0, by decide, h.1.1, h.1.2, h.2⟩
    · exact ⟨1, by decide, h.1.1, h.1.2, h.2⟩
    · exact ⟨2, by decide, h.1.1, h.1.2, h.2⟩
    · exact ⟨3, by decide, h.1.1, h.1.2, h.2⟩
    · exact ⟨4, by decide, h.1.1, h.1.2, h.2⟩
    · exact ⟨5, by decide, h.1.1, h.1.2, h.2⟩
  · rintro ⟨j, hj, h1, h2, h3⟩
    apply of_decide_eq_true
    rw [h]
    simp only [Bool.or_eq_true, Bool.and_eq_true, decide_eq_true_eq, Bool.not_eq_true']
    have hjj : j = 0 ∨ j = 1 ∨ j = 2 ∨ j = 3 ∨ j = 4 ∨ j = 5 := by omega
    rcases hjj with rfl | rfl | rfl | rfl | rfl | rfl
    · exact Or.inl (Or.inl (Or.inl (Or.inl (Or.inl ⟨⟨h1, h2⟩, h3⟩))))
    · exact Or.inl (Or.inl (Or.inl (Or.inl (Or.inr ⟨⟨h1, h2⟩, h3⟩))))
    · exact Or.inl (Or.inl (Or.inl (Or.inr ⟨⟨h1, h2⟩, h3⟩)))
    · exact Or.inl (Or.inl (Or.inr ⟨⟨h1, h2⟩, h3⟩))
    · exact Or.inl (Or.inr ⟨⟨h1, h2⟩, h3⟩)
    · exact Or.inr ⟨⟨h1, h2⟩, h3⟩
theorem tHap_lt {t : ZT} (h : tnp t ≤ 6) : tHap t < 64 := Nat.lt_of_lt_of_le (zmk_lt _ _) (Nat.pow_le_pow_right (by decide) (show (tnp t).toNat ≤ 6 by omega))
theorem holds_one {t : ZT} (h6 : tnp t ≤ 6) (hh : ∀ q : Nat, (q : Int) < tnp t → 0 ≤ tho t q) {k : Nat} (hk : k < 6) : (zand (zand ((tHap t : Nat) : Int) (zxor ((tHap (tput t k (-1)) : Nat) : Int) (-1))) (zxor (zshl 1 (k : Int)) (-1)) ≠ 0) ↔ mHeld (tput t k (-1)) k (tHap t) (tnp t).toNat 0 = true := by
  rw [holds_cond (tHap_lt h6) (tHap_lt (t := tput t k (-1)) h6) hk, mHeld_iff]
  have hb : ∀ j, j < (tnp t).toNat → k ≠ j → (tHap (tput t k (-1))).testBit j = tSu (tput t k (-1)) j (tho (tput t k (-1)) j) := by
    intro j hj hkj
    show (zmk _ (tnp t).toNat).testBit j = _
    rw [zmk_eq_lt hj]
    have e : tho (tput t k (-1)) j = tho t j := if_neg (Ne.symm hkj)
    rw [e, decide_eq_true (hh j (by omega)), Bool.true_and]
  constructor
  · rintro ⟨j, h1, h2, h3, h4⟩
    have hj : j < (tnp t).toNat := by
      have h3 : (zmk _ (tnp t).toNat).testBit j = true := h3
      rw [zmk_bit, Bool.and_eq_true] at h3
      exact of_decide_eq_true h3.1
    exact ⟨j, Nat.zero_le _, by omega, Ne.symm h2, h3, by rw [← hb j hj h2]; exact h4⟩
  · rintro ⟨j, _, h1, h2, h3, h4⟩
    exact ⟨j, by omega, Ne.symm h2, h3, by rw [hb j (by omega) (Ne.symm h2)]; exact h4⟩
theorem holds_eq {t : ZT} (h6 : 0 ≤ tnp t ∧ tnp t ≤ 6) (hh : ∀ q : Nat, (q : Int) < tnp t → 0 ≤ tho t q) : tHolds t ((tHap t : Nat) : Int) (tnp t).toNat 0 0 = ((mHolds t : Nat) : Int) := by
  have key : ∀ m k : Nat, k + m = (tnp t).toNat → tHolds t ((tHap t : Nat) : Int) m k ((zmk (fun p => mHeld (tput t p (-1)) p (tHap t) (tnp t).toNat 0) k : Nat) : Int) = ((zmk (fun p => mHeld (tput t p (-1)) p (tHap t) (tnp t).toNat 0) (k + m) : Nat) : Int) := by
    intro m
    induction m with
    | zero => intro k _; rfl
    | succ m ih =>
      intro k hk
      unfold tHolds
      have h1 := holds_one h6.2 hh (k := k) (by omega)
      by_cases hc : mHeld (tput t k (-1)) k (tHap t) (tnp t).toNat 0 = true
      · rw [if_pos (h1.mpr hc), zmk_add (P := fun p => mHeld (tput t p (-1)) p (tHap t) (tnp t).toNat 0) (n := k) (by omega) hc, ih (k + 1) (by omega), show k + 1 + m = k + (m + 1) by omega]
      · rw [if_neg (fun z => hc (h1.mp z)), ← zmk_add0 (P := fun p => mHeld (tput t p (-1)) p (tHap t) (tnp t).toNat 0) (n := k) (Bool.eq_false_iff.mpr hc), ih (k + 1) (by omega), show k + 1 + m = k + (m + 1) by omega]
  have := key (tnp t).toNat 0 (Nat.zero_add _)
  rw [Nat.zero_add] at this
  exact this
/-! begins: wishes that nobody can tell apart -/
def WQ (w v : Int) : Prop := (0 ≤ w ∧ 0 ≤ v) ∧ ∀ f : Nat, f < 6 → ∀ a : Nat, a < 6 → (w * f ≤ 100 * a ↔ v * f ≤ 100 * a)
theorem su_wq {w v : Int} (hq : WQ w v) {t : ZT} (h6 : tnp t ≤ 6) {p : Nat} (hp : (p : Int) < tnp t) (h : Int) : tSu (tWF t w) p h = tSu (tWF t v) p h := by
  have hB := tBes_rng t (p := p) h (by omega)
  have hA := tAl_rng t (p := p) h (by omega)
  have e : w * tBes t p h ≤ 100 * tAl t p h ↔ v * tBes t p h ≤ 100 * tAl t p h := by
    have := hq.2 (tBes t p h).toNat (by omega) (tAl t p h).toNat (by omega)
    rwa [Int.toNat_of_nonneg hB.1, Int.toNat_of_nonneg hA.1] at this
  show decide (tBes t p h = 0 ∨ ((if w = -1 then (tWt t p h).1 else w) * tBes t p h ≤ 100 * tAl t p h ∧ 100 * tAl t p h ≤ (tWt t p h).2.1 * tBes t p h)) = decide (tBes t p h = 0 ∨ ((if v = -1 then (tWt t p h).1 else v) * tBes t p h ≤ 100 * tAl t p h ∧ 100 * tAl t p h ≤ (tWt t p h).2.1 * tBes t p h))
  rw [if_neg (show ¬ w = -1 by have := hq.1; omega), if_neg (show ¬ v = -1 by have := hq.1; omega)]
  exact decide_eq_decide.mpr (by rw [e])
theorem near_wq {w v : Int} (hq : WQ w v) {t : ZT} (h6 : tnp t ≤ 6) {p : Nat} (hp : (p : Int) < tnp t) (mc : Int) : ∀ (n k : Nat) (b c : Int), tNear (tWF t w) p mc n k b c = tNear (tWF t v) p mc n k b c := by
  intro n
  induction n with
  | zero => intro k b c; rfl
  | succ n ih =>
    intro k b c
    unfold tNear
    rw [ih, ih, su_wq hq h6 hp]
    rfl
theorem next_wq {w v : Int} (hq : WQ w v) {t : ZT} (h6 : tnp t ≤ 6) {p : Nat} (hp : (p : Int) < tnp t) : ∀ (n : Nat) (h : Int), tNext (tWF t w) p n h = tNext (tWF t v) p n h := by
  intro n
  induction n with
  | zero => intro h; rfl
  | succ n ih =>
    intro h
    unfold tNext
    rw [ih, su_wq hq h6 hp]
    rfl
theorem least_wq {w v : Int} (hq : WQ w v) {t : ZT} (h6 : tnp t ≤ 6) {p : Nat} (hp : (p : Int) < tnp t) : tLeast (tWF t w) p = tLeast (tWF t v) p := by
  have e : (fun h : Nat => tFr (tWF t w) h && tSu (tWF t w) p h) = (fun h : Nat => tFr (tWF t v) h && tSu (tWF t v) p h) := by
    funext h
    rw [su_wq hq h6 hp]
    rfl
  unfold tLeast
  rw [e]
  rfl
theorem part_wq {w v : Int} (hq : WQ w v) {t : ZT} (h6 : tnp t ≤ 6) {p : Nat} (hp : (p : Int) < tnp t) : ∀ (n k : Nat), (k : Int) + n ≤ tnp t → tPart (tWF t w) p n k = tPart (tWF t v) p n k := by
  intro n
  induction n with
  | zero => intro k _; rfl
  | succ n ih =>
    intro k hk
    rw [tPart_s, tPart_s, ih (k + 1) (by omega)]
    have e1 : tSu (tswap (tWF t w) p k) p (tho t k) = tSu (tswap (tWF t v) p k) p (tho t k) := su_wq hq (t := tswap t p k) h6 hp _
    have e2 : tSu (tswap (tWF t w) p k) k (tho t p) = tSu (tswap (tWF t v) p k) k (tho t p) := su_wq hq (t := tswap t p k) h6 (show (k : Int) < tnp t by omega) _
    show (if tsr t k ≠ tsr t p ∧ (tSu (tswap (tWF t w) p k) p (tho t k) = true ∧ tSu (tswap (tWF t w) p k) k (tho t p) = true) then (k : Int) else tPart (tWF t v) p n (k + 1)) = _
    rw [e1, e2]
    rfl
theorem goes_wq {w v : Int} (hq : WQ w v) {t : ZT} (h6 : 0 ≤ tnp t ∧ tnp t ≤ 6) {p : Nat} (hp : (p : Int) < tnp t) : tGoes (tWF t w) p = tGoes (tWF t v) p := by
  unfold tGoes
  rw [near_wq hq h6.2 hp, near_wq hq h6.2 hp, next_wq hq h6.2 hp, least_wq hq h6.2 hp, part_wq hq h6.2 hp (tnp (tWF t w)).toNat 0 (by show ((0 : Nat) : Int) + ((tnp t).toNat : Nat) ≤ tnp t; omega)]
  rfl
theorem how_wq {w v : Int} (hq : WQ w v) {t : ZT} (h6 : 0 ≤ tnp t ∧ tnp t ≤ 6) {p : Nat} (hp : (p : Int) < tnp t) : tHow (tWF t w) p = tHow (tWF t v) p := by
  unfold tHow
  rw [goes_wq hq h6 hp, su_wq hq h6.2 hp]
  rfl
theorem stepF_wq {w v : Int} (hq : WQ w v) {t : ZT} (h6 : 0 ≤ tnp t ∧ tnp t ≤ 6) : ∀ (n k : Nat), (k : Int) + n ≤ tnp t → (tStepF (tWF t w) n k).1 = (tStepF (tWF t v) n k).1 ∧ ∃ u, tnp u = tnp t ∧ (tStepF (tWF t w) n k).2 = tWF u w ∧ (tStepF (tWF t v) n k).2 = tWF u v := by
  intro n
  induction n with
  | zero => intro k _; exact ⟨rfl, t, rfl, rfl, rfl⟩
  | succ n ih =>
    intro k hk
    rw [tStepF_s, tStepF_s, how_wq hq h6 (show (k : Int) < tnp t by omega)]
    by_cases hc : tHow (tWF t v) k = -5
    · rw [if_pos hc, if_pos hc]
      exact ih (k + 1) (by omega)
    · rw [if_neg hc, if_neg hc]
      exact ⟨rfl, tMove t k (tHow (tWF t v) k), rfl, rfl, rfl⟩
theorem run_wq {w v : Int} (hq : WQ w v) : ∀ (n k : Nat) (t : ZT), 0 ≤ tnp t ∧ tnp t ≤ 6 → tlp (tRun n k (tWF t w)).2 = tlp (tRun n k (tWF t v)).2 := by
  intro n
  induction n with
  | zero => intro k t _; rfl
  | succ n ih =>
    intro k t h6
    obtain ⟨h1, u, h2, h3, h4⟩ := stepF_wq hq h6 (tnp t).toNat 0 (by omega)
    have h1 : (tStep (tWF t w)).1 = (tStep (tWF t v)).1 := h1
    have h3 : (tStep (tWF t w)).2 = tWF u w := h3
    have h4 : (tStep (tWF t v)).2 = tWF u v := h4
    unfold tRun
    rw [h1]
    by_cases hc : (tStep (tWF t v)).1 < 0
    · rw [if_pos hc, if_pos hc, h3, h4]; rfl
    · rw [if_neg hc, if_neg hc, h3, h4]
      exact ih (k + 1) u (by omega)
def wrep (w : Nat) : Nat := if w < 1 then 0 else if w < 21 then 1 else if w < 26 then 21 else if w < 34 then 26 else if w < 41 then 34 else if w < 51 then 41 else if w < 61 then 51 else if w < 67 then 61 else if w < 76 then 67 else if w < 81 then 76 else 81
theorem wrep_all : ∀ w : Nat, w < 101 → ∀ f : Nat, f < 6 → ∀ a : Nat, a < 6 → ((w : Int) * f ≤ 100 * a ↔ ((wrep w : Nat) : Int) * f ≤ 100 * a) := by decide +kernel
theorem wrep_q {w v : Nat} (hw : w < 101) (hv : v < 101) (h : wrep w = wrep v) : WQ (w : Int) (v : Int) := ⟨⟨by omega, by omega⟩, fun f hf a ha => by rw [wrep_all w hw f hf a ha, wrep_all v hv f hf a ha, h]⟩
theorem beg_seg {x : Int} {t : ZT} (h6 : 0 ≤ tnp t ∧ tnp t ≤ 6) {k : Nat} (m : Nat) : ∀ d : Nat, (∀ j, k ≤ j → j < k + (d + 1) → j < 101 ∧ wrep j = wrep k) → mBeg x t (d + 1 + m) k = if x < tlp (tRun 20 0 (tWF t (k : Int))).2 then (k : Int) else mBeg x t m (k + (d + 1)) := by
  intro d hd
  have hk := hd k (Nat.le_refl _) (by omega)
  by_cases hc : x < tlp (tRun 20 0 (tWF t (k : Int))).2
  · rw [if_pos hc, show d + 1 + m = d + m + 1 by omega]
    exact if_pos hc
  · rw [if_neg hc]
    have key : ∀ e j : Nat, k ≤ j → j + e = k + (d + 1) → mBeg x t (e + m) j = mBeg x t m (k + (d + 1)) := by
      intro e
      induction e with
      | zero => intro j _ hj; rw [Nat.zero_add, ← hj, Nat.add_zero]
      | succ e ih =>
        intro j h1 h2
        have hj := hd j h1 (by omega)
        rw [show e + 1 + m = e + m + 1 by omega]
        refine (if_neg ?_).trans (ih (j + 1) (by omega) (by omega))
        rw [run_wq (wrep_q hj.1 hk.1 hj.2) 20 0 t h6]
        exact hc
    exact key (d + 1) k (Nat.le_refl _) rfl
theorem wrep_seg : (∀ d, d < 20 → wrep (1 + d) = wrep 1) ∧ (∀ d, d < 5 → wrep (21 + d) = wrep 21) ∧ (∀ d, d < 8 → wrep (26 + d) = wrep 26) ∧ (∀ d, d < 7 → wrep (34 + d) = wrep 34) ∧ (∀ d, d < 10 → wrep (41 + d) = wrep 41) ∧ (∀ d, d < 10 → wrep (51 + d) = wrep 51) ∧ (∀ d, d < 6 → wrep (61 + d) = wrep 61) ∧ (∀ d, d < 9 → wrep (67 + d) = wrep 67) ∧ (∀ d, d < 5 → wrep (76 + d) = wrep 76) ∧ (∀ d, d < 20 → wrep (81 + d) = wrep 81) := by decide +kernel
theorem begins_eq {t : ZT} (h6 : 0 ≤ tnp t ∧ tnp t ≤ 6) (x : Int) : mBeg x t 101 0 = tBeg x t 11 0 := by
  obtain ⟨s1, s2, s3, s4, s5, s6, s7, s8, s9, s10⟩ := wrep_seg
  have e0 := beg_seg (x := x) h6 (k := 0) 100 0 (fun j h1 h2 => ⟨by omega, by rw [show j = 0 by omega]⟩)
  have e1 := beg_seg (x := x) h6 (k := 1) 80 19 (fun j h1 h2 => ⟨by omega, by have := s1 (j - 1) (by omega); rwa [show 1 + (j - 1) = j by omega] at this⟩)
  have e2 := beg_seg (x := x) h6 (k := 21) 75 4 (fun j h1 h2 => ⟨by omega, by have := s2 (j - 21) (by omega); rwa [show 21 + (j - 21) = j by omega] at this⟩)
  have e3 := beg_seg (x := x) h6 (k := 26) 67 7 (fun j h1 h2 => ⟨by omega, by have := s3 (j - 26) (by omega); rwa [show 26 + (j - 26) = j by omega] at this⟩)
  have e4 := beg_seg (x := x) h6 (k := 34) 60 6 (fun j h1 h2 => ⟨by omega, by have := s4 (j - 34) (by omega); rwa [show 34 + (j - 34) = j by omega] at this⟩)
  have e5 := beg_seg (x := x) h6 (k := 41) 50 9 (fun j h1 h2 => ⟨by omega, by have := s5 (j - 41) (by omega); rwa [show 41 + (j - 41) = j by omega] at this⟩)
  have e6 := beg_seg (x := x) h6 (k := 51) 40 9 (fun j h1 h2 => ⟨by omega, by have := s6 (j - 51) (by omega); rwa [show 51 + (j - 51) = j by omega] at this⟩)
  have e7 := beg_seg (x := x) h6 (k := 61) 34 5 (fun j h1 h2 => ⟨by omega, by have := s7 (j - 61) (by omega); rwa [show 61 + (j - 61) = j by omega] at this⟩)
  have e8 := beg_seg (x := x) h6 (k := 67) 25 8 (fun j h1 h2 => ⟨by omega, by have := s8 (j - 67) (by omega); rwa [show 67 + (j - 67) = j by omega] at this⟩)
  have e9 := beg_seg (x := x) h6 (k := 76) 20 4 (fun j h1 h2 => ⟨by omega, by have := s9 (j - 76) (by omega); rwa [show 76 + (j - 76) = j by omega] at this⟩)
  have e10 := beg_seg (x := x) h6 (k := 81) 0 19 (fun j h1 h2 => ⟨by omega, by have := s10 (j - 81) (by omega); rwa [show 81 + (j - 81) = j by omega] at this⟩)
  show mBeg x t (0 + 1 + 100) 0 = _
  rw [e0]
  show (if _ then _ else mBeg x t (19 + 1 + 80) 1) = _
  rw [e1]
  show (if _ then _ else if _ then _ else mBeg x t (4 + 1 + 75) 21) = _
  rw [e2]
  show (if _ then _ else if _ then _ else if _ then _ else mBeg x t (7 + 1 + 67) 26) = _
  rw [e3]
  show (if _ then _ else if _ then _ else if _ then _ else if _ then _ else mBeg x t (6 + 1 + 60) 34) = _
  rw [e4]
  show (if _ then _ else if _ then _ else if _ then _ else if _ then _ else if _ then _ else mBeg x t (9 + 1 + 50) 41) = _
  rw [e5]
  show (if _ then _ else if _ then _ else if _ then _ else if _ then _ else if _ then _ else if _ then _ else mBeg x t (9 + 1 + 40) 51) = _
  rw [e6]
  show (if _ then _ else if _ then _ else if _ then _ else if _ then _ else if _ then _ else if _ then _ else if _ then _ else mBeg x t (5 + 1 + 34) 61) = _
  rw [e7]
  show (if _ then _ else if _ then _ else if _ then _ else if _ then _ else if _ then _ else if _ then _ else if _ then _ else if _ then _ else mBeg x t (8 + 1 + 25) 67) = _
  rw [e8]
  show (if _ then _ else if _ then _ else if _ then _ else if _ then _ else if _ then _ else if _ then _ else if _ then _ else if _ then _ else if _ then _ else mBeg x t (4 + 1 + 20) 76) = _
  rw [e9]
  show (if _ then _ else if _ then _ else if _ then _ else if _ then _ else if _ then _ else if _ then _ else if _ then _ else if _ then _ else if _ then _ else if _ then _ else mBeg x t (19 + 1 + 0) 81) = _
  rw [e10]
  rfl
/-! how many houses are free -/
theorem pc8_zmk (P : Nat → Bool) : ∀ n, n ≤ 8 → ((pc8 (zmk P n) : Nat) : Int) = zsum (fun h => if P h = true then 1 else 0) n 0 := by
  have hz : ∀ b : Bool, ((if b = true then (1 : Nat) else 0 : Nat) : Int) = if b = true then (1 : Int) else 0 := by intro b; cases b <;> rfl
  intro n hn
  have h9 : n = 0 ∨ n = 1 ∨ n = 2 ∨ n = 3 ∨ n = 4 ∨ n = 5 ∨ n = 6 ∨ n = 7 ∨ n = 8 := by omega
  unfold pc8
  rcases h9 with rfl | rfl | rfl | rfl | rfl | rfl | rfl | rfl | rfl <;> simp only [zmk_bit, zsum, Int.natCast_add, hz, Nat.zero_add] <;> simp <;> omega
theorem zsum_pt {h0 : Nat} : ∀ n k : Nat, k ≤ h0 → h0 < k + n → zsum (fun h => if h = h0 then (1 : Int) else 0) n k = 1 := by
  intro n
  induction n with
  | zero => intro k h1 h2; omega
  | succ n ih =>
    intro k h1 h2
    rw [zsum_s]
    by_cases hk : k = h0
    · rw [if_pos hk]
      have : zsum (fun h => if h = h0 then (1 : Int) else 0) n (k + 1) = zsum (fun _ => (0 : Int)) n (k + 1) := zsum_cong (fun j a b => if_neg (by omega))
      rw [this]
      have h0 : ∀ m j : Nat, zsum (fun _ => (0 : Int)) m j = 0 := by
        intro m
        induction m with
        | zero => intro j; rfl
        | succ m ih2 => intro j; rw [zsum_s, ih2]; rfl
      rw [h0]; rfl
    · rw [if_neg hk, ih (k + 1) (by omega) (by omega)]; rfl
theorem zfst_sn {P : Nat → Bool} : ∀ n k : Nat, zfst P (n + 1) k = -1 ↔ zfst P n k = -1 ∧ P (k + n) = false := by
  intro n k
  rw [zfst_none, zfst_none]
  constructor
  · intro h; exact ⟨fun j a b => h j a (by omega), h (k + n) (by omega) (by omega)⟩
  · intro h j a b
    by_cases hj : j = k + n
    · rw [hj]; exact h.2
    · exact h.1 j a (by omega)
def DIS (np : Int) (ho : Nat → Int) : Prop := ∀ p q : Nat, p < q → (q : Int) < np → ho p ≠ ho q
theorem free_count {n : Nat} {ho : Nat → Int} : ∀ m : Nat, (∀ p, p < m → 0 ≤ ho p ∧ ho p < n) → (∀ p q, p < q → q < m → ho p ≠ ho q) → zsum (fun h => if decide (zfst (fun p => decide (ho p = (h : Int))) m 0 = -1) = true then (1 : Int) else 0) n 0 = (n : Int) - m := by
  intro m
  induction m with
  | zero =>
    intro _ _
    have h1 : ∀ k j : Nat, zsum (fun h : Nat => if decide (zfst (fun p => decide (ho p = (h : Int))) 0 0 = -1) = true then (1 : Int) else 0) k j = k := by
      intro k
      induction k with
      | zero => intro j; rfl
      | succ k ih => intro j; rw [zsum_s, ih]; show (1 : Int) + k = ((k + 1 : Nat) : Int); omega
    rw [h1]; show (n : Int) = (n : Int) - ((0 : Nat) : Int); omega
  | succ m ih =>
    intro hr hd
    have ih := ih (fun p hp => hr p (by omega)) (fun p q h1 h2 => hd p q h1 (by omega))
    have hm := hr m (by omega)
    have e : ∀ h : Nat, (if decide (zfst (fun p => decide (ho p = (h : Int))) m 0 = -1) = true then (1 : Int) else 0) = (if decide (zfst (fun p => decide (ho p = (h : Int))) (m + 1) 0 = -1) = true then (1 : Int) else 0) + (if h = (ho m).toNat then 1 else 0) := by
      intro h
      by_cases hh : h = (ho m).toNat
      · have hhm : ho m = (h : Int) := by omega
        have a1 : zfst (fun p => decide (ho p = (h : Int))) m 0 = -1 := zfst_none.mpr (fun j a b => decide_eq_false (by have := hd j m (by omega) (by omega); omega))
        have a2 : ¬ zfst (fun p => decide (ho p = (h : Int))) (m + 1) 0 = -1 := fun z => by
          have := (zfst_sn m 0).mp z
          rw [Nat.zero_add] at this
          exact absurd hhm (of_decide_eq_false this.2)
        rw [if_pos hh, if_pos (decide_eq_true a1), if_neg (fun z => a2 (of_decide_eq_true z))]
        rfl
      · have a2 : zfst (fun p => decide (ho p = (h : Int))) (m + 1) 0 = -1 ↔ zfst (fun p => decide (ho p = (h : Int))) m 0 = -1 := by
          rw [zfst_sn, Nat.zero_add]
          exact ⟨fun z => z.1, fun z => ⟨z, decide_eq_false (by omega)⟩⟩
        rw [if_neg hh]
        by_cases a1 : zfst (fun p => decide (ho p = (h : Int))) m 0 = -1
        · rw [if_pos (decide_eq_true a1), if_pos (decide_eq_true (a2.mpr a1))]; rfl
        · rw [if_neg (fun z => a1 (of_decide_eq_true z)), if_neg (fun z => a1 (a2.mp (of_decide_eq_true z)))]; rfl
    have e2 : zsum (fun h => if decide (zfst (fun p => decide (ho p = (h : Int))) m 0 = -1) = true then (1 : Int) else 0) n 0 = zsum (fun h => (if decide (zfst (fun p => decide (ho p = (h : Int))) (m + 1) 0 = -1) = true then (1 : Int) else 0) + (if h = (ho m).toNat then 1 else 0)) n 0 := zsum_cong (fun j _ _ => e j)
    rw [zsum_add, zsum_pt n 0 (Nat.zero_le _) (by omega), ih] at e2
    omega
theorem ways_eq {n np : Int} {ho : Nat → Int} (hn : 0 ≤ n ∧ n ≤ 8) (hp : 0 ≤ np) (hr : ∀ p : Nat, (p : Int) < np → 0 ≤ ho p ∧ ho p < n) (hd : DIS np ho) : ((pc8 (zfree n np ho) : Nat) : Int) = n - np := by
  unfold zfree
  rw [pc8_zmk _ _ (by omega)]
  have h := free_count (n := n.toNat) (ho := ho) np.toNat (fun p hp => by have := hr p (by omega); omega) (fun p q h1 h2 => hd p q h1 (by omega))
  rw [Int.toNat_of_nonneg hn.1, Int.toNat_of_nonneg hp] at h
  exact h
