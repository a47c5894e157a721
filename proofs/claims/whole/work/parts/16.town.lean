/-! a town: (houses, shape, people, moves), (kinds, numbers, sorts, houses), weights, wish for all -/
abbrev ZT : Type := (Int × Int × Int × Int) × ((Nat → Int) × (Nat → Int) × (Nat → Int) × (Nat → Int)) × (Int → Int → Int → Int → Int → Int → Int × Int × Int) × Int
abbrev tn (t : ZT) : Int := t.1.1
abbrev tsh (t : ZT) : Int := t.1.2.1
abbrev tnp (t : ZT) : Int := t.1.2.2.1
abbrev tmv (t : ZT) : Int := t.1.2.2.2
abbrev tkd (t : ZT) : Nat → Int := t.2.1.1
abbrev tv (t : ZT) : Nat → Int := t.2.1.2.1
abbrev tsr (t : ZT) : Nat → Int := t.2.1.2.2.1
abbrev tho (t : ZT) : Nat → Int := t.2.1.2.2.2
abbrev tw (t : ZT) : Int → Int → Int → Int → Int → Int → Int × Int × Int := t.2.2.1
abbrev twf (t : ZT) : Int := t.2.2.2
def tBes (t : ZT) (p : Nat) (h : Int) : Int := zsum (fun q => if q ≠ p ∧ zliv (tn t) (tsh t) (tho t) q h = true then 1 else 0) (tnp t).toNat 0
def tAl (t : ZT) (p : Nat) (h : Int) : Int := zsum (fun q => if (q ≠ p ∧ zliv (tn t) (tsh t) (tho t) q h = true) ∧ tsr t q = tsr t p then 1 else 0) (tnp t).toNat 0
def tWt (t : ZT) (p : Nat) (h : Int) : Int × Int × Int := tw t p (tsr t p) (tkd t p) h (tBes t p h) (tmv t % 60)
def tSu (t : ZT) (p : Nat) (h : Int) : Bool := decide (tBes t p h = 0 ∨ ((if twf t = -1 then (tWt t p h).1 else twf t) * tBes t p h ≤ 100 * tAl t p h ∧ 100 * tAl t p h ≤ (tWt t p h).2.1 * tBes t p h))
theorem zsum_lt {f : Nat → Int} (h : ∀ j, f j = 0 ∨ f j = 1) : ∀ {n k p : Nat}, k ≤ p → p < k + n → f p = 0 → 0 ≤ zsum f n k ∧ zsum f n k ≤ n - 1 := by
  intro n
  induction n with
  | zero => intro k p h1 h2; omega
  | succ n ih =>
    intro k p h1 h2 h3
    rw [zsum_s]
    by_cases hk : p = k
    · subst hk
      have := zsum_01 (f := f) (n := n) (k := p + 1) h
      omega
    · have := ih (k := k + 1) (by omega) (by omega) h3
      have := h k
      omega
theorem zif01 {p : Prop} {d : Decidable p} : (if p then (1 : Int) else 0) = 0 ∨ (if p then (1 : Int) else 0) = 1 := by by_cases h : p <;> simp [h]
theorem tBes_rng (t : ZT) {p : Nat} (h : Int) (hp : p < (tnp t).toNat) : 0 ≤ tBes t p h ∧ tBes t p h ≤ (tnp t).toNat - 1 := zsum_lt (fun j => zif01) (Nat.zero_le _) (by omega) (if_neg (fun z => z.1 rfl))
theorem tAl_rng (t : ZT) {p : Nat} (h : Int) (hp : p < (tnp t).toNat) : 0 ≤ tAl t p h ∧ tAl t p h ≤ (tnp t).toNat - 1 := zsum_lt (fun j => zif01) (Nat.zero_le _) (by omega) (if_neg (fun z => z.1.1 rfl))
def zfa (p s k h f m : Int) : Nat → Int := fun i => match i with
  | 0 => p
  | 1 => s
  | 2 => k
  | 3 => h
  | 4 => f
  | _ => m
/-- the weights that a street of the component tells -/
def zwC (g : ZG) (j : Nat) : Int → Int → Int → Int → Int → Int → Int × Int × Int := fun p s k h f m => zwres (g 3 j 2) (zev (zfa p s k h f m) (g 20 j) (g 3 j 1).toNat 0 ([], 0, 100, 0))
def zTC (g : ZG) (i : Nat) (wf : Int) : ZT := ((g 2 i 0, g 2 i 1, g 2 i 3, g 2 i 8), (g 15 i, g 16 i, g 17 i, g 18 i), zwC g (g 2 i 11).toNat, wf)
abbrev zTL (g : ZG) : ZT := zTC g 2 (g 1 0 1)
def HOLD (g : ZG) (i : Nat) : Prop := (0 ≤ g 2 i 11 ∧ g 2 i 11 ≤ 6) ∧ (0 ≤ g 3 (g 2 i 11).toNat 1 ∧ g 3 (g 2 i 11).toNat 1 ≤ 100) ∧ zwfs (g 20 (g 2 i 11).toNat) (g 3 (g 2 i 11).toNat 1).toNat 0 0
def CK (g : ZG) : Prop := (∀ s : Nat, s < 288 → g 13 0 s ≤ g 1 0 8) ∧ ∀ p h f : Nat, (p : Int) < g 2 2 3 → h < 8 → f < 6 → g 13 0 ((p * 8 + h) * 6 + f) = g 1 0 8 →
  (g 12 0 (((p * 8 + h) * 6 + f) * 3), g 12 0 (((p * 8 + h) * 6 + f) * 3 + 1), g 12 0 (((p * 8 + h) * 6 + f) * 3 + 2)) = zwC g (g 2 2 11).toNat p (g 17 2 p) (g 15 2 p) h f (g 2 2 8 % 60)
def LOK (g : ZG) : Prop := SOK g 2 ∧ HOLD g 2 ∧ CK g ∧ (-1 ≤ g 1 0 1 ∧ g 1 0 1 ≤ 100) ∧ (0 ≤ g 1 0 8 ∧ g 1 0 8 ≤ 1000000000)
/-- nothing changed but what a life scribbles -/
def zSL (g g' : ZG) : Prop := (∀ f, f ≠ 1 → f ≠ 11 → f ≠ 12 → f ≠ 13 → g' f = g f) ∧ ∀ i k, k ≠ 3 → k ≠ 4 → k ≠ 5 → g' 1 i k = g 1 i k
theorem zSL.rf (g : ZG) : zSL g g := ⟨fun _ _ _ _ _ => rfl, fun _ _ _ _ _ => rfl⟩
theorem zSL.tr {a b c : ZG} (h : zSL a b) (k : zSL b c) : zSL a c := ⟨fun f h1 h2 h3 h4 => (k.1 f h1 h2 h3 h4).trans (h.1 f h1 h2 h3 h4), fun i q h1 h2 h3 => (k.2 i q h1 h2 h3).trans (h.2 i q h1 h2 h3)⟩
theorem zSL.town {g g' : ZG} (h : zSL g g') (i : Nat) (wf : Int) : zTC g' i wf = zTC g i wf := by
  unfold zTC zwC
  rw [h.1 2 (by decide) (by decide) (by decide) (by decide), h.1 3 (by decide) (by decide) (by decide) (by decide), h.1 20 (by decide) (by decide) (by decide) (by decide), h.1 15 (by decide) (by decide) (by decide) (by decide), h.1 16 (by decide) (by decide) (by decide) (by decide), h.1 17 (by decide) (by decide) (by decide) (by decide), h.1 18 (by decide) (by decide) (by decide) (by decide)]
theorem zSL.townL {g g' : ZG} (h : zSL g g') : zTL g' = zTL g := by
  unfold zTL
  rw [h.2 0 1 (by decide) (by decide) (by decide)]
  exact h.town 2 _
theorem zev_cong {fa fa' st : Nat → Int} (hf : ∀ i, i < 6 → fa i = fa' i) : ∀ (n k h : Nat) (x : ZE), zwfs st n k h → zev fa st n k x = zev fa' st n k x := by
  intro n
  induction n with
  | zero => intro k h x hw; rfl
  | succ n ih =>
    intro k h x hw
    rw [zwfs_s] at hw
    rw [zev_s, zev_s]
    have e : zev1 fa (st k / 100) (st k % 100) x = zev1 fa' (st k / 100) (st k % 100) x := by
      unfold zev1
      by_cases h18 : st k / 100 = 18
      · simp only [h18, if_true]
      by_cases h19 : st k / 100 = 19
      · simp only [h19, if_true]
      by_cases h20 : st k / 100 = 20
      · simp only [h20, if_true]
      by_cases h21 : st k / 100 = 21
      · simp only [h21, if_true]
      by_cases h22 : st k / 100 = 22
      · simp only [h22, if_true]
      by_cases h23 : st k / 100 = 23
      · simp only [h23, if_true]
      simp only [h18, h19, h20, h21, h22, h23, if_false]
      unfold zcmp
      rw [hf (st k / 100 / 3).toNat (by omega)]
    rw [e]
    exact ih (k + 1) _ _ hw.2.2
theorem zup4 (g : ZG) (a b c d : Int) : zup (zup (zup (zup g 1 0 3 a) 1 0 4 b) 1 0 3 c) 1 0 4 d = zup (zup g 1 0 3 c) 1 0 4 d := by
  funext f i k
  unfold zup
  by_cases h3 : f = 1 ∧ k = 3 ∧ i = 0
  · obtain ⟨rfl, rfl, rfl⟩ := h3; simp
  · by_cases h4 : f = 1 ∧ k = 4 ∧ i = 0
    · obtain ⟨rfl, rfl, rfl⟩ := h4; simp
    · simp [h3, h4]
