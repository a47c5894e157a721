/-! the first memory: what both constructors leave -/
def ids0 : List (Nat × Nat) := [(7, 0), (25, 0), (26, 0), (5, 0), (22, 0), (0, 0), (10, 0), (6, 0), (23, 0), (24, 0), (3, 0), (20, 0), (3, 1), (20, 1), (3, 2), (20, 2), (3, 3), (20, 3), (3, 4), (20, 4), (3, 5), (20, 5), (4, 0), (21, 0), (4, 1), (21, 1), (4, 2), (21, 2), (4, 3), (21, 3), (4, 4), (21, 4), (4, 5), (21, 5), (2, 0), (14, 0), (15, 0), (16, 0), (17, 0), (18, 0), (19, 0), (2, 1), (14, 1), (15, 1), (16, 1), (17, 1), (18, 1), (19, 1), (1, 0), (11, 0), (12, 0), (13, 0), (2, 2), (3, 6), (20, 6), (14, 2), (15, 2), (16, 2), (17, 2), (18, 2), (19, 2), (8, 0), (30, 0), (31, 0), (32, 0), (33, 0), (34, 0), (35, 0), (36, 0), (37, 0), (38, 0), (39, 0), (40, 0), (41, 0), (42, 0), (43, 0), (44, 0), (45, 0), (46, 0), (47, 0), (48, 0), (49, 0), (50, 0), (51, 0), (52, 0), (53, 0), (54, 0), (55, 0), (56, 0)]
def Y0 (D : va_G) (cA : Nat → ClassId) (ex : Nat → Nat) (ad : Nat → Nat → Nat) : ZW := (D, cA, ids0, ad, ex)
def let0 (k : Nat) : Int := [119, 105, 115, 104, 109, 111, 115, 116, 100, 101, 97, 114].getD k 0
def g0 : ZG := fun f _ k => if f = 14 then lay8 k else if f = 2 then (if k = 0 then 8 else if k = 11 then 6 else 0) else if f = 1 then (if k = 1 then -1 else 0) else if f = 4 then (if k = 0 then -1 else 0) else if f = 5 then (if k = 2 then -1 else 0) else if f = 8 then (if k = 0 then 8 else if k = 36 then 8 else if k = 9 then -1 else if k = 26 then -1 else if k = 35 then -1 else 0) else if f = 42 then let0 k else if f = 53 then (if k < 6 then -1 else 0) else 0
def zfrB (ids : List (Nat × Nat)) (t : Nat × Nat × Nat) (i : Nat) (x : Int) : Bool := match t.1 with
  | 0 => decide (-2147483648 ≤ x ∧ x < 2147483648)
  | 1 => decide (0 ≤ x ∧ x ≤ 1)
  | 3 => decide ((t.2.1, i) ∈ ids)
  | 4 => decide ((t.2.1, t.2.2) ∈ ids)
  | 5 => decide ((t.2.1, x.toNat) ∈ ids)
  | _ => decide (0 ≤ x → (t.2.1, x.toNat) ∈ ids)
theorem zfr_of {Y : ZW} {t : Nat × Nat × Nat} {i : Nat} {x : Int} (h : zfrB (zids Y) t i x = true) : zfr Y t i x := by
  unfold zfrB at h
  unfold zfr
  split at h <;> first | exact of_decide_eq_true h | (split <;> first | exact of_decide_eq_true h | (exfalso; simp_all))
def zarB (k : Nat) (x : Int) : Bool := match k with
  | 1 => decide (-2147483648 ≤ x ∧ x < 2147483648)
  | 2 => decide (-128 ≤ x ∧ x < 128)
  | 3 => decide (0 ≤ x ∧ x ≤ 1)
  | 4 => decide (-9223372036854775808 ≤ x ∧ x < 9223372036854775808)
  | _ => true
theorem zar_of {k : Nat} {x : Int} (h : zarB k x = true) : zar k x := by
  unfold zarB at h
  unfold zar
  split at h <;> first | exact of_decide_eq_true h | (split <;> first | exact of_decide_eq_true h | trivial | (exfalso; simp_all))
theorem rg0 : ∀ q, q ∈ ids0 → ((zfam q.1).1 = 0 → ∀ k, k < (zfam q.1).2 → zfrB ids0 ((zfld q.1).getD k (9, 0, 0)) q.2 (g0 q.1 q.2 k) = true) ∧ ∀ k, k < (zfam q.1).2 → zarB (zfam q.1).1 (g0 q.1 q.2 k) = true := by decide +kernel
theorem wf0 : ∀ q, q ∈ ids0 → (zfam q.1).1 < 9 ∧ ((zfam q.1).1 = 5 → ∀ j, j < (zfam q.1).2 → (3, j) ∈ ids0) ∧ ((zfam q.1).1 = 6 → ∀ j, j < (zfam q.1).2 → (4, j) ∈ ids0) := by decide +kernel
theorem Y0_rg {D : va_G} {cA : Nat → ClassId} {ex : Nat → Nat} {ad : Nat → Nat → Nat} : zrg (Y0 D cA ex ad) g0 := fun f i hm => ⟨fun h k hk => zfr_of ((rg0 (f, i) hm).1 h k hk), fun k hk => zar_of ((rg0 (f, i) hm).2 k hk)⟩
theorem Y0_wf {D : va_G} {cA : Nat → ClassId} {ex : Nat → Nat} {ad : Nat → Nat → Nat} : zwf (Y0 D cA ex ad) := fun f i hm => wf0 (f, i) hm
theorem RR_g0 : RR g0 := by
  have h14 : ∀ i k, g0 14 i k = lay8 k := fun _ _ => rfl
  have hz : ∀ f i k, f ≠ 14 → f ≠ 2 → f ≠ 1 → f ≠ 4 → f ≠ 5 → f ≠ 8 → f ≠ 42 → f ≠ 53 → g0 f i k = 0 := by
    intro f i k h1 h2 h3 h4 h5 h6 h7 h8
    unfold g0
    rw [if_neg h1, if_neg h2, if_neg h3, if_neg h4, if_neg h5, if_neg h6, if_neg h7, if_neg h8]
  refine ⟨⟨⟨⟨by decide, by decide⟩, ⟨by decide, by decide⟩, ⟨by decide, by decide⟩, ⟨by decide, by decide⟩, ⟨by decide, by decide⟩, Or.inl rfl⟩, ⟨fun h hh => ?_, fun p hp => absurd hp (by show ¬ ((p : Int) < 0); omega), fun p q _ hq => absurd hq (by show ¬ ((q : Int) < 0); omega)⟩, ⟨rfl, rfl, rfl, rfl, rfl, rfl⟩, fun k hk => ⟨rfl, rfl, rfl, rfl⟩, fun k hk => rfl⟩, ⟨Or.inl rfl, rfl, by decide⟩, ⟨⟨by decide, by decide⟩, rfl, ⟨rfl, rfl⟩, fun _ => [], fun j hj => absurd hj (by show ¬ ((j : Int) < 0); omega)⟩, ⟨⟨by decide, by decide⟩, rfl, ⟨by decide, by decide⟩, fun k hk => ⟨rfl, by rw [hz 34 0 k (by decide) (by decide) (by decide) (by decide) (by decide) (by decide) (by decide) (by decide)]; decide, by rw [hz 34 0 k (by decide) (by decide) (by decide) (by decide) (by decide) (by decide) (by decide) (by decide)]; decide⟩⟩, fun q hq => ⟨⟨?_, rfl, ⟨by show -1 ≤ (-1 : Int); decide, by show (-1 : Int) ≤ 4; decide⟩, ⟨by show (0 : Int) ≤ 0; decide, by show (0 : Int) ≤ 60; decide⟩, fun _ => rfl⟩, fun i hi => ⟨rfl, fun h => absurd h (by show ¬ ((-1 : Int) = 4); decide)⟩⟩, ⟨rfl, by decide, fun k hk => rfl⟩, ⟨fun k hk => rfl, rfl, fun f hf k hk => hz f 0 k (by omega) (by omega) (by omega) (by omega) (by omega) (by omega) (by omega) (by omega)⟩, ⟨fun s hs => by show (0 : Int) ≤ 0; decide, by decide, fun f i k hf hk => hz f i k (by omega) (by omega) (by omega) (by omega) (by omega) (by omega) (by omega) (by omega)⟩⟩
  · have hh : (h : Int) < 8 := hh
    rw [h14]
    unfold lay8
    rw [if_pos hh]
    rfl
  · show (if q < 6 then (-1 : Int) else 0) = -1
    rw [if_pos hq]
