/-! the small constructors -/
set_option maxRecDepth 100000 in
set_option maxHeartbeats 4000000 in
theorem c_X0_new : BC mX0_init { frames := 1, cells := 1, slots := 20, locals := 40 } 0 [.int 0, .int 0, .int 0, .int 0, .null] [] (fun cA => []) (fun cA h0 ws => ∃ q1 : Nat, ws = [(h0, .inr (0, [.int 0, .int 0, .int 0, .int 0, .ref q1])), (q1, .inl (cA 1, 20, .inl fun _ => 0))]) := by
  refine bc_of gX0_init rfl (Nat.le_of_ble_eq_true rfl) (fun D cA ex z0 h0 sz => ?_)
  show BV _ _ _ _ _ 0 0 0 [(0, .ref h0)] [] [(h0, .inr (0, [.int 0, .int 0, .int 0, .int 0, .null]))]
  refine bs_aload_n (j := 0) (i := 0) rfl rfl rfl ?_
  refine bs_obj rfl (zinT 60 (by decide +kernel) rfl) (zinT 22 (by decide +kernel) rfl) (zinT 23 (by decide +kernel) rfl) (Nat.le_of_ble_eq_true rfl) (Nat.le_of_ble_eq_true rfl) (Nat.le_of_ble_eq_true rfl) ?_
  refine bs_aload_n (j := 0) (i := 0) rfl rfl rfl ?_
  refine bs_bipush (n := 20) (v := 20) rfl (by decide) ?_
  refine bs_newa (ty := .int) (t0 := 0) (N := 20) (a0 := (20, .inl fun _ => 0)) rfl (zinT 82 (by decide +kernel) rfl) rfl (by intro C z; cases z) rfl (fun c0 => rfl) (by decide) rfl (by decide) (Nat.le_of_ble_eq_true rfl) (Nat.le_of_ble_eq_true rfl) (fun q1 => ?_)
  show BV _ _ _ _ _ 1 20 _ _ _ [(h0, .inr (0, [.int 0, .int 0, .int 0, .int 0, .null])), (q1, .inl (cA 1, 20, .inl fun _ => 0))]
  refine bs_putF (ci := 0) (k := 4) (q0 := 0) (r := (RX0, TX0, 5)) (ty := .array .int) rfl rfl rfl rfl rfl (fun _ _ _ _ h => h.1.1) rfl (by decide +kernel) rfl rfl (Nat.le_of_ble_eq_true rfl) ?_
  show BV _ _ _ _ _ 1 20 _ _ _ [(h0, .inr (0, [.int 0, .int 0, .int 0, .int 0, .ref q1])), (q1, .inl (cA 1, 20, .inl fun _ => 0))]
  exact bs_ret rfl ⟨q1, rfl⟩
set_option maxRecDepth 100000 in
set_option maxHeartbeats 4000000 in
theorem c_X3_new : BC mX3_init { frames := 1, cells := 1, slots := 100, locals := 40 } 3 [.null, .int 0, .int 0] [] (fun cA => []) (fun cA h0 ws => ∃ q1 : Nat, ws = [(h0, .inr (3, [.ref q1, .int 0, .int 0])), (q1, .inl (cA 1, 100, .inl fun _ => 0))]) := by
  refine bc_of gX3_init rfl (Nat.le_of_ble_eq_true rfl) (fun D cA ex z0 h0 sz => ?_)
  show BV _ _ _ _ _ 0 0 0 [(0, .ref h0)] [] [(h0, .inr (3, [.null, .int 0, .int 0]))]
  refine bs_aload_n (j := 0) (i := 0) rfl rfl rfl ?_
  refine bs_obj rfl (zinT 107 (by decide +kernel) rfl) (zinT 22 (by decide +kernel) rfl) (zinT 23 (by decide +kernel) rfl) (Nat.le_of_ble_eq_true rfl) (Nat.le_of_ble_eq_true rfl) (Nat.le_of_ble_eq_true rfl) ?_
  refine bs_aload_n (j := 0) (i := 0) rfl rfl rfl ?_
  refine bs_bipush (n := 100) (v := 100) rfl (by decide) ?_
  refine bs_newa (ty := .int) (t0 := 0) (N := 100) (a0 := (100, .inl fun _ => 0)) rfl (zinT 82 (by decide +kernel) rfl) rfl (by intro C z; cases z) rfl (fun c0 => rfl) (by decide) rfl (by decide) (Nat.le_of_ble_eq_true rfl) (Nat.le_of_ble_eq_true rfl) (fun q1 => ?_)
  show BV _ _ _ _ _ 1 100 _ _ _ [(h0, .inr (3, [.null, .int 0, .int 0])), (q1, .inl (cA 1, 100, .inl fun _ => 0))]
  refine bs_putF (ci := 3) (k := 0) (q0 := 0) (r := (RX3, TX3, 3)) (ty := .array .int) rfl rfl rfl rfl rfl (fun _ _ _ _ h => h.1.1) rfl (by decide +kernel) rfl rfl (Nat.le_of_ble_eq_true rfl) ?_
  show BV _ _ _ _ _ 1 100 _ _ _ [(h0, .inr (3, [.ref q1, .int 0, .int 0])), (q1, .inl (cA 1, 100, .inl fun _ => 0))]
  exact bs_ret rfl ⟨q1, rfl⟩
set_option maxRecDepth 100000 in
set_option maxHeartbeats 4000000 in
theorem c_X4_new : BC mX4_init { frames := 1, cells := 1, slots := 60, locals := 40 } 4 [.int 0, .int 0, .null] [] (fun cA => []) (fun cA h0 ws => ∃ q1 : Nat, ws = [(h0, .inr (4, [.int (-1), .int 0, .ref q1])), (q1, .inl (cA 4, 60, .inr (.inl fun _ => 0)))]) := by
  refine bc_of gX4_init rfl (Nat.le_of_ble_eq_true rfl) (fun D cA ex z0 h0 sz => ?_)
  show BV _ _ _ _ _ 0 0 0 [(0, .ref h0)] [] [(h0, .inr (4, [.int 0, .int 0, .null]))]
  refine bs_aload_n (j := 0) (i := 0) rfl rfl rfl ?_
  refine bs_obj rfl (zinT 122 (by decide +kernel) rfl) (zinT 22 (by decide +kernel) rfl) (zinT 23 (by decide +kernel) rfl) (Nat.le_of_ble_eq_true rfl) (Nat.le_of_ble_eq_true rfl) (Nat.le_of_ble_eq_true rfl) ?_
  refine bs_aload_n (j := 0) (i := 0) rfl rfl rfl ?_
  refine bs_iconst (n := (-1)) (v := (-1)) rfl (by decide) ?_
  refine bs_put (ci := 4) (k := 0) (q0 := 0) (r := (RX4, TX4, 3)) (ty := .int) rfl rfl rfl rfl rfl (by decide +kernel) rfl rfl (Nat.le_of_ble_eq_true rfl) ?_
  show BV _ _ _ _ _ 0 0 _ _ _ [(h0, .inr (4, [.int (-1), .int 0, .null]))]
  refine bs_aload_n (j := 0) (i := 0) rfl rfl rfl ?_
  refine bs_bipush (n := 60) (v := 60) rfl (by decide) ?_
  refine bs_newa (ty := .long) (t0 := 3) (N := 60) (a0 := (60, .inr (.inl fun _ => 0))) rfl (zinT 136 (by decide +kernel) rfl) rfl (by intro C z; cases z) rfl (fun c0 => rfl) (by decide) rfl (by decide) (Nat.le_of_ble_eq_true rfl) (Nat.le_of_ble_eq_true rfl) (fun q1 => ?_)
  show BV _ _ _ _ _ 1 60 _ _ _ [(h0, .inr (4, [.int (-1), .int 0, .null])), (q1, .inl (cA 4, 60, .inr (.inl fun _ => 0)))]
  refine bs_putF (ci := 4) (k := 2) (q0 := 0) (r := (RX4, TX4, 3)) (ty := .array .long) rfl rfl rfl rfl rfl (fun _ _ _ _ h => h.1.1) rfl (by decide +kernel) rfl rfl (Nat.le_of_ble_eq_true rfl) ?_
  show BV _ _ _ _ _ 1 60 _ _ _ [(h0, .inr (4, [.int (-1), .int 0, .ref q1])), (q1, .inl (cA 4, 60, .inr (.inl fun _ => 0)))]
  exact bs_ret rfl ⟨q1, rfl⟩
set_option maxRecDepth 100000 in
set_option maxHeartbeats 4000000 in
theorem c_X5_new : BC mX5_init { frames := 1, cells := 1, slots := 100, locals := 40 } 5 [.int 0, .null, .null, .int 0, .int 0, .int 0] [] (fun cA => []) (fun cA h0 ws => ∃ q1 : Nat, ws = [(h0, .inr (5, [.int 0, .ref q1, .null, .int 0, .int 0, .int 0])), (q1, .inl (cA 2, 100, .inl fun _ => 0))]) := by
  refine bc_of gX5_init rfl (Nat.le_of_ble_eq_true rfl) (fun D cA ex z0 h0 sz => ?_)
  show BV _ _ _ _ _ 0 0 0 [(0, .ref h0)] [] [(h0, .inr (5, [.int 0, .null, .null, .int 0, .int 0, .int 0]))]
  refine bs_aload_n (j := 0) (i := 0) rfl rfl rfl ?_
  refine bs_obj rfl (zinT 33 (by decide +kernel) rfl) (zinT 22 (by decide +kernel) rfl) (zinT 23 (by decide +kernel) rfl) (Nat.le_of_ble_eq_true rfl) (Nat.le_of_ble_eq_true rfl) (Nat.le_of_ble_eq_true rfl) ?_
  refine bs_aload_n (j := 0) (i := 0) rfl rfl rfl ?_
  refine bs_bipush (n := 100) (v := 100) rfl (by decide) ?_
  refine bs_newa (ty := .byte) (t0 := 1) (N := 100) (a0 := (100, .inl fun _ => 0)) rfl (zinT 54 (by decide +kernel) rfl) rfl (by intro C z; cases z) rfl (fun c0 => rfl) (by decide) rfl (by decide) (Nat.le_of_ble_eq_true rfl) (Nat.le_of_ble_eq_true rfl) (fun q1 => ?_)
  show BV _ _ _ _ _ 1 100 _ _ _ [(h0, .inr (5, [.int 0, .null, .null, .int 0, .int 0, .int 0])), (q1, .inl (cA 2, 100, .inl fun _ => 0))]
  refine bs_putF (ci := 5) (k := 1) (q0 := 0) (r := (RX5, TX5, 6)) (ty := .array .byte) rfl rfl rfl rfl rfl (fun _ _ _ _ h => h.1.1) rfl (by decide +kernel) rfl rfl (Nat.le_of_ble_eq_true rfl) ?_
  show BV _ _ _ _ _ 1 100 _ _ _ [(h0, .inr (5, [.int 0, .ref q1, .null, .int 0, .int 0, .int 0])), (q1, .inl (cA 2, 100, .inl fun _ => 0))]
  exact bs_ret rfl ⟨q1, rfl⟩
set_option maxRecDepth 100000 in
set_option maxHeartbeats 4000000 in
theorem c_X6_new : BC mX6_init { frames := 1, cells := 2, slots := 12, locals := 40 } 6 [.null, .null, .int 0, .int 0] [] (fun cA => []) (fun cA h0 ws => ∃ q1 q2 : Nat, ws = [(h0, .inr (6, [.ref q1, .ref q2, .int 0, .int 0])), (q1, .inl (cA 1, 6, .inl fun _ => 0)), (q2, .inl (cA 1, 6, .inl fun _ => 0))]) := by
  refine bc_of gX6_init rfl (Nat.le_of_ble_eq_true rfl) (fun D cA ex z0 h0 sz => ?_)
  show BV _ _ _ _ _ 0 0 0 [(0, .ref h0)] [] [(h0, .inr (6, [.null, .null, .int 0, .int 0]))]
  refine bs_aload_n (j := 0) (i := 0) rfl rfl rfl ?_
  refine bs_obj rfl (zinT 88 (by decide +kernel) rfl) (zinT 22 (by decide +kernel) rfl) (zinT 23 (by decide +kernel) rfl) (Nat.le_of_ble_eq_true rfl) (Nat.le_of_ble_eq_true rfl) (Nat.le_of_ble_eq_true rfl) ?_
  refine bs_aload_n (j := 0) (i := 0) rfl rfl rfl ?_
  refine bs_bipush (n := 6) (v := 6) rfl (by decide) ?_
  refine bs_newa (ty := .int) (t0 := 0) (N := 6) (a0 := (6, .inl fun _ => 0)) rfl (zinT 82 (by decide +kernel) rfl) rfl (by intro C z; cases z) rfl (fun c0 => rfl) (by decide) rfl (by decide) (Nat.le_of_ble_eq_true rfl) (Nat.le_of_ble_eq_true rfl) (fun q1 => ?_)
  show BV _ _ _ _ _ 1 6 _ _ _ [(h0, .inr (6, [.null, .null, .int 0, .int 0])), (q1, .inl (cA 1, 6, .inl fun _ => 0))]
  refine bs_putF (ci := 6) (k := 0) (q0 := 0) (r := (RX6, TX6, 4)) (ty := .array .int) rfl rfl rfl rfl rfl (fun _ _ _ _ h => h.1.1) rfl (by decide +kernel) rfl rfl (Nat.le_of_ble_eq_true rfl) ?_
  show BV _ _ _ _ _ 1 6 _ _ _ [(h0, .inr (6, [.ref q1, .null, .int 0, .int 0])), (q1, .inl (cA 1, 6, .inl fun _ => 0))]
  refine bs_aload_n (j := 0) (i := 0) rfl rfl rfl ?_
  refine bs_bipush (n := 6) (v := 6) rfl (by decide) ?_
  refine bs_newa (ty := .int) (t0 := 0) (N := 6) (a0 := (6, .inl fun _ => 0)) rfl (zinT 82 (by decide +kernel) rfl) rfl (by intro C z; cases z) rfl (fun c0 => rfl) (by decide) rfl (by decide) (Nat.le_of_ble_eq_true rfl) (Nat.le_of_ble_eq_true rfl) (fun q2 => ?_)
  show BV _ _ _ _ _ 2 12 _ _ _ [(h0, .inr (6, [.ref q1, .null, .int 0, .int 0])), (q1, .inl (cA 1, 6, .inl fun _ => 0)), (q2, .inl (cA 1, 6, .inl fun _ => 0))]
  refine bs_putF (ci := 6) (k := 1) (q0 := 0) (r := (RX6, TX6, 4)) (ty := .array .int) rfl rfl rfl rfl rfl (fun _ _ _ _ h => h.1.1) rfl (by decide +kernel) rfl rfl (Nat.le_of_ble_eq_true rfl) ?_
  show BV _ _ _ _ _ 2 12 _ _ _ [(h0, .inr (6, [.ref q1, .ref q2, .int 0, .int 0])), (q1, .inl (cA 1, 6, .inl fun _ => 0)), (q2, .inl (cA 1, 6, .inl fun _ => 0))]
  exact bs_ret rfl ⟨q1, q2, rfl⟩
/-- the neighbours of a ring of eight -/
def lay8 (j : Nat) : Int := if (j : Int) < 8 then ((zmk (fun o => nx 8 0 j o) (8 : Int).toNat : Nat) : Int) else 0
/-- a town's object (and the street that it holds) as cells of the machine -/
def ySt (D : va_G) (cA : Nat → ClassId) (ex : Nat → Nat) (ids : List (Nat × Nat)) (ad : Nat → Nat → Nat) : ZW := (D, cA, ids, ad, ex)
def gSt : ZG := fun f _ k => if f = 2 ∧ k = 11 then 6 else 0
def gSt2 : ZG := zlayF (zup (zup gSt 2 0 0 8) 2 0 1 0) 0 8 0 0
def idsOk (ids : List (Nat × Nat)) : Bool := ids.all (fun x => decide (x.1 = 2 ∨ x.1 = 3 ∨ x.1 = 20 ∨ (14 ≤ x.1 ∧ x.1 ≤ 19)) && (decide (x.1 = 3 ∨ x.1 = 20) || decide (x.2 = 0)) && (!decide (x.1 = 3) || decide (x.2 = 6))) && ids.contains (3, 6) && ids.contains (20, 6) && ids.contains (14, 0) && ids.contains (15, 0) && ids.contains (16, 0) && ids.contains (17, 0) && ids.contains (18, 0) && ids.contains (19, 0) && ids.contains (2, 0)
theorem idsOk_mem {ids : List (Nat × Nat)} (h : idsOk ids = true) : (∀ f i, (f, i) ∈ ids → (f = 2 ∨ f = 3 ∨ f = 20 ∨ (14 ≤ f ∧ f ≤ 19)) ∧ ((f = 3 ∨ f = 20) ∨ i = 0) ∧ (f = 3 → i = 6)) ∧ (3, 6) ∈ ids ∧ (20, 6) ∈ ids ∧ (14, 0) ∈ ids ∧ (15, 0) ∈ ids ∧ (16, 0) ∈ ids ∧ (17, 0) ∈ ids ∧ (18, 0) ∈ ids ∧ (19, 0) ∈ ids ∧ (2, 0) ∈ ids := by
  unfold idsOk at h
  simp only [Bool.and_eq_true, List.contains_iff_mem, List.all_eq_true] at h
  obtain ⟨⟨⟨⟨⟨⟨⟨⟨⟨h0, h1⟩, h2⟩, h3⟩, h4⟩, h5⟩, h6⟩, h7⟩, h8⟩, h9⟩ := h
  refine ⟨fun f i hm => ?_, h1, h2, h3, h4, h5, h6, h7, h8, h9⟩
  have := h0 (f, i) hm
  simp only [Bool.or_eq_true, decide_eq_true_eq, Bool.not_eq_true', decide_eq_false_iff_not] at this
  obtain ⟨⟨p1, p2⟩, p3⟩ := this
  exact ⟨p1, p2, fun z => p3.elim (fun w => absurd z w) id⟩
theorem ySt_wf {D : va_G} {cA : Nat → ClassId} {ex : Nat → Nat} {ids : List (Nat × Nat)} {ad : Nat → Nat → Nat} (h : idsOk ids = true) : zwf (ySt D cA ex ids ad) := by
  intro f i hm
  have h1 := ((idsOk_mem h).1 f i hm).1
  have hf : f = 2 ∨ f = 3 ∨ f = 20 ∨ f = 14 ∨ f = 15 ∨ f = 16 ∨ f = 17 ∨ f = 18 ∨ f = 19 := by omega
  rcases hf with rfl | rfl | rfl | rfl | rfl | rfl | rfl | rfl | rfl <;> exact ⟨by decide, fun z => absurd z (by decide), fun z => absurd z (by decide)⟩
theorem ySt_rg {D : va_G} {cA : Nat → ClassId} {ex : Nat → Nat} {ids : List (Nat × Nat)} {ad : Nat → Nat → Nat} (h : idsOk ids = true) : zrg (ySt D cA ex ids ad) gSt := by
  obtain ⟨h0, m3, m20, m14, m15, m16, m17, m18, m19, m2⟩ := idsOk_mem h
  intro f i hm
  have h1 := h0 f i hm
  have hz : ∀ k, -2147483648 ≤ gSt f i k ∧ gSt f i k < 2147483648 := by
    intro k
    unfold gSt
    split
    · exact ⟨by decide, by decide⟩
    · exact ⟨by decide, by decide⟩
  have hf : f = 2 ∨ f = 3 ∨ f = 20 ∨ f = 14 ∨ f = 15 ∨ f = 16 ∨ f = 17 ∨ f = 18 ∨ f = 19 := by omega
  rcases hf with rfl | rfl | rfl | rfl | rfl | rfl | rfl | rfl | rfl
  · have hi : i = 0 := by omega
    subst hi
    refine ⟨fun _ k hk => ?_, fun _ _ => trivial⟩
    have hk : k < 12 := hk
    have hkk : k = 0 ∨ k = 1 ∨ k = 2 ∨ k = 3 ∨ k = 4 ∨ k = 5 ∨ k = 6 ∨ k = 7 ∨ k = 8 ∨ k = 9 ∨ k = 10 ∨ k = 11 := by omega
    rcases hkk with rfl | rfl | rfl | rfl | rfl | rfl | rfl | rfl | rfl | rfl | rfl | rfl
    · exact ⟨by decide, by decide⟩
    · exact ⟨by decide, by decide⟩
    · exact m14
    · exact ⟨by decide, by decide⟩
    · exact m15
    · exact m16
    · exact m17
    · exact m18
    · exact ⟨by decide, by decide⟩
    · exact m19
    · exact ⟨by decide, by decide⟩
    · exact m3
  · have hi : i = 6 := h1.2.2 rfl
    subst hi
    refine ⟨fun _ k hk => ?_, fun _ _ => trivial⟩
    have hk : k < 3 := hk
    have hkk : k = 0 ∨ k = 1 ∨ k = 2 := by omega
    rcases hkk with rfl | rfl | rfl
    · exact m20
    · exact ⟨by decide, by decide⟩
    · exact ⟨by decide, by decide⟩
  all_goals exact ⟨fun z => absurd z (by decide), fun k hk => hz k⟩
theorem ySt_ok {D : va_G} {cA : Nat → ClassId} {ex : Nat → Nat} {ids : List (Nat × Nat)} {ad : Nat → Nat → Nat} (h : idsOk ids = true) : ∀ v, v ∈ [ZR 2 0, ZI 8, ZI 0] → zok (ySt D cA ex ids ad) v := by
  intro v hv
  have hv2 : v = ZR 2 0 ∨ v = ZI 8 ∨ v = ZI 0 := by simpa using hv
  rcases hv2 with rfl | rfl | rfl
  · exact (idsOk_mem h).2.2.2.2.2.2.2.2.2
  · exact ⟨by decide, by decide⟩
  · exact ⟨by decide, by decide⟩
theorem laySt : zlayF (zup (zup gSt 2 0 0 8) 2 0 1 0) 0 8 0 0 = fun (f i k : Nat) => if f = 14 ∧ i = 0 then lay8 k else if f = 2 ∧ k = 1 ∧ i = 0 then 0 else if f = 2 ∧ k = 0 ∧ i = 0 then 8 else gSt f i k := by
  funext f i k
  unfold zlayF zup lay8
  by_cases hf : f = 14 ∧ i = 0
  · rw [if_pos hf]
    by_cases hc : (k : Int) < 8
    · rw [if_pos ⟨hf.1, ⟨Nat.zero_le _, hc⟩, hf.2⟩, if_pos hc]
    · rw [if_neg (fun z => hc z.2.1.2), if_neg hc, if_neg (by omega), if_neg (by omega)]
      unfold gSt
      rw [if_neg (by omega)]
  · rw [if_neg (fun z => hf ⟨z.1, z.2.2⟩), if_neg hf]
set_option maxRecDepth 100000 in
set_option maxHeartbeats 4000000 in
theorem c_X2_new (a0 a1 : Nat) : BC mX2_init { frames := 3, cells := 6, slots := 44, locals := 120 } 2 [.int 0, .int 0, .null, .int 0, .null, .null, .null, .null, .int 0, .null, .int 0, .null] [.ref a0] (fun cA => [(a0, .inr (3, [.ref a1, .int 0, .int 0])), (a1, .inl (cA 1, 100, .inl fun _ => 0))]) (fun cA h0 ws => ∃ q1 q2 q3 q4 q5 q6 : Nat, ws = [(h0, .inr (2, [.int 8, .int 0, .ref q1, .int 0, .ref q2, .ref q3, .ref q4, .ref q5, .int 0, .ref q6, .int 0, .ref a0])), (a0, .inr (3, [.ref a1, .int 0, .int 0])), (a1, .inl (cA 1, 100, .inl fun _ => 0)), (q1, .inl (cA 1, 8, .inl fun j => Int32.ofInt (lay8 j))), (q2, .inl (cA 1, 6, .inl fun _ => 0)), (q3, .inl (cA 1, 6, .inl fun _ => 0)), (q4, .inl (cA 1, 6, .inl fun _ => 0)), (q5, .inl (cA 1, 6, .inl fun _ => 0)), (q6, .inl (cA 1, 12, .inl fun _ => 0))]) := by
  refine bc_of gX2_init rfl (Nat.le_of_ble_eq_true rfl) (fun D cA ex z0 h0 sz => ?_)
  show BV _ _ _ _ _ 0 0 0 [(0, .ref h0), (1, .ref a0)] [] [(h0, .inr (2, [.int 0, .int 0, .null, .int 0, .null, .null, .null, .null, .int 0, .null, .int 0, .null])), (a0, .inr (3, [.ref a1, .int 0, .int 0])), (a1, .inl (cA 1, 100, .inl fun _ => 0))]
  refine bs_aload_n (j := 0) (i := 0) rfl rfl rfl ?_
  refine bs_obj rfl (zinT 142 (by decide +kernel) rfl) (zinT 22 (by decide +kernel) rfl) (zinT 23 (by decide +kernel) rfl) (Nat.le_of_ble_eq_true rfl) (Nat.le_of_ble_eq_true rfl) (Nat.le_of_ble_eq_true rfl) ?_
  refine bs_aload_n (j := 0) (i := 0) rfl rfl rfl ?_
  refine bs_bipush (n := 8) (v := 8) rfl (by decide) ?_
  refine bs_newa (ty := .int) (t0 := 0) (N := 8) (a0 := (8, .inl fun _ => 0)) rfl (zinT 82 (by decide +kernel) rfl) rfl (by intro C z; cases z) rfl (fun c0 => rfl) (by decide) rfl (by decide) (Nat.le_of_ble_eq_true rfl) (Nat.le_of_ble_eq_true rfl) (fun q1 => ?_)
  show BV _ _ _ _ _ 1 8 _ _ _ [(h0, .inr (2, [.int 0, .int 0, .null, .int 0, .null, .null, .null, .null, .int 0, .null, .int 0, .null])), (a0, .inr (3, [.ref a1, .int 0, .int 0])), (a1, .inl (cA 1, 100, .inl fun _ => 0)), (q1, .inl (cA 1, 8, .inl fun _ => 0))]
  refine bs_putF (ci := 2) (k := 2) (q0 := 0) (r := (RX2, TX2, 12)) (ty := .array .int) rfl rfl rfl rfl rfl (fun _ _ _ _ h => h.1.1) rfl (by decide +kernel) rfl rfl (Nat.le_of_ble_eq_true rfl) ?_
  show BV _ _ _ _ _ 1 8 _ _ _ [(h0, .inr (2, [.int 0, .int 0, .ref q1, .int 0, .null, .null, .null, .null, .int 0, .null, .int 0, .null])), (a0, .inr (3, [.ref a1, .int 0, .int 0])), (a1, .inl (cA 1, 100, .inl fun _ => 0)), (q1, .inl (cA 1, 8, .inl fun _ => 0))]
  refine bs_aload_n (j := 0) (i := 0) rfl rfl rfl ?_
  refine bs_bipush (n := 6) (v := 6) rfl (by decide) ?_
  refine bs_newa (ty := .int) (t0 := 0) (N := 6) (a0 := (6, .inl fun _ => 0)) rfl (zinT 82 (by decide +kernel) rfl) rfl (by intro C z; cases z) rfl (fun c0 => rfl) (by decide) rfl (by decide) (Nat.le_of_ble_eq_true rfl) (Nat.le_of_ble_eq_true rfl) (fun q2 => ?_)
  show BV _ _ _ _ _ 2 14 _ _ _ [(h0, .inr (2, [.int 0, .int 0, .ref q1, .int 0, .null, .null, .null, .null, .int 0, .null, .int 0, .null])), (a0, .inr (3, [.ref a1, .int 0, .int 0])), (a1, .inl (cA 1, 100, .inl fun _ => 0)), (q1, .inl (cA 1, 8, .inl fun _ => 0)), (q2, .inl (cA 1, 6, .inl fun _ => 0))]
  refine bs_putF (ci := 2) (k := 4) (q0 := 0) (r := (RX2, TX2, 12)) (ty := .array .int) rfl rfl rfl rfl rfl (fun _ _ _ _ h => h.1.1) rfl (by decide +kernel) rfl rfl (Nat.le_of_ble_eq_true rfl) ?_
  show BV _ _ _ _ _ 2 14 _ _ _ [(h0, .inr (2, [.int 0, .int 0, .ref q1, .int 0, .ref q2, .null, .null, .null, .int 0, .null, .int 0, .null])), (a0, .inr (3, [.ref a1, .int 0, .int 0])), (a1, .inl (cA 1, 100, .inl fun _ => 0)), (q1, .inl (cA 1, 8, .inl fun _ => 0)), (q2, .inl (cA 1, 6, .inl fun _ => 0))]
  refine bs_aload_n (j := 0) (i := 0) rfl rfl rfl ?_
  refine bs_bipush (n := 6) (v := 6) rfl (by decide) ?_
  refine bs_newa (ty := .int) (t0 := 0) (N := 6) (a0 := (6, .inl fun _ => 0)) rfl (zinT 82 (by decide +kernel) rfl) rfl (by intro C z; cases z) rfl (fun c0 => rfl) (by decide) rfl (by decide) (Nat.le_of_ble_eq_true rfl) (Nat.le_of_ble_eq_true rfl) (fun q3 => ?_)
  show BV _ _ _ _ _ 3 20 _ _ _ [(h0, .inr (2, [.int 0, .int 0, .ref q1, .int 0, .ref q2, .null, .null, .null, .int 0, .null, .int 0, .null])), (a0, .inr (3, [.ref a1, .int 0, .int 0])), (a1, .inl (cA 1, 100, .inl fun _ => 0)), (q1, .inl (cA 1, 8, .inl fun _ => 0)), (q2, .inl (cA 1, 6, .inl fun _ => 0)), (q3, .inl (cA 1, 6, .inl fun _ => 0))]
  refine bs_putF (ci := 2) (k := 5) (q0 := 0) (r := (RX2, TX2, 12)) (ty := .array .int) rfl rfl rfl rfl rfl (fun _ _ _ _ h => h.1.1) rfl (by decide +kernel) rfl rfl (Nat.le_of_ble_eq_true rfl) ?_
  show BV _ _ _ _ _ 3 20 _ _ _ [(h0, .inr (2, [.int 0, .int 0, .ref q1, .int 0, .ref q2, .ref q3, .null, .null, .int 0, .null, .int 0, .null])), (a0, .inr (3, [.ref a1, .int 0, .int 0])), (a1, .inl (cA 1, 100, .inl fun _ => 0)), (q1, .inl (cA 1, 8, .inl fun _ => 0)), (q2, .inl (cA 1, 6, .inl fun _ => 0)), (q3, .inl (cA 1, 6, .inl fun _ => 0))]
  refine bs_aload_n (j := 0) (i := 0) rfl rfl rfl ?_
  refine bs_bipush (n := 6) (v := 6) rfl (by decide) ?_
  refine bs_newa (ty := .int) (t0 := 0) (N := 6) (a0 := (6, .inl fun _ => 0)) rfl (zinT 82 (by decide +kernel) rfl) rfl (by intro C z; cases z) rfl (fun c0 => rfl) (by decide) rfl (by decide) (Nat.le_of_ble_eq_true rfl) (Nat.le_of_ble_eq_true rfl) (fun q4 => ?_)
  show BV _ _ _ _ _ 4 26 _ _ _ [(h0, .inr (2, [.int 0, .int 0, .ref q1, .int 0, .ref q2, .ref q3, .null, .null, .int 0, .null, .int 0, .null])), (a0, .inr (3, [.ref a1, .int 0, .int 0])), (a1, .inl (cA 1, 100, .inl fun _ => 0)), (q1, .inl (cA 1, 8, .inl fun _ => 0)), (q2, .inl (cA 1, 6, .inl fun _ => 0)), (q3, .inl (cA 1, 6, .inl fun _ => 0)), (q4, .inl (cA 1, 6, .inl fun _ => 0))]
  refine bs_putF (ci := 2) (k := 6) (q0 := 0) (r := (RX2, TX2, 12)) (ty := .array .int) rfl rfl rfl rfl rfl (fun _ _ _ _ h => h.1.1) rfl (by decide +kernel) rfl rfl (Nat.le_of_ble_eq_true rfl) ?_
  show BV _ _ _ _ _ 4 26 _ _ _ [(h0, .inr (2, [.int 0, .int 0, .ref q1, .int 0, .ref q2, .ref q3, .ref q4, .null, .int 0, .null, .int 0, .null])), (a0, .inr (3, [.ref a1, .int 0, .int 0])), (a1, .inl (cA 1, 100, .inl fun _ => 0)), (q1, .inl (cA 1, 8, .inl fun _ => 0)), (q2, .inl (cA 1, 6, .inl fun _ => 0)), (q3, .inl (cA 1, 6, .inl fun _ => 0)), (q4, .inl (cA 1, 6, .inl fun _ => 0))]
  refine bs_aload_n (j := 0) (i := 0) rfl rfl rfl ?_
  refine bs_bipush (n := 6) (v := 6) rfl (by decide) ?_
  refine bs_newa (ty := .int) (t0 := 0) (N := 6) (a0 := (6, .inl fun _ => 0)) rfl (zinT 82 (by decide +kernel) rfl) rfl (by intro C z; cases z) rfl (fun c0 => rfl) (by decide) rfl (by decide) (Nat.le_of_ble_eq_true rfl) (Nat.le_of_ble_eq_true rfl) (fun q5 => ?_)
  show BV _ _ _ _ _ 5 32 _ _ _ [(h0, .inr (2, [.int 0, .int 0, .ref q1, .int 0, .ref q2, .ref q3, .ref q4, .null, .int 0, .null, .int 0, .null])), (a0, .inr (3, [.ref a1, .int 0, .int 0])), (a1, .inl (cA 1, 100, .inl fun _ => 0)), (q1, .inl (cA 1, 8, .inl fun _ => 0)), (q2, .inl (cA 1, 6, .inl fun _ => 0)), (q3, .inl (cA 1, 6, .inl fun _ => 0)), (q4, .inl (cA 1, 6, .inl fun _ => 0)), (q5, .inl (cA 1, 6, .inl fun _ => 0))]
  refine bs_putF (ci := 2) (k := 7) (q0 := 0) (r := (RX2, TX2, 12)) (ty := .array .int) rfl rfl rfl rfl rfl (fun _ _ _ _ h => h.1.1) rfl (by decide +kernel) rfl rfl (Nat.le_of_ble_eq_true rfl) ?_
  show BV _ _ _ _ _ 5 32 _ _ _ [(h0, .inr (2, [.int 0, .int 0, .ref q1, .int 0, .ref q2, .ref q3, .ref q4, .ref q5, .int 0, .null, .int 0, .null])), (a0, .inr (3, [.ref a1, .int 0, .int 0])), (a1, .inl (cA 1, 100, .inl fun _ => 0)), (q1, .inl (cA 1, 8, .inl fun _ => 0)), (q2, .inl (cA 1, 6, .inl fun _ => 0)), (q3, .inl (cA 1, 6, .inl fun _ => 0)), (q4, .inl (cA 1, 6, .inl fun _ => 0)), (q5, .inl (cA 1, 6, .inl fun _ => 0))]
  refine bs_aload_n (j := 0) (i := 0) rfl rfl rfl ?_
  refine bs_bipush (n := 12) (v := 12) rfl (by decide) ?_
  refine bs_newa (ty := .int) (t0 := 0) (N := 12) (a0 := (12, .inl fun _ => 0)) rfl (zinT 82 (by decide +kernel) rfl) rfl (by intro C z; cases z) rfl (fun c0 => rfl) (by decide) rfl (by decide) (Nat.le_of_ble_eq_true rfl) (Nat.le_of_ble_eq_true rfl) (fun q6 => ?_)
  show BV _ _ _ _ _ 6 44 _ _ _ [(h0, .inr (2, [.int 0, .int 0, .ref q1, .int 0, .ref q2, .ref q3, .ref q4, .ref q5, .int 0, .null, .int 0, .null])), (a0, .inr (3, [.ref a1, .int 0, .int 0])), (a1, .inl (cA 1, 100, .inl fun _ => 0)), (q1, .inl (cA 1, 8, .inl fun _ => 0)), (q2, .inl (cA 1, 6, .inl fun _ => 0)), (q3, .inl (cA 1, 6, .inl fun _ => 0)), (q4, .inl (cA 1, 6, .inl fun _ => 0)), (q5, .inl (cA 1, 6, .inl fun _ => 0)), (q6, .inl (cA 1, 12, .inl fun _ => 0))]
  refine bs_putF (ci := 2) (k := 9) (q0 := 0) (r := (RX2, TX2, 12)) (ty := .array .int) rfl rfl rfl rfl rfl (fun _ _ _ _ h => h.1.1) rfl (by decide +kernel) rfl rfl (Nat.le_of_ble_eq_true rfl) ?_
  show BV _ _ _ _ _ 6 44 _ _ _ [(h0, .inr (2, [.int 0, .int 0, .ref q1, .int 0, .ref q2, .ref q3, .ref q4, .ref q5, .int 0, .ref q6, .int 0, .null])), (a0, .inr (3, [.ref a1, .int 0, .int 0])), (a1, .inl (cA 1, 100, .inl fun _ => 0)), (q1, .inl (cA 1, 8, .inl fun _ => 0)), (q2, .inl (cA 1, 6, .inl fun _ => 0)), (q3, .inl (cA 1, 6, .inl fun _ => 0)), (q4, .inl (cA 1, 6, .inl fun _ => 0)), (q5, .inl (cA 1, 6, .inl fun _ => 0)), (q6, .inl (cA 1, 12, .inl fun _ => 0))]
  refine bs_aload_n (j := 0) (i := 0) rfl rfl rfl ?_
  refine bs_aload_n (j := 1) (i := 1) rfl rfl rfl ?_
  refine bs_put (ci := 2) (k := 11) (q0 := 0) (r := (RX2, TX2, 12)) (ty := .object "ThirdAlike$Street") rfl rfl rfl rfl rfl (by decide +kernel) rfl rfl (Nat.le_of_ble_eq_true rfl) ?_
  show BV _ _ _ _ _ 6 44 _ _ _ [(h0, .inr (2, [.int 0, .int 0, .ref q1, .int 0, .ref q2, .ref q3, .ref q4, .ref q5, .int 0, .ref q6, .int 0, .ref a0])), (a0, .inr (3, [.ref a1, .int 0, .int 0])), (a1, .inl (cA 1, 100, .inl fun _ => 0)), (q1, .inl (cA 1, 8, .inl fun _ => 0)), (q2, .inl (cA 1, 6, .inl fun _ => 0)), (q3, .inl (cA 1, 6, .inl fun _ => 0)), (q4, .inl (cA 1, 6, .inl fun _ => 0)), (q5, .inl (cA 1, 6, .inl fun _ => 0)), (q6, .inl (cA 1, 12, .inl fun _ => 0))]
  refine bs_aload_n (j := 0) (i := 0) rfl rfl rfl ?_
  refine bs_bipush (n := 8) (v := 8) rfl (by decide) ?_
  refine bs_iconst (n := 0) (v := 0) rfl (by decide) ?_
  have eW : ([(h0, .inr (2, [.int 0, .int 0, .ref q1, .int 0, .ref q2, .ref q3, .ref q4, .ref q5, .int 0, .ref q6, .int 0, .ref a0])), (a0, .inr (3, [.ref a1, .int 0, .int 0])), (a1, .inl (cA 1, 100, .inl fun _ => 0)), (q1, .inl (cA 1, 8, .inl fun _ => 0)), (q2, .inl (cA 1, 6, .inl fun _ => 0)), (q3, .inl (cA 1, 6, .inl fun _ => 0)), (q4, .inl (cA 1, 6, .inl fun _ => 0)), (q5, .inl (cA 1, 6, .inl fun _ => 0)), (q6, .inl (cA 1, 12, .inl fun _ => 0))] : va_W) = zws (ySt D cA ex [(2, 0), (3, 6), (20, 6), (14, 0), (15, 0), (16, 0), (17, 0), (18, 0), (19, 0)] (fun f _ => if f = 2 then h0 else if f = 3 then a0 else if f = 20 then a1 else if f = 14 then q1 else if f = 15 then q2 else if f = 16 then q3 else if f = 17 then q4 else if f = 18 then q5 else if f = 19 then q6 else 0)) gSt := rfl
  refine bs_zcall (Y := ySt D cA ex [(2, 0), (3, 6), (20, 6), (14, 0), (15, 0), (16, 0), (17, 0), (18, 0), (19, 0)] (fun f _ => if f = 2 then h0 else if f = 3 then a0 else if f = 20 then a1 else if f = 14 then q1 else if f = 15 then q2 else if f = 16 then q3 else if f = 17 then q4 else if f = 18 then q5 else if f = 19 then q6 else 0)) (g := gSt) (f := 2) (q := 0) (As := [ZI 8, ZI 0]) (ws := [(h0, .inr (2, [.int 0, .int 0, .ref q1, .int 0, .ref q2, .ref q3, .ref q4, .ref q5, .int 0, .ref q6, .int 0, .ref a0])), (a0, .inr (3, [.ref a1, .int 0, .int 0])), (a1, .inl (cA 1, 100, .inl fun _ => 0)), (q1, .inl (cA 1, 8, .inl fun _ => 0)), (q2, .inl (cA 1, 6, .inl fun _ => 0)), (q3, .inl (cA 1, 6, .inl fun _ => 0)), (q4, .inl (cA 1, 6, .inl fun _ => 0)), (q5, .inl (cA 1, 6, .inl fun _ => 0)), (q6, .inl (cA 1, 12, .inl fun _ => 0))]) (wr := []) [0, 1, 2, 3, 4, 5, 6, 7, 8] [] rfl kX2_34 vX2_layOut (c_X2_layOut 0 8 0) (bkc _ _ _ _ _ _ _) rfl rfl rfl (ySt_wf (by decide)) (ySt_rg (by decide)) (ySt_ok (by decide)) ⟨rfl, by decide, by decide⟩ (by rw [← eW]; rfl) (by rw [← eW]; rfl) (by decide) rfl rfl (by decide) ⟨(Nat.le_of_ble_eq_true rfl), (Nat.le_of_ble_eq_true rfl)⟩ ⟨(Nat.le_of_ble_eq_true rfl), (Nat.le_of_ble_eq_true rfl)⟩ rfl (Nat.le_of_ble_eq_true rfl) rfl (fun g2 hg _ => ?_) (fun r g2 h => h.1)
  obtain ⟨_, rfl⟩ := hg
  show BV _ _ _ _ _ 6 44 _ _ _ (zws (ySt D cA ex [(2, 0), (3, 6), (20, 6), (14, 0), (15, 0), (16, 0), (17, 0), (18, 0), (19, 0)] (fun f _ => if f = 2 then h0 else if f = 3 then a0 else if f = 20 then a1 else if f = 14 then q1 else if f = 15 then q2 else if f = 16 then q3 else if f = 17 then q4 else if f = 18 then q5 else if f = 19 then q6 else 0)) gSt2)
  rw [show zws (ySt D cA ex [(2, 0), (3, 6), (20, 6), (14, 0), (15, 0), (16, 0), (17, 0), (18, 0), (19, 0)] (fun f _ => if f = 2 then h0 else if f = 3 then a0 else if f = 20 then a1 else if f = 14 then q1 else if f = 15 then q2 else if f = 16 then q3 else if f = 17 then q4 else if f = 18 then q5 else if f = 19 then q6 else 0)) gSt2 = [(h0, .inr (2, [.int 8, .int 0, .ref q1, .int 0, .ref q2, .ref q3, .ref q4, .ref q5, .int 0, .ref q6, .int 0, .ref a0])), (a0, .inr (3, [.ref a1, .int 0, .int 0])), (a1, .inl (cA 1, 100, .inl fun _ => 0)), (q1, .inl (cA 1, 8, .inl fun j => Int32.ofInt (lay8 j))), (q2, .inl (cA 1, 6, .inl fun _ => 0)), (q3, .inl (cA 1, 6, .inl fun _ => 0)), (q4, .inl (cA 1, 6, .inl fun _ => 0)), (q5, .inl (cA 1, 6, .inl fun _ => 0)), (q6, .inl (cA 1, 12, .inl fun _ => 0))] from by unfold gSt2; rw [laySt]; rfl]
  exact bs_ret rfl ⟨q1, q2, q3, q4, q5, q6, rfl⟩
set_option maxRecDepth 100000 in
set_option maxHeartbeats 4000000 in
theorem c_X1_new (a0 a1 : Nat) : BC mX1_init { frames := 4, cells := 10, slots := 1214, locals := 152 } 1 [.null, .int 0, .null, .int 0, .int 0, .int 0, .null, .null, .int 0] [.ref a0] (fun cA => [(a0, .inr (3, [.ref a1, .int 0, .int 0])), (a1, .inl (cA 1, 100, .inl fun _ => 0))]) (fun cA h0 ws => ∃ q1 q2 q3 q4 q5 q6 q7 q8 q9 q10 : Nat, ws = [(h0, .inr (1, [.ref q4, .int (-1), .ref q1, .int 0, .int 0, .int 0, .ref q2, .ref q3, .int 0])), (q1, .inl (cA 1, 6, .inl fun _ => 0)), (q2, .inl (cA 1, 864, .inl fun _ => 0)), (q3, .inl (cA 1, 288, .inl fun _ => 0)), (q4, .inr (2, [.int 8, .int 0, .ref q5, .int 0, .ref q6, .ref q7, .ref q8, .ref q9, .int 0, .ref q10, .int 0, .ref a0])), (a0, .inr (3, [.ref a1, .int 0, .int 0])), (a1, .inl (cA 1, 100, .inl fun _ => 0)), (q5, .inl (cA 1, 8, .inl fun j => Int32.ofInt (lay8 j))), (q6, .inl (cA 1, 6, .inl fun _ => 0)), (q7, .inl (cA 1, 6, .inl fun _ => 0)), (q8, .inl (cA 1, 6, .inl fun _ => 0)), (q9, .inl (cA 1, 6, .inl fun _ => 0)), (q10, .inl (cA 1, 12, .inl fun _ => 0))]) := by
  refine bc_of gX1_init rfl (Nat.le_of_ble_eq_true rfl) (fun D cA ex z0 h0 sz => ?_)
  show BV _ _ _ _ _ 0 0 0 [(0, .ref h0), (1, .ref a0)] [] [(h0, .inr (1, [.null, .int 0, .null, .int 0, .int 0, .int 0, .null, .null, .int 0])), (a0, .inr (3, [.ref a1, .int 0, .int 0])), (a1, .inl (cA 1, 100, .inl fun _ => 0))]
  refine bs_aload_n (j := 0) (i := 0) rfl rfl rfl ?_
  refine bs_obj rfl (zinT 219 (by decide +kernel) rfl) (zinT 22 (by decide +kernel) rfl) (zinT 23 (by decide +kernel) rfl) (Nat.le_of_ble_eq_true rfl) (Nat.le_of_ble_eq_true rfl) (Nat.le_of_ble_eq_true rfl) ?_
  refine bs_aload_n (j := 0) (i := 0) rfl rfl rfl ?_
  refine bs_iconst (n := (-1)) (v := (-1)) rfl (by decide) ?_
  refine bs_put (ci := 1) (k := 1) (q0 := 0) (r := (RX1, TX1, 9)) (ty := .int) rfl rfl rfl rfl rfl (by decide +kernel) rfl rfl (Nat.le_of_ble_eq_true rfl) ?_
  show BV _ _ _ _ _ 0 0 _ _ _ [(h0, .inr (1, [.null, .int (-1), .null, .int 0, .int 0, .int 0, .null, .null, .int 0])), (a0, .inr (3, [.ref a1, .int 0, .int 0])), (a1, .inl (cA 1, 100, .inl fun _ => 0))]
  refine bs_aload_n (j := 0) (i := 0) rfl rfl rfl ?_
  refine bs_bipush (n := 6) (v := 6) rfl (by decide) ?_
  refine bs_newa (ty := .int) (t0 := 0) (N := 6) (a0 := (6, .inl fun _ => 0)) rfl (zinT 82 (by decide +kernel) rfl) rfl (by intro C z; cases z) rfl (fun c0 => rfl) (by decide) rfl (by decide) (Nat.le_of_ble_eq_true rfl) (Nat.le_of_ble_eq_true rfl) (fun q1 => ?_)
  show BV _ _ _ _ _ 1 6 _ _ _ [(h0, .inr (1, [.null, .int (-1), .null, .int 0, .int 0, .int 0, .null, .null, .int 0])), (a0, .inr (3, [.ref a1, .int 0, .int 0])), (a1, .inl (cA 1, 100, .inl fun _ => 0)), (q1, .inl (cA 1, 6, .inl fun _ => 0))]
  refine bs_putF (ci := 1) (k := 2) (q0 := 0) (r := (RX1, TX1, 9)) (ty := .array .int) rfl rfl rfl rfl rfl (fun _ _ _ _ h => h.1.1) rfl (by decide +kernel) rfl rfl (Nat.le_of_ble_eq_true rfl) ?_
  show BV _ _ _ _ _ 1 6 _ _ _ [(h0, .inr (1, [.null, .int (-1), .ref q1, .int 0, .int 0, .int 0, .null, .null, .int 0])), (a0, .inr (3, [.ref a1, .int 0, .int 0])), (a1, .inl (cA 1, 100, .inl fun _ => 0)), (q1, .inl (cA 1, 6, .inl fun _ => 0))]
  refine bs_aload_n (j := 0) (i := 0) rfl rfl rfl ?_
  refine bs_sipush (n := 864) (v := 864) rfl (by decide) ?_
  refine bs_newa (ty := .int) (t0 := 0) (N := 864) (a0 := (864, .inl fun _ => 0)) rfl (zinT 82 (by decide +kernel) rfl) rfl (by intro C z; cases z) rfl (fun c0 => rfl) (by decide) rfl (by decide) (Nat.le_of_ble_eq_true rfl) (Nat.le_of_ble_eq_true rfl) (fun q2 => ?_)
  show BV _ _ _ _ _ 2 870 _ _ _ [(h0, .inr (1, [.null, .int (-1), .ref q1, .int 0, .int 0, .int 0, .null, .null, .int 0])), (a0, .inr (3, [.ref a1, .int 0, .int 0])), (a1, .inl (cA 1, 100, .inl fun _ => 0)), (q1, .inl (cA 1, 6, .inl fun _ => 0)), (q2, .inl (cA 1, 864, .inl fun _ => 0))]
  refine bs_putF (ci := 1) (k := 6) (q0 := 0) (r := (RX1, TX1, 9)) (ty := .array .int) rfl rfl rfl rfl rfl (fun _ _ _ _ h => h.1.1) rfl (by decide +kernel) rfl rfl (Nat.le_of_ble_eq_true rfl) ?_
  show BV _ _ _ _ _ 2 870 _ _ _ [(h0, .inr (1, [.null, .int (-1), .ref q1, .int 0, .int 0, .int 0, .ref q2, .null, .int 0])), (a0, .inr (3, [.ref a1, .int 0, .int 0])), (a1, .inl (cA 1, 100, .inl fun _ => 0)), (q1, .inl (cA 1, 6, .inl fun _ => 0)), (q2, .inl (cA 1, 864, .inl fun _ => 0))]
  refine bs_aload_n (j := 0) (i := 0) rfl rfl rfl ?_
  refine bs_sipush (n := 288) (v := 288) rfl (by decide) ?_
  refine bs_newa (ty := .int) (t0 := 0) (N := 288) (a0 := (288, .inl fun _ => 0)) rfl (zinT 82 (by decide +kernel) rfl) rfl (by intro C z; cases z) rfl (fun c0 => rfl) (by decide) rfl (by decide) (Nat.le_of_ble_eq_true rfl) (Nat.le_of_ble_eq_true rfl) (fun q3 => ?_)
  show BV _ _ _ _ _ 3 1158 _ _ _ [(h0, .inr (1, [.null, .int (-1), .ref q1, .int 0, .int 0, .int 0, .ref q2, .null, .int 0])), (a0, .inr (3, [.ref a1, .int 0, .int 0])), (a1, .inl (cA 1, 100, .inl fun _ => 0)), (q1, .inl (cA 1, 6, .inl fun _ => 0)), (q2, .inl (cA 1, 864, .inl fun _ => 0)), (q3, .inl (cA 1, 288, .inl fun _ => 0))]
  refine bs_putF (ci := 1) (k := 7) (q0 := 0) (r := (RX1, TX1, 9)) (ty := .array .int) rfl rfl rfl rfl rfl (fun _ _ _ _ h => h.1.1) rfl (by decide +kernel) rfl rfl (Nat.le_of_ble_eq_true rfl) ?_
  show BV _ _ _ _ _ 3 1158 _ _ _ [(h0, .inr (1, [.null, .int (-1), .ref q1, .int 0, .int 0, .int 0, .ref q2, .ref q3, .int 0])), (a0, .inr (3, [.ref a1, .int 0, .int 0])), (a1, .inl (cA 1, 100, .inl fun _ => 0)), (q1, .inl (cA 1, 6, .inl fun _ => 0)), (q2, .inl (cA 1, 864, .inl fun _ => 0)), (q3, .inl (cA 1, 288, .inl fun _ => 0))]
  refine bs_aload_n (j := 0) (i := 0) rfl rfl rfl ?_
  refine bs_new (ci := 2) (r := (RX2, TX2, 12)) (fs := [.int 0, .int 0, .null, .int 0, .null, .null, .null, .null, .int 0, .null, .int 0, .null]) tyX2 tyX2_ok rfl rfl (zinT 220 (by decide +kernel) rfl) (zinT 138 (by decide +kernel) rfl) (zinT 7 (by decide +kernel) rfl) (fun j hj => by have hj : j < 12 := hj; rcases (show j = 0 ∨ j = 1 ∨ j = 2 ∨ j = 3 ∨ j = 4 ∨ j = 5 ∨ j = 6 ∨ j = 7 ∨ j = 8 ∨ j = 9 ∨ j = 10 ∨ j = 11 by omega) with rfl | rfl | rfl | rfl | rfl | rfl | rfl | rfl | rfl | rfl | rfl | rfl <;> rfl) (Nat.le_of_ble_eq_true rfl) (Nat.le_of_ble_eq_true rfl) (fun q4 => ?_)
  show BV _ _ _ _ _ 4 1170 _ _ _ [(h0, .inr (1, [.null, .int (-1), .ref q1, .int 0, .int 0, .int 0, .ref q2, .ref q3, .int 0])), (a0, .inr (3, [.ref a1, .int 0, .int 0])), (a1, .inl (cA 1, 100, .inl fun _ => 0)), (q1, .inl (cA 1, 6, .inl fun _ => 0)), (q2, .inl (cA 1, 864, .inl fun _ => 0)), (q3, .inl (cA 1, 288, .inl fun _ => 0)), (q4, .inr (2, [.int 0, .int 0, .null, .int 0, .null, .null, .null, .null, .int 0, .null, .int 0, .null]))]
  refine bs_dup rfl rfl ?_
  refine bs_aload_n (j := 1) (i := 1) rfl rfl rfl ?_
  refine bs_call (M' := mX2_init) (As := [.ref a0]) (wr := [(h0, .inr (1, [.null, .int (-1), .ref q1, .int 0, .int 0, .int 0, .ref q2, .ref q3, .int 0])), (q1, .inl (cA 1, 6, .inl fun _ => 0)), (q2, .inl (cA 1, 864, .inl fun _ => 0)), (q3, .inl (cA 1, 288, .inl fun _ => 0))]) [6, 1, 2] [0, 3, 4, 5] rfl (c_X2_new a0 a1) (bkc _ _ _ _ _ _ _) rfl rfl rfl rfl rfl (by decide) (zinT 221 (by decide +kernel) rfl) (zinT 7 (by decide +kernel) rfl) (zinT 140 (by decide +kernel) rfl) cX2_init_in rfl ⟨by decide, by decide, (show (parseMethodDescriptor (zy mX2_init).desc).map (fun d => d.parameters.length) = some 1 by decide +kernel)⟩ ⟨(Nat.le_of_ble_eq_true rfl), (Nat.le_of_ble_eq_true rfl)⟩ ⟨(Nat.le_of_ble_eq_true rfl), (Nat.le_of_ble_eq_true rfl)⟩ (Nat.le_of_ble_eq_true rfl) rfl (fun ws2 hp => ?_)
  obtain ⟨q5, q6, q7, q8, q9, q10, rfl⟩ := hp
  show BV _ _ _ _ _ 10 1214 _ _ _ [(h0, .inr (1, [.null, .int (-1), .ref q1, .int 0, .int 0, .int 0, .ref q2, .ref q3, .int 0])), (q1, .inl (cA 1, 6, .inl fun _ => 0)), (q2, .inl (cA 1, 864, .inl fun _ => 0)), (q3, .inl (cA 1, 288, .inl fun _ => 0)), (q4, .inr (2, [.int 8, .int 0, .ref q5, .int 0, .ref q6, .ref q7, .ref q8, .ref q9, .int 0, .ref q10, .int 0, .ref a0])), (a0, .inr (3, [.ref a1, .int 0, .int 0])), (a1, .inl (cA 1, 100, .inl fun _ => 0)), (q5, .inl (cA 1, 8, .inl fun j => Int32.ofInt (lay8 j))), (q6, .inl (cA 1, 6, .inl fun _ => 0)), (q7, .inl (cA 1, 6, .inl fun _ => 0)), (q8, .inl (cA 1, 6, .inl fun _ => 0)), (q9, .inl (cA 1, 6, .inl fun _ => 0)), (q10, .inl (cA 1, 12, .inl fun _ => 0))]
  refine bs_putF (ci := 1) (k := 0) (q0 := 0) (r := (RX1, TX1, 9)) (ty := .object "ThirdAlike$State") rfl rfl rfl rfl rfl (fun _ _ _ _ h => h.1.1) rfl (by decide +kernel) rfl rfl (Nat.le_of_ble_eq_true rfl) ?_
  show BV _ _ _ _ _ 10 1214 _ _ _ [(h0, .inr (1, [.ref q4, .int (-1), .ref q1, .int 0, .int 0, .int 0, .ref q2, .ref q3, .int 0])), (q1, .inl (cA 1, 6, .inl fun _ => 0)), (q2, .inl (cA 1, 864, .inl fun _ => 0)), (q3, .inl (cA 1, 288, .inl fun _ => 0)), (q4, .inr (2, [.int 8, .int 0, .ref q5, .int 0, .ref q6, .ref q7, .ref q8, .ref q9, .int 0, .ref q10, .int 0, .ref a0])), (a0, .inr (3, [.ref a1, .int 0, .int 0])), (a1, .inl (cA 1, 100, .inl fun _ => 0)), (q5, .inl (cA 1, 8, .inl fun j => Int32.ofInt (lay8 j))), (q6, .inl (cA 1, 6, .inl fun _ => 0)), (q7, .inl (cA 1, 6, .inl fun _ => 0)), (q8, .inl (cA 1, 6, .inl fun _ => 0)), (q9, .inl (cA 1, 6, .inl fun _ => 0)), (q10, .inl (cA 1, 12, .inl fun _ => 0))]
  exact bs_ret rfl ⟨q1, q2, q3, q4, q5, q6, q7, q8, q9, q10, rfl⟩
