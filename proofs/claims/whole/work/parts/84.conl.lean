/-! the small constructors -/
set_option maxRecDepth 100000 in
set_option maxHeartbeats 4000000 in
theorem c_X0_new : BC mX0_init { frames := 1, cells := 1, slots := 20, locals := 40 } 0 [.int 0, .int 0, .int 0, .int 0, .null] [] (fun cA => []) (fun cA h0 ws => ∃ q1 : Nat, ws = [(h0, .inr (0, [.int 0, .int 0, .int 0, .int 0, .ref q1])), (q1, .inl (cA 1, 20, .inl fun _ => 0))]) := by
  refine bc_of gX0_init rfl (by decide) (fun D cA ex z0 h0 sz => ?_)
  show BV _ _ _ _ _ 0 0 0 [(0, .ref h0)] [] [(h0, .inr (0, [.int 0, .int 0, .int 0, .int 0, .null]))]
  refine bs_aload_n (j := 0) (i := 0) rfl rfl rfl ?_
  refine bs_obj rfl (zinT 60 (by decide +kernel) rfl) (zinT 22 (by decide +kernel) rfl) (zinT 23 (by decide +kernel) rfl) (Nat.le_of_ble_eq_true rfl) (Nat.le_of_ble_eq_true rfl) (Nat.le_of_ble_eq_true rfl) ?_
  refine bs_aload_n (j := 0) (i := 0) rfl rfl rfl ?_
  refine bs_bipush (n := 20) (v := 20) rfl (by decide) ?_
  refine bs_newa (ty := .int) (t0 := 0) (N := 20) (a0 := (20, .inl fun _ => 0)) rfl (zinT 82 (by decide +kernel) rfl) rfl (by intro C z; cases z) rfl (fun c0 => rfl) (by decide) rfl (by decide) (Nat.le_of_ble_eq_true rfl) (Nat.le_of_ble_eq_true rfl) (fun q1 => ?_)
  show BV _ _ _ _ _ 1 20 _ _ _ [(h0, .inr (0, [.int 0, .int 0, .int 0, .int 0, .null])), (q1, .inl (cA 1, 20, .inl fun _ => 0))]
  refine bs_putF (ci := 0) (k := 4) (q0 := 0) (r := (RX0, TX0, 5)) (ty := .array .int) rfl rfl rfl rfl rfl (fun _ _ _ _ h => h.1.1) rfl (by decide +kernel) rfl rfl (Nat.le_of_ble_eq_true rfl) ?_
  show BV _ _ _ _ _ 1 20 _ _ _ [(h0, .inr (0, [.int 0, .int 0, .int 0, .int 0, .ref q1])), (q1, .inl (cA 1, 20, .inl fun _ => 0))]
  exact bs_ret rfl ⟨q1, rfl⟩
set_option maxRecDepth 100000 in
set_option maxHeartbeats 4000000 in
theorem c_X3_new : BC mX3_init { frames := 1, cells := 1, slots := 100, locals := 40 } 3 [.null, .int 0, .int 0] [] (fun cA => []) (fun cA h0 ws => ∃ q1 : Nat, ws = [(h0, .inr (3, [.ref q1, .int 0, .int 0])), (q1, .inl (cA 1, 100, .inl fun _ => 0))]) := by
  refine bc_of gX3_init rfl (by decide) (fun D cA ex z0 h0 sz => ?_)
  show BV _ _ _ _ _ 0 0 0 [(0, .ref h0)] [] [(h0, .inr (3, [.null, .int 0, .int 0]))]
  refine bs_aload_n (j := 0) (i := 0) rfl rfl rfl ?_
  refine bs_obj rfl (zinT 107 (by decide +kernel) rfl) (zinT 22 (by decide +kernel) rfl) (zinT 23 (by decide +kernel) rfl) (Nat.le_of_ble_eq_true rfl) (Nat.le_of_ble_eq_true rfl) (Nat.le_of_ble_eq_true rfl) ?_
  refine bs_aload_n (j := 0) (i := 0) rfl rfl rfl ?_
  refine bs_bipush (n := 100) (v := 100) rfl (by decide) ?_
  refine bs_newa (ty := .int) (t0 := 0) (N := 100) (a0 := (100, .inl fun _ => 0)) rfl (zinT 82 (by decide +kernel) rfl) rfl (by intro C z; cases z) rfl (fun c0 => rfl) (by decide) rfl (by decide) (Nat.le_of_ble_eq_true rfl) (Nat.le_of_ble_eq_true rfl) (fun q1 => ?_)
  show BV _ _ _ _ _ 1 100 _ _ _ [(h0, .inr (3, [.null, .int 0, .int 0])), (q1, .inl (cA 1, 100, .inl fun _ => 0))]
  refine bs_putF (ci := 3) (k := 0) (q0 := 0) (r := (RX3, TX3, 3)) (ty := .array .int) rfl rfl rfl rfl rfl (fun _ _ _ _ h => h.1.1) rfl (by decide +kernel) rfl rfl (Nat.le_of_ble_eq_true rfl) ?_
  show BV _ _ _ _ _ 1 100 _ _ _ [(h0, .inr (3, [.ref q1, .int 0, .int 0])), (q1, .inl (cA 1, 100, .inl fun _ => 0))]
  exact bs_ret rfl ⟨q1, rfl⟩
set_option maxRecDepth 100000 in
set_option maxHeartbeats 4000000 in
theorem c_X4_new : BC mX4_init { frames := 1, cells := 1, slots := 60, locals := 40 } 4 [.int 0, .int 0, .null] [] (fun cA => []) (fun cA h0 ws => ∃ q1 : Nat, ws = [(h0, .inr (4, [.int (-1), .int 0, .ref q1])), (q1, .inl (cA 4, 60, .inr (.inl fun _ => 0)))]) := by
  refine bc_of gX4_init rfl (by decide) (fun D cA ex z0 h0 sz => ?_)
  show BV _ _ _ _ _ 0 0 0 [(0, .ref h0)] [] [(h0, .inr (4, [.int 0, .int 0, .null]))]
  refine bs_aload_n (j := 0) (i := 0) rfl rfl rfl ?_
  refine bs_obj rfl (zinT 122 (by decide +kernel) rfl) (zinT 22 (by decide +kernel) rfl) (zinT 23 (by decide +kernel) rfl) (Nat.le_of_ble_eq_true rfl) (Nat.le_of_ble_eq_true rfl) (Nat.le_of_ble_eq_true rfl) ?_
  refine bs_aload_n (j := 0) (i := 0) rfl rfl rfl ?_
  refine bs_iconst (n := (-1)) (v := (-1)) rfl (by decide) ?_
  refine bs_put (ci := 4) (k := 0) (q0 := 0) (r := (RX4, TX4, 3)) (ty := .int) rfl rfl rfl rfl rfl (by decide +kernel) rfl rfl (Nat.le_of_ble_eq_true rfl) ?_
  show BV _ _ _ _ _ 0 0 _ _ _ [(h0, .inr (4, [.int (-1), .int 0, .null]))]
  refine bs_aload_n (j := 0) (i := 0) rfl rfl rfl ?_
  refine bs_bipush (n := 60) (v := 60) rfl (by decide) ?_
  refine bs_newa (ty := .long) (t0 := 3) (N := 60) (a0 := (60, .inr (.inl fun _ => 0))) rfl (zinT 136 (by decide +kernel) rfl) rfl (by intro C z; cases z) rfl (fun c0 => rfl) (by decide) rfl (by decide) (Nat.le_of_ble_eq_true rfl) (Nat.le_of_ble_eq_true rfl) (fun q1 => ?_)
  show BV _ _ _ _ _ 1 60 _ _ _ [(h0, .inr (4, [.int (-1), .int 0, .null])), (q1, .inl (cA 4, 60, .inr (.inl fun _ => 0)))]
  refine bs_putF (ci := 4) (k := 2) (q0 := 0) (r := (RX4, TX4, 3)) (ty := .array .long) rfl rfl rfl rfl rfl (fun _ _ _ _ h => h.1.1) rfl (by decide +kernel) rfl rfl (Nat.le_of_ble_eq_true rfl) ?_
  show BV _ _ _ _ _ 1 60 _ _ _ [(h0, .inr (4, [.int (-1), .int 0, .ref q1])), (q1, .inl (cA 4, 60, .inr (.inl fun _ => 0)))]
  exact bs_ret rfl ⟨q1, rfl⟩
set_option maxRecDepth 100000 in
set_option maxHeartbeats 4000000 in
theorem c_X5_new : BC mX5_init { frames := 1, cells := 1, slots := 100, locals := 40 } 5 [.int 0, .null, .null, .int 0, .int 0, .int 0] [] (fun cA => []) (fun cA h0 ws => ∃ q1 : Nat, ws = [(h0, .inr (5, [.int 0, .ref q1, .null, .int 0, .int 0, .int 0])), (q1, .inl (cA 2, 100, .inl fun _ => 0))]) := by
  refine bc_of gX5_init rfl (by decide) (fun D cA ex z0 h0 sz => ?_)
  show BV _ _ _ _ _ 0 0 0 [(0, .ref h0)] [] [(h0, .inr (5, [.int 0, .null, .null, .int 0, .int 0, .int 0]))]
  refine bs_aload_n (j := 0) (i := 0) rfl rfl rfl ?_
  refine bs_obj rfl (zinT 33 (by decide +kernel) rfl) (zinT 22 (by decide +kernel) rfl) (zinT 23 (by decide +kernel) rfl) (Nat.le_of_ble_eq_true rfl) (Nat.le_of_ble_eq_true rfl) (Nat.le_of_ble_eq_true rfl) ?_
  refine bs_aload_n (j := 0) (i := 0) rfl rfl rfl ?_
  refine bs_bipush (n := 100) (v := 100) rfl (by decide) ?_
  refine bs_newa (ty := .byte) (t0 := 1) (N := 100) (a0 := (100, .inl fun _ => 0)) rfl (zinT 54 (by decide +kernel) rfl) rfl (by intro C z; cases z) rfl (fun c0 => rfl) (by decide) rfl (by decide) (Nat.le_of_ble_eq_true rfl) (Nat.le_of_ble_eq_true rfl) (fun q1 => ?_)
  show BV _ _ _ _ _ 1 100 _ _ _ [(h0, .inr (5, [.int 0, .null, .null, .int 0, .int 0, .int 0])), (q1, .inl (cA 2, 100, .inl fun _ => 0))]
  refine bs_putF (ci := 5) (k := 1) (q0 := 0) (r := (RX5, TX5, 6)) (ty := .array .byte) rfl rfl rfl rfl rfl (fun _ _ _ _ h => h.1.1) rfl (by decide +kernel) rfl rfl (Nat.le_of_ble_eq_true rfl) ?_
  show BV _ _ _ _ _ 1 100 _ _ _ [(h0, .inr (5, [.int 0, .ref q1, .null, .int 0, .int 0, .int 0])), (q1, .inl (cA 2, 100, .inl fun _ => 0))]
  exact bs_ret rfl ⟨q1, rfl⟩
set_option maxRecDepth 100000 in
set_option maxHeartbeats 4000000 in
theorem c_X6_new : BC mX6_init { frames := 1, cells := 2, slots := 12, locals := 40 } 6 [.null, .null, .int 0, .int 0] [] (fun cA => []) (fun cA h0 ws => ∃ q1 q2 : Nat, ws = [(h0, .inr (6, [.ref q1, .ref q2, .int 0, .int 0])), (q1, .inl (cA 1, 6, .inl fun _ => 0)), (q2, .inl (cA 1, 6, .inl fun _ => 0))]) := by
  refine bc_of gX6_init rfl (by decide) (fun D cA ex z0 h0 sz => ?_)
  show BV _ _ _ _ _ 0 0 0 [(0, .ref h0)] [] [(h0, .inr (6, [.null, .null, .int 0, .int 0]))]
  refine bs_aload_n (j := 0) (i := 0) rfl rfl rfl ?_
  refine bs_obj rfl (zinT 88 (by decide +kernel) rfl) (zinT 22 (by decide +kernel) rfl) (zinT 23 (by decide +kernel) rfl) (Nat.le_of_ble_eq_true rfl) (Nat.le_of_ble_eq_true rfl) (Nat.le_of_ble_eq_true rfl) ?_
  refine bs_aload_n (j := 0) (i := 0) rfl rfl rfl ?_
  refine bs_bipush (n := 6) (v := 6) rfl (by decide) ?_
  refine bs_newa (ty := .int) (t0 := 0) (N := 6) (a0 := (6, .inl fun _ => 0)) rfl (zinT 82 (by decide +kernel) rfl) rfl (by intro C z; cases z) rfl (fun c0 => rfl) (by decide) rfl (by decide) (Nat.le_of_ble_eq_true rfl) (Nat.le_of_ble_eq_true rfl) (fun q1 => ?_)
  show BV _ _ _ _ _ 1 6 _ _ _ [(h0, .inr (6, [.null, .null, .int 0, .int 0])), (q1, .inl (cA 1, 6, .inl fun _ => 0))]
  refine bs_putF (ci := 6) (k := 0) (q0 := 0) (r := (RX6, TX6, 4)) (ty := .array .int) rfl rfl rfl rfl rfl (fun _ _ _ _ h => h.1.1) rfl (by decide +kernel) rfl rfl (Nat.le_of_ble_eq_true rfl) ?_
  show BV _ _ _ _ _ 1 6 _ _ _ [(h0, .inr (6, [.ref q1, .null, .int 0, .int 0])), (q1, .inl (cA 1, 6, .inl fun _ => 0))]
  refine bs_aload_n (j := 0) (i := 0) rfl rfl rfl ?_
  refine bs_bipush (n := 6) (v := 6) rfl (by decide) ?_
  refine bs_newa (ty := .int) (t0 := 0) (N := 6) (a0 := (6, .inl fun _ => 0)) rfl (zinT 82 (by decide +kernel) rfl) rfl (by intro C z; cases z) rfl (fun c0 => rfl) (by decide) rfl (by decide) (Nat.le_of_ble_eq_true rfl) (Nat.le_of_ble_eq_true rfl) (fun q2 => ?_)
  show BV _ _ _ _ _ 2 12 _ _ _ [(h0, .inr (6, [.ref q1, .null, .int 0, .int 0])), (q1, .inl (cA 1, 6, .inl fun _ => 0)), (q2, .inl (cA 1, 6, .inl fun _ => 0))]
  refine bs_putF (ci := 6) (k := 1) (q0 := 0) (r := (RX6, TX6, 4)) (ty := .array .int) rfl rfl rfl rfl rfl (fun _ _ _ _ h => h.1.1) rfl (by decide +kernel) rfl rfl (Nat.le_of_ble_eq_true rfl) ?_
  show BV _ _ _ _ _ 2 12 _ _ _ [(h0, .inr (6, [.ref q1, .ref q2, .int 0, .int 0])), (q1, .inl (cA 1, 6, .inl fun _ => 0)), (q2, .inl (cA 1, 6, .inl fun _ => 0))]
  exact bs_ret rfl ⟨q1, q2, rfl⟩
