/-! classes -/
def ztag (t : Nat × Nat × Nat) (C : String) (x : String × String × String × Bool) : Prop := x.1 = C ∧ match t.1 with
  | 0 => x.2.2.2 = false ∧ parseFieldDescriptor x.2.2.1 = some .int
  | 1 => x.2.2.2 = false ∧ parseFieldDescriptor x.2.2.1 = some .boolean
  | 5 => x.2.2.2 = false ∧ parseFieldDescriptor x.2.2.1 = some (.object "ThirdAlike$Street")
  | 6 => x.2.2.2 = false ∧ parseFieldDescriptor x.2.2.1 = some (.object "ThirdAlike$Street")
  | _ => x.2.2.2 = true
def ztagB (t : Nat × Nat × Nat) (C : String) (x : String × String × String × Bool) : Bool := decide (x.1 = C) && match t.1 with
  | 0 => !x.2.2.2 && decide (parseFieldDescriptor x.2.2.1 = some .int)
  | 1 => !x.2.2.2 && decide (parseFieldDescriptor x.2.2.1 = some .boolean)
  | 5 => !x.2.2.2 && decide (parseFieldDescriptor x.2.2.1 = some (.object "ThirdAlike$Street"))
  | 6 => !x.2.2.2 && decide (parseFieldDescriptor x.2.2.1 = some (.object "ThirdAlike$Street"))
  | _ => x.2.2.2
theorem ztag_of {t : Nat × Nat × Nat} {C : String} {x : String × String × String × Bool} (h : ztagB t C x = true) : ztag t C x := by
  unfold ztagB at h
  unfold ztag
  simp only [Bool.and_eq_true, decide_eq_true_eq] at h
  refine ⟨h.1, ?_⟩
  have h2 := h.2
  split at h2 <;> simp_all
def zclOK (f : Nat) (r : vw_C) : Prop := (∀ w ∈ u_ws r.1 r.2.1 r.2.2, w ∈ zTB) ∧ (∃ ty : Nat → FieldType, ∀ k, k < r.2.2 → parseFieldDescriptor (r.2.1 k).2.2.1 = some (ty k)) ∧ (∀ a, a < r.2.2 → ∀ b, b < r.2.2 → a ≠ b → (r.2.1 a).2.1 ≠ (r.2.1 b).2.1) ∧ zfam f = (0, r.2.2) ∧ ∀ k, k < r.2.2 → ztag ((zfld f).getD k (9, 0, 0)) r.1 (r.2.1 k)
theorem zin_of {ws : List Cond} (h : ws.all (fun w => tables_1.contains w && goodWord w) = true) : ∀ w ∈ ws, w ∈ zTB := fun w hw => by
  have h1 := List.all_eq_true.mp h w hw
  simp only [Bool.and_eq_true] at h1
  exact List.mem_filter.mpr ⟨List.mem_append_right _ (List.contains_iff_mem.mp h1.1), h1.2⟩
theorem zcl_0 : zclOK 0 (RX0, TX0, 5) := ⟨zin_of (by decide +kernel), ⟨tyX0, tyX0_ok⟩, nmX0, rfl, fun k hk => ztag_of ((by decide +kernel : ∀ k, k < 5 → ztagB ((zfld 0).getD k (9, 0, 0)) RX0 (TX0 k) = true) k hk)⟩
theorem zcl_1 : zclOK 1 (RX1, TX1, 9) := ⟨zin_of (by decide +kernel), ⟨tyX1, tyX1_ok⟩, nmX1, rfl, fun k hk => ztag_of ((by decide +kernel : ∀ k, k < 9 → ztagB ((zfld 1).getD k (9, 0, 0)) RX1 (TX1 k) = true) k hk)⟩
theorem zcl_2 : zclOK 2 (RX2, TX2, 12) := ⟨zin_of (by decide +kernel), ⟨tyX2, tyX2_ok⟩, nmX2, rfl, fun k hk => ztag_of ((by decide +kernel : ∀ k, k < 12 → ztagB ((zfld 2).getD k (9, 0, 0)) RX2 (TX2 k) = true) k hk)⟩
theorem zcl_3 : zclOK 3 (RX3, TX3, 3) := ⟨zin_of (by decide +kernel), ⟨tyX3, tyX3_ok⟩, nmX3, rfl, fun k hk => ztag_of ((by decide +kernel : ∀ k, k < 3 → ztagB ((zfld 3).getD k (9, 0, 0)) RX3 (TX3 k) = true) k hk)⟩
theorem zcl_4 : zclOK 4 (RX4, TX4, 3) := ⟨zin_of (by decide +kernel), ⟨tyX4, tyX4_ok⟩, nmX4, rfl, fun k hk => ztag_of ((by decide +kernel : ∀ k, k < 3 → ztagB ((zfld 4).getD k (9, 0, 0)) RX4 (TX4 k) = true) k hk)⟩
theorem zcl_5 : zclOK 5 (RX5, TX5, 6) := ⟨zin_of (by decide +kernel), ⟨tyX5, tyX5_ok⟩, nmX5, rfl, fun k hk => ztag_of ((by decide +kernel : ∀ k, k < 6 → ztagB ((zfld 5).getD k (9, 0, 0)) RX5 (TX5 k) = true) k hk)⟩
theorem zcl_6 : zclOK 6 (RX6, TX6, 4) := ⟨zin_of (by decide +kernel), ⟨tyX6, tyX6_ok⟩, nmX6, rfl, fun k hk => ztag_of ((by decide +kernel : ∀ k, k < 4 → ztagB ((zfld 6).getD k (9, 0, 0)) RX6 (TX6 k) = true) k hk)⟩
theorem zcl_7 : zclOK 7 (RX7, TX7, 10) := ⟨zin_of (by decide +kernel), ⟨tyX7, tyX7_ok⟩, nmX7, rfl, fun k hk => ztag_of ((by decide +kernel : ∀ k, k < 10 → ztagB ((zfld 7).getD k (9, 0, 0)) RX7 (TX7 k) = true) k hk)⟩
theorem zcl_8 : zclOK 8 (RX8, TX8, 52) := ⟨zin_of (by decide +kernel), ⟨tyX8, tyX8_ok⟩, nmX8, rfl, fun k hk => ztag_of ((by decide +kernel : ∀ k, k < 52 → ztagB ((zfld 8).getD k (9, 0, 0)) RX8 (TX8 k) = true) k hk)⟩
theorem zcl_all {f : Nat} {r : vw_C} (h : vwCl[f]? = some r) : zclOK f r := by
  match f, h with
  | 0, h => cases h; exact zcl_0
  | 1, h => cases h; exact zcl_1
  | 2, h => cases h; exact zcl_2
  | 3, h => cases h; exact zcl_3
  | 4, h => cases h; exact zcl_4
  | 5, h => cases h; exact zcl_5
  | 6, h => cases h; exact zcl_6
  | 7, h => cases h; exact zcl_7
  | 8, h => cases h; exact zcl_8
  | k + 9, h => simp [vwCl] at h
theorem zinT {c : Cond} (i : Nat) (h : tables_1[i]? = some c) (hg : goodWord c = true) : c ∈ zTB := List.mem_filter.mpr ⟨List.mem_append_right _ (List.mem_of_getElem? h), hg⟩
theorem zinP {c : Cond} (i : Nat) (h : (k2_sels lw_privs)[i]? = some c) (hg : goodWord c = true) : c ∈ zTB := List.mem_filter.mpr ⟨List.mem_append_left _ (List.mem_of_getElem? h), hg⟩
theorem zfx_dec {Y : ZW} {M : ZM} {p : Program} {s : State} {m : MethodId} {args : Array Value} {meth : Method} {c : Code} (F : zFx Y M p s m args meth c) {pc : Nat} {x : Instr × Nat} (h : zat M pc = some x) : decode (zcc M) pc = .ok x := by
  have h1 := zchk_at (zT M) 0 pc x F.1.2.2.2.1 h
  rwa [Nat.zero_add] at h1
theorem zok_cons {Y : ZW} {v : ZV} {S : List ZV} : (∀ u, u ∈ v :: S → zok Y u) ↔ zok Y v ∧ ∀ u, u ∈ S → zok Y u := List.forall_mem_cons
section ZS
variable {Y : ZW} {M : ZM} {C : ZCx} {pc : Nat} {L S : List ZV} {g : ZG}
/-- what a place of the walk knows -/
theorem zs_know (k : zwf Y → zrg Y g → (∀ v, v ∈ S → zok Y v) → (∀ (i : Nat) (v : ZV), L[i]? = some v → v ≠ ZX 99 → zok Y v) → ZVV Y M C pc L S g) : ZVV Y M C pc L S g := by
  intro p l e s m args below meth c H locs ls F hX hH hS hL hO
  exact k F.2.1 hH.2.2 hO (fun i v h1 h2 => (hL.2.2.2 i v h1 h2).2) p l e s m args below meth c H locs ls F hX hH hS hL hO
theorem zs_iconst {n : Int} (hT : zat M pc = some (.iconst n, 1)) (hn : -2 < n ∧ n < 6) (k : ZVV Y M C (pc + 1) L (ZI n :: S) g) : ZVV Y M C pc L S g := by
  intro p l e s m args below meth c H locs ls F hX hH hS hL hO
  have hx := F.2.2.1
  have hb := F.2.2.2.1
  refine lv_iconst hx hb (zfx_dec F hT) rfl ?_
  exact k p l e s m args below meth c H locs ls F hX hH hS hL (zok_cons.mpr ⟨⟨by omega, by omega⟩, hO⟩)
theorem zs_bipush {n : Int} (hT : zat M pc = some (.bipush n, 2)) (hn : -128 ≤ n ∧ n < 128) (k : ZVV Y M C (pc + 2) L (ZI n :: S) g) : ZVV Y M C pc L S g := by
  intro p l e s m args below meth c H locs ls F hX hH hS hL hO
  have hx := F.2.2.1
  have hb := F.2.2.2.1
  refine lv_bipush hx hb (v := Int32.ofInt n) (zfx_dec F hT) ?_ (k p l e s m args below meth c H locs ls F hX hH hS hL (zok_cons.mpr ⟨⟨by omega, by omega⟩, hO⟩))
  apply Int32.toInt.inj
  rw [Int8.toInt_toInt32, Int8.toInt_ofInt_of_le (by omega) (by omega), zI_toInt ⟨by omega, by omega⟩]
theorem zs_sipush {n : Int} (hT : zat M pc = some (.sipush n, 3)) (hn : -32768 ≤ n ∧ n < 32768) (k : ZVV Y M C (pc + 3) L (ZI n :: S) g) : ZVV Y M C pc L S g := by
  intro p l e s m args below meth c H locs ls F hX hH hS hL hO
  have hx := F.2.2.1
  have hb := F.2.2.2.1
  refine lv_sipush hx hb (v := Int32.ofInt n) (zfx_dec F hT) ?_ (k p l e s m args below meth c H locs ls F hX hH hS hL (zok_cons.mpr ⟨⟨by omega, by omega⟩, hO⟩))
  apply Int32.toInt.inj
  rw [Int16.toInt_toInt32, Int16.toInt_ofInt_of_le (by omega) (by omega), zI_toInt ⟨by omega, by omega⟩]
theorem zs_lconst {n : Fin 2} (hT : zat M pc = some (.lconst n, 1)) (k : ZVV Y M C (pc + 1) L (ZJ (n.val : Int) :: S) g) : ZVV Y M C pc L S g := by
  intro p l e s m args below meth c H locs ls F hX hH hS hL hO
  have hx := F.2.2.1
  have hb := F.2.2.2.1
  refine lv_lconst hx hb (v := Int64.ofInt (n.val : Int)) (zfx_dec F hT) (Int64.ofInt_eq_ofNat).symm ?_
  exact k p l e s m args below meth c H locs ls F hX hH hS hL (zok_cons.mpr ⟨⟨by omega, by omega⟩, hO⟩)
theorem zs_iload_n {x : Int} {j : Fin 4} {i : Nat} (hT : zat M pc = some (.iload_n j, 1)) (hj : (j : Nat) = i) (hi : L[i]? = some (ZI x)) (k : ZVV Y M C (pc + 1) L (ZI x :: S) g) : ZVV Y M C pc L S g := by
  intro p l e s m args below meth c H locs ls F hX hH hS hL hO
  have hx := F.2.2.1
  have hb := F.2.2.2.1
  refine lv_iload_n hx hb (zfx_dec F hT) hj (hL.2.2.2 i _ hi (by intro z; cases z)).1 ?_
  exact k p l e s m args below meth c H locs ls F hX hH hS hL (zok_cons.mpr ⟨(hL.2.2.2 i _ hi (by intro z; cases z)).2, hO⟩)
theorem zs_iload {x : Int} {i : Nat} (hT : zat M pc = some (.iload i, 2)) (hi : L[i]? = some (ZI x)) (k : ZVV Y M C (pc + 2) L (ZI x :: S) g) : ZVV Y M C pc L S g := by
  intro p l e s m args below meth c H locs ls F hX hH hS hL hO
  have hx := F.2.2.1
  have hb := F.2.2.2.1
  refine lv_iload hx hb (zfx_dec F hT) (hL.2.2.2 i _ hi (by intro z; cases z)).1 ?_
  exact k p l e s m args below meth c H locs ls F hX hH hS hL (zok_cons.mpr ⟨(hL.2.2.2 i _ hi (by intro z; cases z)).2, hO⟩)
theorem zs_lload_n {x : Int} {j : Fin 4} {i : Nat} (hT : zat M pc = some (.lload_n j, 1)) (hj : (j : Nat) = i) (hi : L[i]? = some (ZJ x)) (k : ZVV Y M C (pc + 1) L (ZJ x :: S) g) : ZVV Y M C pc L S g := by
  intro p l e s m args below meth c H locs ls F hX hH hS hL hO
  have hx := F.2.2.1
  have hb := F.2.2.2.1
  refine lv_lload_n hx hb (zfx_dec F hT) hj (hL.2.2.2 i _ hi (by intro z; cases z)).1 ?_
  exact k p l e s m args below meth c H locs ls F hX hH hS hL (zok_cons.mpr ⟨(hL.2.2.2 i _ hi (by intro z; cases z)).2, hO⟩)
theorem zs_lload {x : Int} {i : Nat} (hT : zat M pc = some (.lload i, 2)) (hi : L[i]? = some (ZJ x)) (k : ZVV Y M C (pc + 2) L (ZJ x :: S) g) : ZVV Y M C pc L S g := by
  intro p l e s m args below meth c H locs ls F hX hH hS hL hO
  have hx := F.2.2.1
  have hb := F.2.2.2.1
  refine lv_lload hx hb (zfx_dec F hT) (hL.2.2.2 i _ hi (by intro z; cases z)).1 ?_
  exact k p l e s m args below meth c H locs ls F hX hH hS hL (zok_cons.mpr ⟨(hL.2.2.2 i _ hi (by intro z; cases z)).2, hO⟩)
theorem zs_aload_n {f q : Nat} {j : Fin 4} {i : Nat} (hT : zat M pc = some (.aload_n j, 1)) (hj : (j : Nat) = i) (hi : L[i]? = some (ZR f q)) (k : ZVV Y M C (pc + 1) L (ZR f q :: S) g) : ZVV Y M C pc L S g := by
  intro p l e s m args below meth c H locs ls F hX hH hS hL hO
  have hx := F.2.2.1
  have hb := F.2.2.2.1
  refine lv_aload_n hx hb (zfx_dec F hT) hj (hL.2.2.2 i _ hi (by intro z; cases z)).1 ?_
  exact k p l e s m args below meth c H locs ls F hX hH hS hL (zok_cons.mpr ⟨(hL.2.2.2 i _ hi (by intro z; cases z)).2, hO⟩)
theorem zs_aload {f q : Nat} {i : Nat} (hT : zat M pc = some (.aload i, 2)) (hi : L[i]? = some (ZR f q)) (k : ZVV Y M C (pc + 2) L (ZR f q :: S) g) : ZVV Y M C pc L S g := by
  intro p l e s m args below meth c H locs ls F hX hH hS hL hO
  have hx := F.2.2.1
  have hb := F.2.2.2.1
  refine lv_aload hx hb (zfx_dec F hT) (hL.2.2.2 i _ hi (by intro z; cases z)).1 ?_
  exact k p l e s m args below meth c H locs ls F hX hH hS hL (zok_cons.mpr ⟨(hL.2.2.2 i _ hi (by intro z; cases z)).2, hO⟩)
theorem zs_xload_n {q : Nat} {j : Fin 4} {i : Nat} (hT : zat M pc = some (.aload_n j, 1)) (hj : (j : Nat) = i) (hi : L[i]? = some (ZX q)) (hq : q < 50) (k : ZVV Y M C (pc + 1) L (ZX q :: S) g) : ZVV Y M C pc L S g := by
  intro p l e s m args below meth c H locs ls F hX hH hS hL hO
  have hx := F.2.2.1
  have hb := F.2.2.2.1
  refine lv_aload_n hx hb (zfx_dec F hT) hj (hL.2.2.2 i _ hi (by intro z; cases z; exact absurd hq (by decide))).1 ?_
  exact k p l e s m args below meth c H locs ls F hX hH hS hL (zok_cons.mpr ⟨trivial, hO⟩)
theorem zs_xload {q : Nat} {i : Nat} (hT : zat M pc = some (.aload i, 2)) (hi : L[i]? = some (ZX q)) (hq : q < 50) (k : ZVV Y M C (pc + 2) L (ZX q :: S) g) : ZVV Y M C pc L S g := by
  intro p l e s m args below meth c H locs ls F hX hH hS hL hO
  have hx := F.2.2.1
  have hb := F.2.2.2.1
  refine lv_aload hx hb (zfx_dec F hT) (hL.2.2.2 i _ hi (by intro z; cases z; exact absurd hq (by decide))).1 ?_
  exact k p l e s m args below meth c H locs ls F hX hH hS hL (zok_cons.mpr ⟨trivial, hO⟩)
theorem zs_istore_n {x : Int} {j : Fin 4} {i : Nat} (hT : zat M pc = some (.istore_n j, 1)) (hj : (j : Nat) = i) (hi : i < zn M) (hp : ∀ r x, r + 1 = i → L[r]? ≠ some (ZJ x)) (k : ZVV Y M C (pc + 1) (L.set i (ZI x)) S g) : ZVV Y M C pc L (ZI x :: S) g := by
  intro p l e s m args below meth c H locs ls F hX hH hS hL hO
  have hx := F.2.2.1
  have hb := F.2.2.2.1
  refine lv_istore_n hx hb (zfx_dec F hT) hj hL.lv hi rfl (fun ls' h' => ?_)
  exact k p l e s m args below meth c H locs ls' F hX hH hS (hL.set1 hi (zok_cons.mp hO).1 hp h') (zok_cons.mp hO).2
theorem zs_istore {x : Int} {i : Nat} (hT : zat M pc = some (.istore i, 2)) (hi : i < zn M) (hp : ∀ r x, r + 1 = i → L[r]? ≠ some (ZJ x)) (k : ZVV Y M C (pc + 2) (L.set i (ZI x)) S g) : ZVV Y M C pc L (ZI x :: S) g := by
  intro p l e s m args below meth c H locs ls F hX hH hS hL hO
  have hx := F.2.2.1
  have hb := F.2.2.2.1
  refine lv_istore hx hb (zfx_dec F hT) hL.lv hi rfl (fun ls' h' => ?_)
  exact k p l e s m args below meth c H locs ls' F hX hH hS (hL.set1 hi (zok_cons.mp hO).1 hp h') (zok_cons.mp hO).2
theorem zs_astore_n {f q : Nat} {j : Fin 4} {i : Nat} (hT : zat M pc = some (.astore_n j, 1)) (hj : (j : Nat) = i) (hi : i < zn M) (hp : ∀ r x, r + 1 = i → L[r]? ≠ some (ZJ x)) (k : ZVV Y M C (pc + 1) (L.set i (ZR f q)) S g) : ZVV Y M C pc L (ZR f q :: S) g := by
  intro p l e s m args below meth c H locs ls F hX hH hS hL hO
  have hx := F.2.2.1
  have hb := F.2.2.2.1
  refine lv_astore_n hx hb (zfx_dec F hT) hj hL.lv hi rfl (fun ls' h' => ?_)
  exact k p l e s m args below meth c H locs ls' F hX hH hS (hL.set1 hi (zok_cons.mp hO).1 hp h') (zok_cons.mp hO).2
theorem zs_astore {f q : Nat} {i : Nat} (hT : zat M pc = some (.astore i, 2)) (hi : i < zn M) (hp : ∀ r x, r + 1 = i → L[r]? ≠ some (ZJ x)) (k : ZVV Y M C (pc + 2) (L.set i (ZR f q)) S g) : ZVV Y M C pc L (ZR f q :: S) g := by
  intro p l e s m args below meth c H locs ls F hX hH hS hL hO
  have hx := F.2.2.1
  have hb := F.2.2.2.1
  refine lv_astore hx hb (zfx_dec F hT) hL.lv hi rfl (fun ls' h' => ?_)
  exact k p l e s m args below meth c H locs ls' F hX hH hS (hL.set1 hi (zok_cons.mp hO).1 hp h') (zok_cons.mp hO).2
theorem zs_xstore_n {q : Nat} {j : Fin 4} {i : Nat} (hT : zat M pc = some (.astore_n j, 1)) (hj : (j : Nat) = i) (hi : i < zn M) (hp : ∀ r x, r + 1 = i → L[r]? ≠ some (ZJ x)) (k : ZVV Y M C (pc + 1) (L.set i (ZX q)) S g) : ZVV Y M C pc L (ZX q :: S) g := by
  intro p l e s m args below meth c H locs ls F hX hH hS hL hO
  have hx := F.2.2.1
  have hb := F.2.2.2.1
  refine lv_astore_n hx hb (zfx_dec F hT) hj hL.lv hi rfl (fun ls' h' => ?_)
  exact k p l e s m args below meth c H locs ls' F hX hH hS (hL.set1 hi (zok_cons.mp hO).1 hp h') (zok_cons.mp hO).2
theorem zs_xstore {q : Nat} {i : Nat} (hT : zat M pc = some (.astore i, 2)) (hi : i < zn M) (hp : ∀ r x, r + 1 = i → L[r]? ≠ some (ZJ x)) (k : ZVV Y M C (pc + 2) (L.set i (ZX q)) S g) : ZVV Y M C pc L (ZX q :: S) g := by
  intro p l e s m args below meth c H locs ls F hX hH hS hL hO
  have hx := F.2.2.1
  have hb := F.2.2.2.1
  refine lv_astore hx hb (zfx_dec F hT) hL.lv hi rfl (fun ls' h' => ?_)
  exact k p l e s m args below meth c H locs ls' F hX hH hS (hL.set1 hi (zok_cons.mp hO).1 hp h') (zok_cons.mp hO).2
theorem zs_lstore_n {x : Int} {j : Fin 4} {i : Nat} (hT : zat M pc = some (.lstore_n j, 1)) (hj : (j : Nat) = i) (hi : i + 1 < zn M) (hp : ∀ r x, r + 1 = i → L[r]? ≠ some (ZJ x)) (k : ZVV Y M C (pc + 1) ((L.set i (ZJ x)).set (i + 1) (ZX 99)) S g) : ZVV Y M C pc L (ZJ x :: S) g := by
  intro p l e s m args below meth c H locs ls F hX hH hS hL hO
  have hx := F.2.2.1
  have hb := F.2.2.2.1
  refine lv_lstore_n hx hb (zfx_dec F hT) hj hL.lv hi rfl (fun ls' h' => ?_)
  exact k p l e s m args below meth c H locs ls' F hX hH hS (hL.set2 hi (zok_cons.mp hO).1 hp h') (zok_cons.mp hO).2
theorem zs_lstore {x : Int} {i : Nat} (hT : zat M pc = some (.lstore i, 2)) (hi : i + 1 < zn M) (hp : ∀ r x, r + 1 = i → L[r]? ≠ some (ZJ x)) (k : ZVV Y M C (pc + 2) ((L.set i (ZJ x)).set (i + 1) (ZX 99)) S g) : ZVV Y M C pc L (ZJ x :: S) g := by
  intro p l e s m args below meth c H locs ls F hX hH hS hL hO
  have hx := F.2.2.1
  have hb := F.2.2.2.1
  refine lv_lstore hx hb (zfx_dec F hT) hL.lv hi rfl (fun ls' h' => ?_)
  exact k p l e s m args below meth c H locs ls' F hX hH hS (hL.set2 hi (zok_cons.mp hO).1 hp h') (zok_cons.mp hO).2
theorem zs_iinc {x n : Int} {i : Nat} (hT : zat M pc = some (.iinc i n, 3)) (hi : L[i]? = some (ZI x)) (hp : ∀ r x, r + 1 = i → L[r]? ≠ some (ZJ x)) (k : ZVV Y M C (pc + 3) (L.set i (ZI (zw (x + n)))) S g) : ZVV Y M C pc L S g := by
  intro p l e s m args below meth c H locs ls F hX hH hS hL hO
  have hx := F.2.2.1
  have hb := F.2.2.2.1
  have hlt : i < zn M := by rw [← hL.2.2.1]; exact (List.getElem?_eq_some_iff.mp hi).1
  obtain ⟨q, hq⟩ := List.getElem?_of_mem (zlv_in (Y := Y) (L := L) (q := (i, .int (Int32.ofInt x))) |>.mpr ⟨ZI x, hi, (by intro z; cases z), rfl⟩)
  refine lv_iinc (v := Int32.ofInt (zw (x + n))) hx hb (zfx_dec F hT) hL.lv hq (zadd_v x n).symm hlt rfl (fun ls' h' => ?_)
  exact k p l e s m args below meth c H locs ls' F hX hH hS (hL.set1 hlt (zw_ok _) hp h') hO
theorem zs_iadd {x y : Int} (hT : zat M pc = some (.iadd, 1)) (k : ZVV Y M C (pc + 1) L (ZI (zw (x + y)) :: S) g) : ZVV Y M C pc L (ZI y :: ZI x :: S) g := by
  intro p l e s m args below meth c H locs ls F hX hH hS hL hO
  have hx := F.2.2.1
  have hb := F.2.2.2.1
  have hO1 := zok_cons.mp hO
  have hO2 := zok_cons.mp hO1.2
  have hk := k p l e s m args below meth c H locs ls F hX hH hS hL (zok_cons.mpr ⟨zw_ok _, hO2.2⟩)
  refine lv_iadd hx hb (zfx_dec F hT) ?_
  have e1 : zval Y (ZI (zw (x + y))) = .int (Int32.ofInt x + Int32.ofInt y) := congrArg Value.int (zadd_v x y)
  rw [List.map_cons, e1] at hk
  exact hk
theorem zs_isub {x y : Int} (hT : zat M pc = some (.isub, 1)) (k : ZVV Y M C (pc + 1) L (ZI (zw (x - y)) :: S) g) : ZVV Y M C pc L (ZI y :: ZI x :: S) g := by
  intro p l e s m args below meth c H locs ls F hX hH hS hL hO
  have hx := F.2.2.1
  have hb := F.2.2.2.1
  have hO1 := zok_cons.mp hO
  have hO2 := zok_cons.mp hO1.2
  have hk := k p l e s m args below meth c H locs ls F hX hH hS hL (zok_cons.mpr ⟨zw_ok _, hO2.2⟩)
  refine lv_isub hx hb (zfx_dec F hT) ?_
  have e1 : zval Y (ZI (zw (x - y))) = .int (Int32.ofInt x - Int32.ofInt y) := congrArg Value.int (zsub_v x y)
  rw [List.map_cons, e1] at hk
  exact hk
theorem zs_imul {x y : Int} (hT : zat M pc = some (.imul, 1)) (k : ZVV Y M C (pc + 1) L (ZI (zw (x * y)) :: S) g) : ZVV Y M C pc L (ZI y :: ZI x :: S) g := by
  intro p l e s m args below meth c H locs ls F hX hH hS hL hO
  have hx := F.2.2.1
  have hb := F.2.2.2.1
  have hO1 := zok_cons.mp hO
  have hO2 := zok_cons.mp hO1.2
  have hk := k p l e s m args below meth c H locs ls F hX hH hS hL (zok_cons.mpr ⟨zw_ok _, hO2.2⟩)
  refine lv_imul hx hb (zfx_dec F hT) ?_
  have e1 : zval Y (ZI (zw (x * y))) = .int (Int32.ofInt x * Int32.ofInt y) := congrArg Value.int (zmul_v x y)
  rw [List.map_cons, e1] at hk
  exact hk
theorem zs_iand {x y : Int} (hT : zat M pc = some (.iand, 1)) (k : ZVV Y M C (pc + 1) L (ZI (zand x y) :: S) g) : ZVV Y M C pc L (ZI y :: ZI x :: S) g := by
  intro p l e s m args below meth c H locs ls F hX hH hS hL hO
  have hx := F.2.2.1
  have hb := F.2.2.2.1
  have hO1 := zok_cons.mp hO
  have hO2 := zok_cons.mp hO1.2
  have hk := k p l e s m args below meth c H locs ls F hX hH hS hL (zok_cons.mpr ⟨zI_rng _, hO2.2⟩)
  refine lv_iand hx hb (zfx_dec F hT) ?_
  have e1 : zval Y (ZI (zand x y)) = .int (Int32.ofInt x &&& Int32.ofInt y) := congrArg Value.int (Int32.ofInt_toInt _)
  rw [List.map_cons, e1] at hk
  exact hk
theorem zs_ior {x y : Int} (hT : zat M pc = some (.ior, 1)) (k : ZVV Y M C (pc + 1) L (ZI (zor x y) :: S) g) : ZVV Y M C pc L (ZI y :: ZI x :: S) g := by
  intro p l e s m args below meth c H locs ls F hX hH hS hL hO
  have hx := F.2.2.1
  have hb := F.2.2.2.1
  have hO1 := zok_cons.mp hO
  have hO2 := zok_cons.mp hO1.2
  have hk := k p l e s m args below meth c H locs ls F hX hH hS hL (zok_cons.mpr ⟨zI_rng _, hO2.2⟩)
  refine lv_ior hx hb (zfx_dec F hT) ?_
  have e1 : zval Y (ZI (zor x y)) = .int (Int32.ofInt x ||| Int32.ofInt y) := congrArg Value.int (Int32.ofInt_toInt _)
  rw [List.map_cons, e1] at hk
  exact hk
theorem zs_ixor {x y : Int} (hT : zat M pc = some (.ixor, 1)) (k : ZVV Y M C (pc + 1) L (ZI (zxor x y) :: S) g) : ZVV Y M C pc L (ZI y :: ZI x :: S) g := by
  intro p l e s m args below meth c H locs ls F hX hH hS hL hO
  have hx := F.2.2.1
  have hb := F.2.2.2.1
  have hO1 := zok_cons.mp hO
  have hO2 := zok_cons.mp hO1.2
  have hk := k p l e s m args below meth c H locs ls F hX hH hS hL (zok_cons.mpr ⟨zI_rng _, hO2.2⟩)
  refine lv_ixor hx hb (zfx_dec F hT) ?_
  have e1 : zval Y (ZI (zxor x y)) = .int (Int32.ofInt x ^^^ Int32.ofInt y) := congrArg Value.int (Int32.ofInt_toInt _)
  rw [List.map_cons, e1] at hk
  exact hk
theorem zs_ishl {x y : Int} (hT : zat M pc = some (.ishl, 1)) (k : ZVV Y M C (pc + 1) L (ZI (zshl x y) :: S) g) : ZVV Y M C pc L (ZI y :: ZI x :: S) g := by
  intro p l e s m args below meth c H locs ls F hX hH hS hL hO
  have hx := F.2.2.1
  have hb := F.2.2.2.1
  have hO1 := zok_cons.mp hO
  have hO2 := zok_cons.mp hO1.2
  have hk := k p l e s m args below meth c H locs ls F hX hH hS hL (zok_cons.mpr ⟨zI_rng _, hO2.2⟩)
  refine lv_ishl hx hb (zfx_dec F hT) ?_
  have e1 : zval Y (ZI (zshl x y)) = .int (Int32.ofInt x <<< (Int32.ofInt y &&& 31)) := congrArg Value.int (Int32.ofInt_toInt _)
  rw [List.map_cons, e1] at hk
  exact hk
theorem zs_ishr {x y : Int} (hT : zat M pc = some (.ishr, 1)) (k : ZVV Y M C (pc + 1) L (ZI (zshr x y) :: S) g) : ZVV Y M C pc L (ZI y :: ZI x :: S) g := by
  intro p l e s m args below meth c H locs ls F hX hH hS hL hO
  have hx := F.2.2.1
  have hb := F.2.2.2.1
  have hO1 := zok_cons.mp hO
  have hO2 := zok_cons.mp hO1.2
  have hk := k p l e s m args below meth c H locs ls F hX hH hS hL (zok_cons.mpr ⟨zI_rng _, hO2.2⟩)
  refine lv_ishr hx hb (zfx_dec F hT) ?_
  have e1 : zval Y (ZI (zshr x y)) = .int (Int32.ofInt x >>> (Int32.ofInt y &&& 31)) := congrArg Value.int (Int32.ofInt_toInt _)
  rw [List.map_cons, e1] at hk
  exact hk
theorem zs_idiv {x y : Int} (hT : zat M pc = some (.idiv, 1)) (hne : y ≠ 0) (k : ZVV Y M C (pc + 1) L (ZI (zw (x.tdiv y)) :: S) g) : ZVV Y M C pc L (ZI y :: ZI x :: S) g := by
  intro p l e s m args below meth c H locs ls F hX hH hS hL hO
  have hx := F.2.2.1
  have hb := F.2.2.2.1
  have hO1 := zok_cons.mp hO
  have hO2 := zok_cons.mp hO1.2
  have hk := k p l e s m args below meth c H locs ls F hX hH hS hL (zok_cons.mpr ⟨zw_ok _, hO2.2⟩)
  refine lv_idiv hx hb (zfx_dec F hT) (zI_ne hO1.1 hne) ?_
  have e1 : zval Y (ZI (zw (x.tdiv y))) = .int (Int32.ofInt x / Int32.ofInt y) := congrArg Value.int (zdiv_v hO2.1 hO1.1)
  rw [List.map_cons, e1] at hk
  exact hk
theorem zs_irem {x y : Int} (hT : zat M pc = some (.irem, 1)) (hne : y ≠ 0) (k : ZVV Y M C (pc + 1) L (ZI (x.tmod y) :: S) g) : ZVV Y M C pc L (ZI y :: ZI x :: S) g := by
  intro p l e s m args below meth c H locs ls F hX hH hS hL hO
  have hx := F.2.2.1
  have hb := F.2.2.2.1
  have hO1 := zok_cons.mp hO
  have hO2 := zok_cons.mp hO1.2
  have hk := k p l e s m args below meth c H locs ls F hX hH hS hL (zok_cons.mpr ⟨zrem_ok hO2.1, hO2.2⟩)
  refine lv_irem hx hb (zfx_dec F hT) (zI_ne hO1.1 hne) ?_
  have e1 : zval Y (ZI (x.tmod y)) = .int (Int32.ofInt x - Int32.ofInt x / Int32.ofInt y * Int32.ofInt y) := congrArg Value.int (zrem_v hO2.1 hO1.1)
  rw [List.map_cons, e1] at hk
  exact hk
theorem zs_land {x y : Int} (hT : zat M pc = some (.land, 1)) (k : ZVV Y M C (pc + 1) L (ZJ (zland x y) :: S) g) : ZVV Y M C pc L (ZJ y :: ZJ x :: S) g := by
  intro p l e s m args below meth c H locs ls F hX hH hS hL hO
  have hx := F.2.2.1
  have hb := F.2.2.2.1
  have hO1 := zok_cons.mp hO
  have hO2 := zok_cons.mp hO1.2
  have hk := k p l e s m args below meth c H locs ls F hX hH hS hL (zok_cons.mpr ⟨zJ_rng _, hO2.2⟩)
  refine lv_land hx hb (zfx_dec F hT) ?_
  have e1 : zval Y (ZJ (zland x y)) = .long (Int64.ofInt x &&& Int64.ofInt y) := congrArg Value.long (Int64.ofInt_toInt _)
  rw [List.map_cons, e1] at hk
  exact hk
theorem zs_lor {x y : Int} (hT : zat M pc = some (.lor, 1)) (k : ZVV Y M C (pc + 1) L (ZJ (zlor x y) :: S) g) : ZVV Y M C pc L (ZJ y :: ZJ x :: S) g := by
  intro p l e s m args below meth c H locs ls F hX hH hS hL hO
  have hx := F.2.2.1
  have hb := F.2.2.2.1
  have hO1 := zok_cons.mp hO
  have hO2 := zok_cons.mp hO1.2
  have hk := k p l e s m args below meth c H locs ls F hX hH hS hL (zok_cons.mpr ⟨zJ_rng _, hO2.2⟩)
  refine lv_lor hx hb (zfx_dec F hT) ?_
  have e1 : zval Y (ZJ (zlor x y)) = .long (Int64.ofInt x ||| Int64.ofInt y) := congrArg Value.long (Int64.ofInt_toInt _)
  rw [List.map_cons, e1] at hk
  exact hk
theorem zs_lshl {x y : Int} (hT : zat M pc = some (.lshl, 1)) (k : ZVV Y M C (pc + 1) L (ZJ (zlshl x y) :: S) g) : ZVV Y M C pc L (ZI y :: ZJ x :: S) g := by
  intro p l e s m args below meth c H locs ls F hX hH hS hL hO
  have hx := F.2.2.1
  have hb := F.2.2.2.1
  have hO1 := zok_cons.mp hO
  have hO2 := zok_cons.mp hO1.2
  have hk := k p l e s m args below meth c H locs ls F hX hH hS hL (zok_cons.mpr ⟨zJ_rng _, hO2.2⟩)
  refine lv_lshl hx hb (zfx_dec F hT) rfl ?_
  have e1 : zval Y (ZJ (zlshl x y)) = .long (Int64.ofInt x <<< ((Int32.ofInt y).toInt64 &&& 63)) := congrArg Value.long (Int64.ofInt_toInt _)
  rw [List.map_cons, e1] at hk
  exact hk
theorem zs_lcmp {x y : Int} (hT : zat M pc = some (.lcmp, 1)) (k : ZVV Y M C (pc + 1) L (ZI (if x < y then -1 else if x = y then 0 else 1) :: S) g) : ZVV Y M C pc L (ZJ y :: ZJ x :: S) g := by
  intro p l e s m args below meth c H locs ls F hX hH hS hL hO
  have hx := F.2.2.1
  have hb := F.2.2.2.1
  have hO1 := zok_cons.mp hO
  have hO2 := zok_cons.mp hO1.2
  have hk := k p l e s m args below meth c H locs ls F hX hH hS hL (zok_cons.mpr ⟨by show _ ∧ _; split <;> (try split) <;> omega, hO2.2⟩)
  refine W.lcmp hx hb (zfx_dec F hT) ?_
  have e1 : zval Y (ZI (if x < y then -1 else if x = y then 0 else 1)) = .int (lg_cmp (Int64.ofInt x) (Int64.ofInt y)) := by
    show Value.int _ = _
    congr 1
    have a1 : (Int64.ofInt x < Int64.ofInt y) ↔ x < y := by rw [Int64.lt_iff_toInt_lt, zJ_toInt hO2.1, zJ_toInt hO1.1]
    have a2 : (Int64.ofInt x = Int64.ofInt y) ↔ x = y := ⟨fun q => by have := congrArg Int64.toInt q; rwa [zJ_toInt hO2.1, zJ_toInt hO1.1] at this, fun q => by rw [q]⟩
    have a3 : (Int64.ofInt y < Int64.ofInt x) ↔ y < x := by rw [Int64.lt_iff_toInt_lt, zJ_toInt hO2.1, zJ_toInt hO1.1]
    unfold lg_cmp
    simp only [a1, a2, a3]
    by_cases q1 : x < y
    · have q3 : ¬ y < x := by omega
      have q4 : ¬ x = y := by omega
      simp [q1, q3, q4]
    · by_cases q2 : x = y
      · subst q2; simp
      · have q3 : y < x := by omega
        simp [q1, q2, q3]
  rw [List.map_cons, e1] at hk
  exact hk
theorem zs_ineg {x : Int} (hT : zat M pc = some (.ineg, 1)) (k : ZVV Y M C (pc + 1) L (ZI (zw (-x)) :: S) g) : ZVV Y M C pc L (ZI x :: S) g := by
  intro p l e s m args below meth c H locs ls F hX hH hS hL hO
  have hx := F.2.2.1
  have hb := F.2.2.2.1
  have hO1 := zok_cons.mp hO
  have hk := k p l e s m args below meth c H locs ls F hX hH hS hL (zok_cons.mpr ⟨zw_ok _, hO1.2⟩)
  refine lv_ineg hx hb (zfx_dec F hT) ?_
  have e1 : zval Y (ZI (zw (-x))) = .int (-Int32.ofInt x) := congrArg Value.int (zneg_v x)
  rw [List.map_cons, e1] at hk
  exact hk
theorem zs_i2l {x : Int} (hT : zat M pc = some (.i2l, 1)) (k : ZVV Y M C (pc + 1) L (ZJ x :: S) g) : ZVV Y M C pc L (ZI x :: S) g := by
  intro p l e s m args below meth c H locs ls F hX hH hS hL hO
  have hx := F.2.2.1
  have hb := F.2.2.2.1
  have hO1 := zok_cons.mp hO
  have hr : -2147483648 ≤ x ∧ x < 2147483648 := hO1.1
  refine lv_i2l (v := Int64.ofInt x) hx hb (zfx_dec F hT) ?_ (k p l e s m args below meth c H locs ls F hX hH hS hL (zok_cons.mpr ⟨⟨by omega, by omega⟩, hO1.2⟩))
  apply Int64.toInt.inj
  rw [Int32.toInt_toInt64, zI_toInt hr, zJ_toInt ⟨by omega, by omega⟩]
theorem zs_l2i {x : Int} (hT : zat M pc = some (.l2i, 1)) (k : ZVV Y M C (pc + 1) L (ZI (zw x) :: S) g) : ZVV Y M C pc L (ZJ x :: S) g := by
  intro p l e s m args below meth c H locs ls F hX hH hS hL hO
  have hx := F.2.2.1
  have hb := F.2.2.2.1
  have hO1 := zok_cons.mp hO
  refine lv_l2i (v := Int32.ofInt (zw x)) hx hb (zfx_dec F hT) ?_ (k p l e s m args below meth c H locs ls F hX hH hS hL (zok_cons.mpr ⟨zw_ok _, hO1.2⟩))
  apply Int32.toInt.inj
  rw [Int64.toInt_toInt32, zJ_toInt hO1.1, zI_toInt (zw_ok _)]; rfl
theorem zb8_ok (x : Int) : -128 ≤ x.bmod 256 ∧ x.bmod 256 < 128 := by
  have h1 := Int.le_bmod (x := x) (m := 256) (by decide)
  have h2 := Int.bmod_lt (x := x) (m := 256) (by decide)
  omega
theorem zb16_ok (x : Int) : -32768 ≤ x.bmod 65536 ∧ x.bmod 65536 < 32768 := by
  have h1 := Int.le_bmod (x := x) (m := 65536) (by decide)
  have h2 := Int.bmod_lt (x := x) (m := 65536) (by decide)
  omega
theorem zs_i2b {x : Int} (hT : zat M pc = some (.i2b, 1)) (k : ZVV Y M C (pc + 1) L (ZI (x.bmod 256) :: S) g) : ZVV Y M C pc L (ZI x :: S) g := by
  intro p l e s m args below meth c H locs ls F hX hH hS hL hO
  have hx := F.2.2.1
  have hb := F.2.2.2.1
  have hO1 := zok_cons.mp hO
  have hz := zb8_ok x
  refine lv_i2b (v := Int32.ofInt (x.bmod 256)) hx hb (zfx_dec F hT) ?_ (k p l e s m args below meth c H locs ls F hX hH hS hL (zok_cons.mpr ⟨⟨by omega, by omega⟩, hO1.2⟩))
  apply Int32.toInt.inj
  rw [Int8.toInt_toInt32, Int32.toInt_toInt8, zI_toInt hO1.1, zI_toInt ⟨by omega, by omega⟩]
theorem zs_i2s {x : Int} (hT : zat M pc = some (.i2s, 1)) (k : ZVV Y M C (pc + 1) L (ZI (x.bmod 65536) :: S) g) : ZVV Y M C pc L (ZI x :: S) g := by
  intro p l e s m args below meth c H locs ls F hX hH hS hL hO
  have hx := F.2.2.1
  have hb := F.2.2.2.1
  have hO1 := zok_cons.mp hO
  have hz := zb16_ok x
  refine lv_i2s (v := Int32.ofInt (x.bmod 65536)) hx hb (zfx_dec F hT) ?_ (k p l e s m args below meth c H locs ls F hX hH hS hL (zok_cons.mpr ⟨⟨by omega, by omega⟩, hO1.2⟩))
  apply Int32.toInt.inj
  rw [Int16.toInt_toInt32, Int32.toInt_toInt16, zI_toInt hO1.1, zI_toInt ⟨by omega, by omega⟩]
theorem zs_dup {v : ZV} (hT : zat M pc = some (.dup, 1)) (hc : ∀ x, v ≠ ZJ x) (k : ZVV Y M C (pc + 1) L (v :: v :: S) g) : ZVV Y M C pc L (v :: S) g := by
  intro p l e s m args below meth c H locs ls F hX hH hS hL hO
  have hx := F.2.2.1
  have hb := F.2.2.2.1
  have hO1 := zok_cons.mp hO
  refine lv_dup hx hb (zfx_dec F hT) ?_ (k p l e s m args below meth c H locs ls F hX hH hS hL (zok_cons.mpr ⟨hO1.1, hO⟩))
  rcases v with x | x | x | x
  · rfl
  · exact absurd rfl (hc x)
  · rfl
  · rfl
theorem zcat1 {v : ZV} (hc : ∀ x, v ≠ ZJ x) : (zval Y v).category = 1 := by
  rcases v with x | x | x | x
  · rfl
  · exact absurd rfl (hc x)
  · rfl
  · rfl
theorem zs_dup_x1 {v u : ZV} (hT : zat M pc = some (.dup_x1, 1)) (hc : ∀ x, v ≠ ZJ x) (hc2 : ∀ x, u ≠ ZJ x) (k : ZVV Y M C (pc + 1) L (v :: u :: v :: S) g) : ZVV Y M C pc L (v :: u :: S) g := by
  intro p l e s m args below meth c H locs ls F hX hH hS hL hO
  have hx := F.2.2.1
  have hb := F.2.2.2.1
  have hO1 := zok_cons.mp hO
  have hO2 := zok_cons.mp hO1.2
  exact lv_dup_x1 hx hb (zfx_dec F hT) (zcat1 hc) (zcat1 hc2) (k p l e s m args below meth c H locs ls F hX hH hS hL (zok_cons.mpr ⟨hO1.1, zok_cons.mpr ⟨hO2.1, hO1.1 |> fun a => zok_cons.mpr ⟨a, hO2.2⟩⟩⟩))
theorem zs_dup2 {v u : ZV} (hT : zat M pc = some (.dup2, 1)) (hc : ∀ x, v ≠ ZJ x) (hc2 : ∀ x, u ≠ ZJ x) (k : ZVV Y M C (pc + 1) L (v :: u :: v :: u :: S) g) : ZVV Y M C pc L (v :: u :: S) g := by
  intro p l e s m args below meth c H locs ls F hX hH hS hL hO
  have hx := F.2.2.1
  have hb := F.2.2.2.1
  have hO1 := zok_cons.mp hO
  have hO2 := zok_cons.mp hO1.2
  exact lv_dup2_11 hx hb (zfx_dec F hT) (zcat1 hc) (zcat1 hc2) (k p l e s m args below meth c H locs ls F hX hH hS hL (zok_cons.mpr ⟨hO1.1, zok_cons.mpr ⟨hO2.1, hO⟩⟩))
theorem zs_pop {v : ZV} (hT : zat M pc = some (.pop, 1)) (hc : ∀ x, v ≠ ZJ x) (k : ZVV Y M C (pc + 1) L S g) : ZVV Y M C pc L (v :: S) g := by
  intro p l e s m args below meth c H locs ls F hX hH hS hL hO
  have hx := F.2.2.1
  have hb := F.2.2.2.1
  exact lv_pop hx hb (zfx_dec F hT) (zcat1 hc) (k p l e s m args below meth c H locs ls F hX hH hS hL (zok_cons.mp hO).2)
theorem zI_eqi {x y : Int} (hx : zok Y (ZI x)) (hy : zok Y (ZI y)) : Int32.ofInt x = Int32.ofInt y ↔ x = y := ⟨fun q => by have := congrArg Int32.toInt q; rwa [zI_toInt hx, zI_toInt hy] at this, fun q => by rw [q]⟩
theorem zI_lti {x y : Int} (hx : zok Y (ZI x)) (hy : zok Y (ZI y)) : Int32.ofInt x < Int32.ofInt y ↔ x < y := by rw [Int32.lt_iff_toInt_lt, zI_toInt hx, zI_toInt hy]
theorem zI_lei {x y : Int} (hx : zok Y (ZI x)) (hy : zok Y (ZI y)) : Int32.ofInt x ≤ Int32.ofInt y ↔ x ≤ y := by rw [Int32.le_iff_toInt_le, zI_toInt hx, zI_toInt hy]
theorem zok0 : zok Y (ZI 0) := ⟨by omega, by omega⟩
theorem zs_icmp_eq {x y off : Int} (tgt : Nat) (hT : zat M pc = some (.if_icmp .eq off, 3)) (ht : (pc : Int) + off = (tgt : Int)) (kt : x = y → ZVV Y M C tgt L S g) (kf : ¬ (x = y) → ZVV Y M C (pc + 3) L S g) : ZVV Y M C pc L (ZI y :: ZI x :: S) g := by
  intro p l e s m args below meth c H locs ls F hX hH hS hL hO
  have hx := F.2.2.1
  have hb := F.2.2.2.1
  have hO1 := zok_cons.mp hO
  have hO2 := zok_cons.mp hO1.2
  refine lv_icmp_eq (tgt := tgt) hx hb (zfx_dec F hT) ht (fun z => kt ?_ p l e s m args below meth c H locs ls F hX hH hS hL hO2.2) (fun z => kf ?_ p l e s m args below meth c H locs ls F hX hH hS hL hO2.2)
  · first | exact (zI_eqi hO2.1 hO1.1).mp z | exact fun w => z ((zI_eqi hO2.1 hO1.1).mpr w) | exact (zI_lti hO2.1 hO1.1).mp z | exact (zI_lti hO1.1 hO2.1).mp z | exact (zI_lei hO2.1 hO1.1).mp z | exact (zI_lei hO1.1 hO2.1).mp z
  · first | exact fun w => z ((zI_eqi hO2.1 hO1.1).mpr w) | exact fun w => w ((zI_eqi hO2.1 hO1.1).mp z) | exact fun w => z ((zI_lti hO2.1 hO1.1).mpr w) | exact fun w => z ((zI_lti hO1.1 hO2.1).mpr w) | exact fun w => z ((zI_lei hO2.1 hO1.1).mpr w) | exact fun w => z ((zI_lei hO1.1 hO2.1).mpr w)
theorem zs_if_eq {x off : Int} (tgt : Nat) (hT : zat M pc = some (.ifCond .eq off, 3)) (ht : (pc : Int) + off = (tgt : Int)) (kt : x = 0 → ZVV Y M C tgt L S g) (kf : ¬ (x = 0) → ZVV Y M C (pc + 3) L S g) : ZVV Y M C pc L (ZI x :: S) g := by
  intro p l e s m args below meth c H locs ls F hX hH hS hL hO
  have hx := F.2.2.1
  have hb := F.2.2.2.1
  have hO1 := zok_cons.mp hO
  refine lv_if_eq (tgt := tgt) hx hb (zfx_dec F hT) ht (fun z => kt ?_ p l e s m args below meth c H locs ls F hX hH hS hL hO1.2) (fun z => kf ?_ p l e s m args below meth c H locs ls F hX hH hS hL hO1.2)
  · first | exact (zI_eqi hO1.1 zok0).mp z | exact fun w => z ((zI_eqi hO1.1 zok0).mpr w) | exact (zI_lti hO1.1 zok0).mp z | exact (zI_lti zok0 hO1.1).mp z | exact (zI_lei hO1.1 zok0).mp z | exact (zI_lei zok0 hO1.1).mp z
  · first | exact fun w => z ((zI_eqi hO1.1 zok0).mpr w) | exact fun w => w ((zI_eqi hO1.1 zok0).mp z) | exact fun w => z ((zI_lti hO1.1 zok0).mpr w) | exact fun w => z ((zI_lti zok0 hO1.1).mpr w) | exact fun w => z ((zI_lei hO1.1 zok0).mpr w) | exact fun w => z ((zI_lei zok0 hO1.1).mpr w)
theorem zs_icmp_ne {x y off : Int} (tgt : Nat) (hT : zat M pc = some (.if_icmp .ne off, 3)) (ht : (pc : Int) + off = (tgt : Int)) (kt : x ≠ y → ZVV Y M C tgt L S g) (kf : ¬ (x ≠ y) → ZVV Y M C (pc + 3) L S g) : ZVV Y M C pc L (ZI y :: ZI x :: S) g := by
  intro p l e s m args below meth c H locs ls F hX hH hS hL hO
  have hx := F.2.2.1
  have hb := F.2.2.2.1
  have hO1 := zok_cons.mp hO
  have hO2 := zok_cons.mp hO1.2
  refine lv_icmp_ne (tgt := tgt) hx hb (zfx_dec F hT) ht (fun z => kt ?_ p l e s m args below meth c H locs ls F hX hH hS hL hO2.2) (fun z => kf ?_ p l e s m args below meth c H locs ls F hX hH hS hL hO2.2)
  · first | exact (zI_eqi hO2.1 hO1.1).mp z | exact fun w => z ((zI_eqi hO2.1 hO1.1).mpr w) | exact (zI_lti hO2.1 hO1.1).mp z | exact (zI_lti hO1.1 hO2.1).mp z | exact (zI_lei hO2.1 hO1.1).mp z | exact (zI_lei hO1.1 hO2.1).mp z
  · first | exact fun w => z ((zI_eqi hO2.1 hO1.1).mpr w) | exact fun w => w ((zI_eqi hO2.1 hO1.1).mp z) | exact fun w => z ((zI_lti hO2.1 hO1.1).mpr w) | exact fun w => z ((zI_lti hO1.1 hO2.1).mpr w) | exact fun w => z ((zI_lei hO2.1 hO1.1).mpr w) | exact fun w => z ((zI_lei hO1.1 hO2.1).mpr w)
theorem zs_if_ne {x off : Int} (tgt : Nat) (hT : zat M pc = some (.ifCond .ne off, 3)) (ht : (pc : Int) + off = (tgt : Int)) (kt : x ≠ 0 → ZVV Y M C tgt L S g) (kf : ¬ (x ≠ 0) → ZVV Y M C (pc + 3) L S g) : ZVV Y M C pc L (ZI x :: S) g := by
  intro p l e s m args below meth c H locs ls F hX hH hS hL hO
  have hx := F.2.2.1
  have hb := F.2.2.2.1
  have hO1 := zok_cons.mp hO
  refine lv_if_ne (tgt := tgt) hx hb (zfx_dec F hT) ht (fun z => kt ?_ p l e s m args below meth c H locs ls F hX hH hS hL hO1.2) (fun z => kf ?_ p l e s m args below meth c H locs ls F hX hH hS hL hO1.2)
  · first | exact (zI_eqi hO1.1 zok0).mp z | exact fun w => z ((zI_eqi hO1.1 zok0).mpr w) | exact (zI_lti hO1.1 zok0).mp z | exact (zI_lti zok0 hO1.1).mp z | exact (zI_lei hO1.1 zok0).mp z | exact (zI_lei zok0 hO1.1).mp z
  · first | exact fun w => z ((zI_eqi hO1.1 zok0).mpr w) | exact fun w => w ((zI_eqi hO1.1 zok0).mp z) | exact fun w => z ((zI_lti hO1.1 zok0).mpr w) | exact fun w => z ((zI_lti zok0 hO1.1).mpr w) | exact fun w => z ((zI_lei hO1.1 zok0).mpr w) | exact fun w => z ((zI_lei zok0 hO1.1).mpr w)
theorem zs_icmp_lt {x y off : Int} (tgt : Nat) (hT : zat M pc = some (.if_icmp .lt off, 3)) (ht : (pc : Int) + off = (tgt : Int)) (kt : x < y → ZVV Y M C tgt L S g) (kf : ¬ (x < y) → ZVV Y M C (pc + 3) L S g) : ZVV Y M C pc L (ZI y :: ZI x :: S) g := by
  intro p l e s m args below meth c H locs ls F hX hH hS hL hO
  have hx := F.2.2.1
  have hb := F.2.2.2.1
  have hO1 := zok_cons.mp hO
  have hO2 := zok_cons.mp hO1.2
  refine lv_icmp_lt (tgt := tgt) hx hb (zfx_dec F hT) ht (fun z => kt ?_ p l e s m args below meth c H locs ls F hX hH hS hL hO2.2) (fun z => kf ?_ p l e s m args below meth c H locs ls F hX hH hS hL hO2.2)
  · first | exact (zI_eqi hO2.1 hO1.1).mp z | exact fun w => z ((zI_eqi hO2.1 hO1.1).mpr w) | exact (zI_lti hO2.1 hO1.1).mp z | exact (zI_lti hO1.1 hO2.1).mp z | exact (zI_lei hO2.1 hO1.1).mp z | exact (zI_lei hO1.1 hO2.1).mp z
  · first | exact fun w => z ((zI_eqi hO2.1 hO1.1).mpr w) | exact fun w => w ((zI_eqi hO2.1 hO1.1).mp z) | exact fun w => z ((zI_lti hO2.1 hO1.1).mpr w) | exact fun w => z ((zI_lti hO1.1 hO2.1).mpr w) | exact fun w => z ((zI_lei hO2.1 hO1.1).mpr w) | exact fun w => z ((zI_lei hO1.1 hO2.1).mpr w)
theorem zs_if_lt {x off : Int} (tgt : Nat) (hT : zat M pc = some (.ifCond .lt off, 3)) (ht : (pc : Int) + off = (tgt : Int)) (kt : x < 0 → ZVV Y M C tgt L S g) (kf : ¬ (x < 0) → ZVV Y M C (pc + 3) L S g) : ZVV Y M C pc L (ZI x :: S) g := by
  intro p l e s m args below meth c H locs ls F hX hH hS hL hO
  have hx := F.2.2.1
  have hb := F.2.2.2.1
  have hO1 := zok_cons.mp hO
  refine lv_if_lt (tgt := tgt) hx hb (zfx_dec F hT) ht (fun z => kt ?_ p l e s m args below meth c H locs ls F hX hH hS hL hO1.2) (fun z => kf ?_ p l e s m args below meth c H locs ls F hX hH hS hL hO1.2)
  · first | exact (zI_eqi hO1.1 zok0).mp z | exact fun w => z ((zI_eqi hO1.1 zok0).mpr w) | exact (zI_lti hO1.1 zok0).mp z | exact (zI_lti zok0 hO1.1).mp z | exact (zI_lei hO1.1 zok0).mp z | exact (zI_lei zok0 hO1.1).mp z
  · first | exact fun w => z ((zI_eqi hO1.1 zok0).mpr w) | exact fun w => w ((zI_eqi hO1.1 zok0).mp z) | exact fun w => z ((zI_lti hO1.1 zok0).mpr w) | exact fun w => z ((zI_lti zok0 hO1.1).mpr w) | exact fun w => z ((zI_lei hO1.1 zok0).mpr w) | exact fun w => z ((zI_lei zok0 hO1.1).mpr w)
theorem zs_icmp_ge {x y off : Int} (tgt : Nat) (hT : zat M pc = some (.if_icmp .ge off, 3)) (ht : (pc : Int) + off = (tgt : Int)) (kt : y ≤ x → ZVV Y M C tgt L S g) (kf : ¬ (y ≤ x) → ZVV Y M C (pc + 3) L S g) : ZVV Y M C pc L (ZI y :: ZI x :: S) g := by
  intro p l e s m args below meth c H locs ls F hX hH hS hL hO
  have hx := F.2.2.1
  have hb := F.2.2.2.1
  have hO1 := zok_cons.mp hO
  have hO2 := zok_cons.mp hO1.2
  refine lv_icmp_ge (tgt := tgt) hx hb (zfx_dec F hT) ht (fun z => kt ?_ p l e s m args below meth c H locs ls F hX hH hS hL hO2.2) (fun z => kf ?_ p l e s m args below meth c H locs ls F hX hH hS hL hO2.2)
  · first | exact (zI_eqi hO2.1 hO1.1).mp z | exact fun w => z ((zI_eqi hO2.1 hO1.1).mpr w) | exact (zI_lti hO2.1 hO1.1).mp z | exact (zI_lti hO1.1 hO2.1).mp z | exact (zI_lei hO2.1 hO1.1).mp z | exact (zI_lei hO1.1 hO2.1).mp z
  · first | exact fun w => z ((zI_eqi hO2.1 hO1.1).mpr w) | exact fun w => w ((zI_eqi hO2.1 hO1.1).mp z) | exact fun w => z ((zI_lti hO2.1 hO1.1).mpr w) | exact fun w => z ((zI_lti hO1.1 hO2.1).mpr w) | exact fun w => z ((zI_lei hO2.1 hO1.1).mpr w) | exact fun w => z ((zI_lei hO1.1 hO2.1).mpr w)
theorem zs_if_ge {x off : Int} (tgt : Nat) (hT : zat M pc = some (.ifCond .ge off, 3)) (ht : (pc : Int) + off = (tgt : Int)) (kt : 0 ≤ x → ZVV Y M C tgt L S g) (kf : ¬ (0 ≤ x) → ZVV Y M C (pc + 3) L S g) : ZVV Y M C pc L (ZI x :: S) g := by
  intro p l e s m args below meth c H locs ls F hX hH hS hL hO
  have hx := F.2.2.1
  have hb := F.2.2.2.1
  have hO1 := zok_cons.mp hO
  refine lv_if_ge (tgt := tgt) hx hb (zfx_dec F hT) ht (fun z => kt ?_ p l e s m args below meth c H locs ls F hX hH hS hL hO1.2) (fun z => kf ?_ p l e s m args below meth c H locs ls F hX hH hS hL hO1.2)
  · first | exact (zI_eqi hO1.1 zok0).mp z | exact fun w => z ((zI_eqi hO1.1 zok0).mpr w) | exact (zI_lti hO1.1 zok0).mp z | exact (zI_lti zok0 hO1.1).mp z | exact (zI_lei hO1.1 zok0).mp z | exact (zI_lei zok0 hO1.1).mp z
  · first | exact fun w => z ((zI_eqi hO1.1 zok0).mpr w) | exact fun w => w ((zI_eqi hO1.1 zok0).mp z) | exact fun w => z ((zI_lti hO1.1 zok0).mpr w) | exact fun w => z ((zI_lti zok0 hO1.1).mpr w) | exact fun w => z ((zI_lei hO1.1 zok0).mpr w) | exact fun w => z ((zI_lei zok0 hO1.1).mpr w)
theorem zs_icmp_gt {x y off : Int} (tgt : Nat) (hT : zat M pc = some (.if_icmp .gt off, 3)) (ht : (pc : Int) + off = (tgt : Int)) (kt : y < x → ZVV Y M C tgt L S g) (kf : ¬ (y < x) → ZVV Y M C (pc + 3) L S g) : ZVV Y M C pc L (ZI y :: ZI x :: S) g := by
  intro p l e s m args below meth c H locs ls F hX hH hS hL hO
  have hx := F.2.2.1
  have hb := F.2.2.2.1
  have hO1 := zok_cons.mp hO
  have hO2 := zok_cons.mp hO1.2
  refine lv_icmp_gt (tgt := tgt) hx hb (zfx_dec F hT) ht (fun z => kt ?_ p l e s m args below meth c H locs ls F hX hH hS hL hO2.2) (fun z => kf ?_ p l e s m args below meth c H locs ls F hX hH hS hL hO2.2)
  · first | exact (zI_eqi hO2.1 hO1.1).mp z | exact fun w => z ((zI_eqi hO2.1 hO1.1).mpr w) | exact (zI_lti hO2.1 hO1.1).mp z | exact (zI_lti hO1.1 hO2.1).mp z | exact (zI_lei hO2.1 hO1.1).mp z | exact (zI_lei hO1.1 hO2.1).mp z
  · first | exact fun w => z ((zI_eqi hO2.1 hO1.1).mpr w) | exact fun w => w ((zI_eqi hO2.1 hO1.1).mp z) | exact fun w => z ((zI_lti hO2.1 hO1.1).mpr w) | exact fun w => z ((zI_lti hO1.1 hO2.1).mpr w) | exact fun w => z ((zI_lei hO2.1 hO1.1).mpr w) | exact fun w => z ((zI_lei hO1.1 hO2.1).mpr w)
theorem zs_if_gt {x off : Int} (tgt : Nat) (hT : zat M pc = some (.ifCond .gt off, 3)) (ht : (pc : Int) + off = (tgt : Int)) (kt : 0 < x → ZVV Y M C tgt L S g) (kf : ¬ (0 < x) → ZVV Y M C (pc + 3) L S g) : ZVV Y M C pc L (ZI x :: S) g := by
  intro p l e s m args below meth c H locs ls F hX hH hS hL hO
  have hx := F.2.2.1
  have hb := F.2.2.2.1
  have hO1 := zok_cons.mp hO
  refine lv_if_gt (tgt := tgt) hx hb (zfx_dec F hT) ht (fun z => kt ?_ p l e s m args below meth c H locs ls F hX hH hS hL hO1.2) (fun z => kf ?_ p l e s m args below meth c H locs ls F hX hH hS hL hO1.2)
  · first | exact (zI_eqi hO1.1 zok0).mp z | exact fun w => z ((zI_eqi hO1.1 zok0).mpr w) | exact (zI_lti hO1.1 zok0).mp z | exact (zI_lti zok0 hO1.1).mp z | exact (zI_lei hO1.1 zok0).mp z | exact (zI_lei zok0 hO1.1).mp z
  · first | exact fun w => z ((zI_eqi hO1.1 zok0).mpr w) | exact fun w => w ((zI_eqi hO1.1 zok0).mp z) | exact fun w => z ((zI_lti hO1.1 zok0).mpr w) | exact fun w => z ((zI_lti zok0 hO1.1).mpr w) | exact fun w => z ((zI_lei hO1.1 zok0).mpr w) | exact fun w => z ((zI_lei zok0 hO1.1).mpr w)
theorem zs_icmp_le {x y off : Int} (tgt : Nat) (hT : zat M pc = some (.if_icmp .le off, 3)) (ht : (pc : Int) + off = (tgt : Int)) (kt : x ≤ y → ZVV Y M C tgt L S g) (kf : ¬ (x ≤ y) → ZVV Y M C (pc + 3) L S g) : ZVV Y M C pc L (ZI y :: ZI x :: S) g := by
  intro p l e s m args below meth c H locs ls F hX hH hS hL hO
  have hx := F.2.2.1
  have hb := F.2.2.2.1
  have hO1 := zok_cons.mp hO
  have hO2 := zok_cons.mp hO1.2
  refine lv_icmp_le (tgt := tgt) hx hb (zfx_dec F hT) ht (fun z => kt ?_ p l e s m args below meth c H locs ls F hX hH hS hL hO2.2) (fun z => kf ?_ p l e s m args below meth c H locs ls F hX hH hS hL hO2.2)
  · first | exact (zI_eqi hO2.1 hO1.1).mp z | exact fun w => z ((zI_eqi hO2.1 hO1.1).mpr w) | exact (zI_lti hO2.1 hO1.1).mp z | exact (zI_lti hO1.1 hO2.1).mp z | exact (zI_lei hO2.1 hO1.1).mp z | exact (zI_lei hO1.1 hO2.1).mp z
  · first | exact fun w => z ((zI_eqi hO2.1 hO1.1).mpr w) | exact fun w => w ((zI_eqi hO2.1 hO1.1).mp z) | exact fun w => z ((zI_lti hO2.1 hO1.1).mpr w) | exact fun w => z ((zI_lti hO1.1 hO2.1).mpr w) | exact fun w => z ((zI_lei hO2.1 hO1.1).mpr w) | exact fun w => z ((zI_lei hO1.1 hO2.1).mpr w)
theorem zs_if_le {x off : Int} (tgt : Nat) (hT : zat M pc = some (.ifCond .le off, 3)) (ht : (pc : Int) + off = (tgt : Int)) (kt : x ≤ 0 → ZVV Y M C tgt L S g) (kf : ¬ (x ≤ 0) → ZVV Y M C (pc + 3) L S g) : ZVV Y M C pc L (ZI x :: S) g := by
  intro p l e s m args below meth c H locs ls F hX hH hS hL hO
  have hx := F.2.2.1
  have hb := F.2.2.2.1
  have hO1 := zok_cons.mp hO
  refine lv_if_le (tgt := tgt) hx hb (zfx_dec F hT) ht (fun z => kt ?_ p l e s m args below meth c H locs ls F hX hH hS hL hO1.2) (fun z => kf ?_ p l e s m args below meth c H locs ls F hX hH hS hL hO1.2)
  · first | exact (zI_eqi hO1.1 zok0).mp z | exact fun w => z ((zI_eqi hO1.1 zok0).mpr w) | exact (zI_lti hO1.1 zok0).mp z | exact (zI_lti zok0 hO1.1).mp z | exact (zI_lei hO1.1 zok0).mp z | exact (zI_lei zok0 hO1.1).mp z
  · first | exact fun w => z ((zI_eqi hO1.1 zok0).mpr w) | exact fun w => w ((zI_eqi hO1.1 zok0).mp z) | exact fun w => z ((zI_lti hO1.1 zok0).mpr w) | exact fun w => z ((zI_lti zok0 hO1.1).mpr w) | exact fun w => z ((zI_lei hO1.1 zok0).mpr w) | exact fun w => z ((zI_lei zok0 hO1.1).mpr w)
theorem zs_goto {off : Int} (tgt : Nat) (hT : zat M pc = some (.goto off, 3)) (ht : (pc : Int) + off = (tgt : Int)) (k : ZVV Y M C tgt L S g) : ZVV Y M C pc L S g := by
  intro p l e s m args below meth c H locs ls F hX hH hS hL hO
  have hx := F.2.2.1
  have hb := F.2.2.2.1
  exact lv_goto (tgt := tgt) hx hb (zfx_dec F hT) ht (k p l e s m args below meth c H locs ls F hX hH hS hL hO)
theorem zs_tsIn {dflt lo hi : Int} {offs : Array Int} {len : Nat} {x off : Int} (tgt : Nat) (hT : zat M pc = some (.tableswitch dflt lo hi offs, len)) (h1 : ¬ x < lo) (h2 : ¬ hi < x) (ho : offs[(x - lo).toNat]? = some off) (ht : (pc : Int) + off = (tgt : Int)) (k : ZVV Y M C tgt L S g) : ZVV Y M C pc L (ZI x :: S) g := by
  intro p l e s m args below meth c H locs ls F hX hH hS hL hO
  have hx := F.2.2.1
  have hb := F.2.2.2.1
  have hO1 := zok_cons.mp hO
  have e1 : (Int32.ofInt x).toInt = x := zI_toInt hO1.1
  exact lv_tableIn (tgt := tgt) hx hb (zfx_dec F hT) (by rw [e1]; exact h1) (by rw [e1]; exact h2) (by rw [e1]; exact ho) ht (k p l e s m args below meth c H locs ls F hX hH hS hL hO1.2)
theorem zs_tsOut {dflt lo hi : Int} {offs : Array Int} {len : Nat} {x : Int} (tgt : Nat) (hT : zat M pc = some (.tableswitch dflt lo hi offs, len)) (h : x < lo ∨ hi < x) (ht : (pc : Int) + dflt = (tgt : Int)) (k : ZVV Y M C tgt L S g) : ZVV Y M C pc L (ZI x :: S) g := by
  intro p l e s m args below meth c H locs ls F hX hH hS hL hO
  have hx := F.2.2.1
  have hb := F.2.2.2.1
  have hO1 := zok_cons.mp hO
  have e1 : (Int32.ofInt x).toInt = x := zI_toInt hO1.1
  exact lv_tableOut (tgt := tgt) hx hb (zfx_dec F hT) (by rw [e1]; exact h) ht (k p l e s m args below meth c H locs ls F hX hH hS hL hO1.2)
theorem zs_ls {dflt : Int} {ps : Array (Int × Int)} {len : Nat} {x off : Int} (tgt : Nat) (hT : zat M pc = some (.lookupswitch dflt ps, len)) (hp : (ps.toList.zip (ps.toList.drop 1)).all (fun (a, next) => a.1 < next.1) = true) (ho : Op.lookupswitch.offset ps.toList dflt x = off) (ht : (pc : Int) + off = (tgt : Int)) (k : ZVV Y M C tgt L S g) : ZVV Y M C pc L (ZI x :: S) g := by
  intro p l e s m args below meth c H locs ls F hX hH hS hL hO
  have hx := F.2.2.1
  have hb := F.2.2.2.1
  have hO1 := zok_cons.mp hO
  have e1 : (Int32.ofInt x).toInt = x := zI_toInt hO1.1
  exact lv_lookup (tgt := tgt) hx hb (zfx_dec F hT) hp (by rw [e1]; exact ho) ht (k p l e s m args below meth c H locs ls F hX hH hS hL hO1.2)
end ZS
