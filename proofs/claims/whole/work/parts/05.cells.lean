section ZM1
variable {Y : ZW} {M : ZM} {C : ZCx} {pc : Nat} {L S : List ZV} {g : ZG}
def zmv (t : Nat × Nat × Nat) (i : Nat) (x : Int) : ZV := match t.1 with
  | 0 => ZI x
  | 1 => ZI x
  | 3 => ZR t.2.1 i
  | 4 => ZR t.2.1 t.2.2
  | _ => ZR t.2.1 x.toNat
def zmc (t : Nat × Nat × Nat) (x : Int) : Prop := match t.1 with
  | 6 => 0 ≤ x
  | _ => True
theorem zmv_val {t : Nat × Nat × Nat} {i : Nat} {x : Int} (h : zmc t x) (h6 : t.1 < 7) (h2 : t.1 ≠ 2) : zval Y (zmv t i x) = zfv Y t i x := by
  obtain ⟨a, b, c⟩ := t
  match a with
  | 0 => rfl
  | 1 => rfl
  | 2 => exact absurd rfl h2
  | 3 => rfl
  | 4 => rfl
  | 5 => rfl
  | 6 =>
    have h : 0 ≤ x := h
    show Value.ref (zad Y b x.toNat) = if x < 0 then .null else .ref (zad Y b x.toNat)
    rw [if_neg (by omega)]
  | k + 7 => exact absurd h6 (by show ¬ k + 7 < 7; omega)
theorem zmv_ok {t : Nat × Nat × Nat} {i : Nat} {x : Int} (h : zmc t x) (h6 : t.1 < 7) (h2 : t.1 ≠ 2) (hr : zfr Y t i x) : zok Y (zmv t i x) := by
  obtain ⟨a, b, c⟩ := t
  match a with
  | 0 => exact hr
  | 1 => have hr : 0 ≤ x ∧ x ≤ 1 := hr; exact ⟨by omega, by omega⟩
  | 2 => exact absurd rfl h2
  | 3 => exact hr
  | 4 => exact hr
  | 5 => exact hr
  | 6 => exact hr h
  | k + 7 => exact absurd h6 (by show ¬ k + 7 < 7; omega)
theorem zfld_tag : ∀ f, f < 9 → ∀ k, k < (zfam f).2 → ((zfld f).getD k (9, 0, 0)).1 < 7 ∧ ((zfld f).getD k (9, 0, 0)).1 ≠ 2 := by decide +kernel
theorem zcl_lt {f : Nat} {r : vw_C} (h : vwCl[f]? = some r) : f < 9 := (List.getElem?_eq_some_iff.mp h).1
/-- an object's cell -/
theorem zcell_o {f i : Nat} {h : Nat → Int} {N : Nat} (hf : zfam f = (0, N)) : zcell Y f i h = .inr (f, (List.range N).map fun k => zfv Y ((zfld f).getD k (9, 0, 0)) i (h k)) := by
  unfold zcell; rw [hf]; rfl
theorem zs_getfield {idx f k q : Nat} (hT : zat M pc = some (.getfield idx, 3)) (hP : zPl M idx = some (.inl (f, k))) (hc : zmc ((zfld f).getD k (9, 0, 0)) (g f q k)) (kk : ZVV Y M C (pc + 3) L (zmv ((zfld f).getD k (9, 0, 0)) q (g f q k) :: S) g) : ZVV Y M C pc L (ZR f q :: S) g := by
  intro p l e s m args below meth c H locs ls F hX hH hS hL hO
  have hx := F.2.2.1
  have hb := F.2.2.2.1
  have hO1 := zok_cons.mp hO
  obtain ⟨r, hr, hk, hlink⟩ := F.1.2.2.2.2 idx _ hP
  obtain ⟨c1, c2, c3, c4, c5⟩ := zcl_all hr
  obtain ⟨q0, hq0⟩ := List.getElem?_of_mem (show (f, q) ∈ zids Y from hO1.1)
  have hk2 : k < (zfam f).2 := by rw [c4]; exact hk
  have ht := zfld_tag f (zcl_lt hr) k hk2
  have hw : (zws Y g)[q0]? = some (zad Y f q, .inr (f, (List.range r.2.2).map fun k => zfv Y ((zfld f).getD k (9, 0, 0)) q (g f q k))) := by rw [zws_at hq0, zcell_o c4]
  have hg : zok Y (zmv ((zfld f).getD k (9, 0, 0)) q (g f q k)) := zmv_ok hc ht.1 ht.2 ((hH.2.2 f q hO1.1).1 (by rw [c4]) k hk2)
  have hkk := kk p l e s m args below meth c H locs ls F hX hH hS hL (zok_cons.mpr ⟨hg, hO1.2⟩)
  rw [List.map_cons, zmv_val hc ht.1 ht.2] at hkk
  have hd : (r.2.1 k).1 = r.1 := (c5 k hk).1
  exact va_get (D := zD Y) (C := r.1) (T := r.2.1) (N := r.2.2) (ref := r.1) hx hb F.2.2.2.2.2.2.2.2.1 c1 F.2.2.2.2.2.2.2.1 F.2.2.2.2.2.2.2.2.2.1 hH.1 q0 hw hr k hk (F.2.2.2.2.2.2.2.2.1 _ hlink) (fun x hx => by rw [hd] at hx; exact hx) (v := zfv Y ((zfld f).getD k (9, 0, 0)) q (g f q k)) (by rw [List.getElem?_map, List.getElem?_range hk]; rfl) (zfx_dec F hT) hkk
/-- what may be put into a field -/
def zpv (t : Nat × Nat × Nat) (v : ZV) : Option Int := match t.1, v with
  | 0, .inl x => some x
  | 1, .inl x => if 0 ≤ x ∧ x ≤ 1 then some x else none
  | 5, .inr (.inr (.inl q)) => if q.1 = t.2.1 then some q.2 else none
  | 6, .inr (.inr (.inl q)) => if q.1 = t.2.1 then some q.2 else none
  | _, _ => none
theorem zbool_n {x : Int} (h : 0 ≤ x ∧ x ≤ 1) : narrow .boolean (.int (Int32.ofInt x)) = .int (Int32.ofInt x) ∧ fits .boolean (.int (Int32.ofInt x)) = true := by
  have : x = 0 ∨ x = 1 := by omega
  rcases this with rfl | rfl <;> exact ⟨by decide, by decide⟩
theorem zpv_ok {t : Nat × Nat × Nat} {i : Nat} {v : ZV} {x : Int} {C : String} {fd : String × String × String × Bool} (h : zpv t v = some x) (hv : zok Y v) (ht : ztag t C fd) : zval Y v = zfv Y t i x ∧ zfr Y t i x ∧ fd.2.2.2 = false ∧ ∃ ty, parseFieldDescriptor fd.2.2.1 = some ty ∧ narrow ty (zval Y v) = zval Y v ∧ fits ty (zval Y v) = true := by
  obtain ⟨a, b, c⟩ := t
  obtain ⟨-, ht⟩ := ht
  unfold zpv at h
  split at h
  · rename_i y e1
    cases h
    have e1 : a = 0 := e1
    subst e1
    exact ⟨rfl, hv, ht.1, _, ht.2, rfl, rfl⟩
  · rename_i y e1
    have e1 : a = 1 := e1
    subst e1
    split at h
    · rename_i hy
      cases h
      exact ⟨rfl, hy, ht.1, _, ht.2, (zbool_n hy).1, (zbool_n hy).2⟩
    · cases h
  · rename_i q e1
    have e1 : a = 5 := e1
    subst e1
    split at h
    · rename_i hq
      cases h
      have hq : q.1 = b := hq
      subst hq
      exact ⟨rfl, hv, ht.1, _, ht.2, rfl, rfl⟩
    · cases h
  · rename_i q e1
    have e1 : a = 6 := e1
    subst e1
    split at h
    · rename_i hq
      cases h
      have hq : q.1 = b := hq
      subst hq
      refine ⟨?_, fun _ => hv, ht.1, _, ht.2, rfl, rfl⟩
      show Value.ref _ = if (q.2 : Int) < 0 then .null else .ref _
      rw [if_neg (by omega)]
      rfl
    · cases h
  · cases h
theorem zs_putfield {idx f k q : Nat} {v : ZV} {x : Int} (hT : zat M pc = some (.putfield idx, 3)) (hP : zPl M idx = some (.inl (f, k))) (hv : zpv ((zfld f).getD k (9, 0, 0)) v = some x) (kk : ZVV Y M C (pc + 3) L S (zup g f q k x)) : ZVV Y M C pc L (v :: ZR f q :: S) g := by
  intro p l e s m args below meth c H locs ls F hX hH hS hL hO
  have hx := F.2.2.1
  have hb := F.2.2.2.1
  have hO1 := zok_cons.mp hO
  have hO2 := zok_cons.mp hO1.2
  obtain ⟨r, hr, hk, hlink⟩ := F.1.2.2.2.2 idx _ hP
  obtain ⟨c1, ⟨ty0, c2⟩, c3, c4, c5⟩ := zcl_all hr
  obtain ⟨q0, hq0⟩ := List.getElem?_of_mem (show (f, q) ∈ zids Y from hO2.1)
  have hk2 : k < (zfam f).2 := by rw [c4]; exact hk
  have hw : (zws Y g)[q0]? = some (zad Y f q, .inr (f, (List.range r.2.2).map fun k => zfv Y ((zfld f).getD k (9, 0, 0)) q (g f q k))) := by rw [zws_at hq0, zcell_o c4]
  obtain ⟨v1, v2, v3, ty, v4, v5, v6⟩ := zpv_ok (Y := Y) (i := q) hv hO1.1 (c5 k hk)
  have hd : (r.2.1 k).1 = r.1 := (c5 k hk).1
  refine va_put (D := zD Y) (C := r.1) (T := r.2.1) (N := r.2.2) (ref := r.1) hx hb F.2.2.2.2.2.2.2.2.1 c1 ty0 c2 c3 F.2.2.2.2.2.2.2.1 F.2.2.2.2.2.2.2.2.2.1 hH.1 hH.2.1 hS q0 hw hr k hk (F.2.2.2.2.2.2.2.2.1 _ hlink) (fun x hx => by rw [hd] at hx; exact hx) v3 v4 v5 v6 (by rw [List.length_map, List.length_range]; exact hk) (zfx_dec F hT) (fun H1 locs1 hP1 hD1 hS1 => ?_)
  have e0 : (zws Y g).set q0 (zad Y f q, .inr (f, ((List.range r.2.2).map fun k => zfv Y ((zfld f).getD k (9, 0, 0)) q (g f q k)).set k (zval Y v))) = zws Y (zup g f q k x) := by
    rw [zws_set hH.2.1 hq0, zcell_o c4]
    congr 4
    apply List.ext_getElem?
    intro j
    rw [List.getElem?_set, List.getElem?_map, List.getElem?_map, List.length_map, List.length_range]
    by_cases hj : k = j
    · subst hj
      rw [if_pos rfl, if_pos hk, List.getElem?_range hk, v1]
      simp [zup]
    · rw [if_neg hj]
      cases hh : (List.range r.2.2)[j]? with
      | none => rfl
      | some j' =>
        have : j' = j := by
          have := (List.getElem?_eq_some_iff.mp hh).2
          rw [List.getElem_range] at this; exact this.symm
        subst this
        show some _ = some _
        rw [zup_at]
        simp [Ne.symm hj]
  rw [e0] at hP1 hD1
  exact kk p l e s m args below meth c H1 locs1 ls F hX ⟨hP1, hD1, zrg_up hH.2.2 (fun _ => v2) (fun _ => by rw [c4]; trivial)⟩ hS1 hL hO2.2
theorem zs_iald {f q : Nat} {j : Int} {n : Nat} (hT : zat M pc = some (.iaload, 1)) (hf : zfam f = (1, n)) (h0 : 0 ≤ j) (h1 : j < n) (kk : ZVV Y M C (pc + 1) L (ZI (g f q j.toNat) :: S) g) : ZVV Y M C pc L (ZI j :: ZR f q :: S) g := by
  intro p l e s m args below meth c H locs ls F hX hH hS hL hO
  have hx := F.2.2.1
  have hb := F.2.2.2.1
  have hO1 := zok_cons.mp hO
  have hO2 := zok_cons.mp hO1.2
  obtain ⟨q0, hq0⟩ := List.getElem?_of_mem (show (f, q) ∈ zids Y from hO2.1)
  have hw : (zws Y g)[q0]? = some (zad Y f q, zcell Y f q (g f q)) := zws_at hq0
  obtain ⟨hin, he⟩ := zI_in hO1.1 h0 h1
  have hr := (hH.2.2 f q hO2.1).2 j.toNat (by rw [hf]; show j.toNat < n; omega)
  rw [hf] at hr
  have hkk := kk p l e s m args below meth c H locs ls F hX hH hS hL (zok_cons.mpr ⟨hr, hO2.2⟩)
  have hc : zcell Y f q (g f q) = .inl (zcA Y 1, n, .inl fun j => Int32.ofInt (g f q j)) := by unfold zcell; rw [hf]; rfl
  rw [hc] at hw
  refine va_iald hx hb F.2.2.2.2.2.2.2.2.2.1 hH.1 q0 0 hw rfl hin (zfx_dec F hT) ?_
  rw [he]
  exact hkk
theorem zs_bald {f q : Nat} {j : Int} {n : Nat} (hT : zat M pc = some (.baload, 1)) (hf : zfam f = (2, n)) (h0 : 0 ≤ j) (h1 : j < n) (kk : ZVV Y M C (pc + 1) L (ZI (g f q j.toNat) :: S) g) : ZVV Y M C pc L (ZI j :: ZR f q :: S) g := by
  intro p l e s m args below meth c H locs ls F hX hH hS hL hO
  have hx := F.2.2.1
  have hb := F.2.2.2.1
  have hO1 := zok_cons.mp hO
  have hO2 := zok_cons.mp hO1.2
  obtain ⟨q0, hq0⟩ := List.getElem?_of_mem (show (f, q) ∈ zids Y from hO2.1)
  have hw : (zws Y g)[q0]? = some (zad Y f q, zcell Y f q (g f q)) := zws_at hq0
  obtain ⟨hin, he⟩ := zI_in hO1.1 h0 h1
  have hr := (hH.2.2 f q hO2.1).2 j.toNat (by rw [hf]; show j.toNat < n; omega)
  rw [hf] at hr
  have hkk := kk p l e s m args below meth c H locs ls F hX hH hS hL (zok_cons.mpr ⟨by have hr : -128 ≤ g f q j.toNat ∧ g f q j.toNat < 128 := hr; exact ⟨by omega, by omega⟩, hO2.2⟩)
  have hc : zcell Y f q (g f q) = .inl (zcA Y 2, n, .inl fun j => Int32.ofInt (g f q j)) := by unfold zcell; rw [hf]; rfl
  rw [hc] at hw
  refine va_bald hx hb F.2.2.2.2.2.2.2.2.2.1 hH.1 q0 1 hw rfl hin (zfx_dec F hT) ?_
  rw [he]
  exact hkk
theorem zs_zald {f q : Nat} {j : Int} {n : Nat} (hT : zat M pc = some (.baload, 1)) (hf : zfam f = (3, n)) (h0 : 0 ≤ j) (h1 : j < n) (kk : ZVV Y M C (pc + 1) L (ZI (g f q j.toNat) :: S) g) : ZVV Y M C pc L (ZI j :: ZR f q :: S) g := by
  intro p l e s m args below meth c H locs ls F hX hH hS hL hO
  have hx := F.2.2.1
  have hb := F.2.2.2.1
  have hO1 := zok_cons.mp hO
  have hO2 := zok_cons.mp hO1.2
  obtain ⟨q0, hq0⟩ := List.getElem?_of_mem (show (f, q) ∈ zids Y from hO2.1)
  have hw : (zws Y g)[q0]? = some (zad Y f q, zcell Y f q (g f q)) := zws_at hq0
  obtain ⟨hin, he⟩ := zI_in hO1.1 h0 h1
  have hr := (hH.2.2 f q hO2.1).2 j.toNat (by rw [hf]; show j.toNat < n; omega)
  rw [hf] at hr
  have hkk := kk p l e s m args below meth c H locs ls F hX hH hS hL (zok_cons.mpr ⟨by have hr : 0 ≤ g f q j.toNat ∧ g f q j.toNat ≤ 1 := hr; exact ⟨by omega, by omega⟩, hO2.2⟩)
  have hc : zcell Y f q (g f q) = .inl (zcA Y 3, n, .inl fun j => Int32.ofInt (g f q j)) := by unfold zcell; rw [hf]; rfl
  rw [hc] at hw
  refine va_zald hx hb F.2.2.2.2.2.2.2.2.2.1 hH.1 q0 2 hw rfl hin (zfx_dec F hT) ?_
  rw [he]
  exact hkk
theorem zs_lald {f q : Nat} {j : Int} {n : Nat} (hT : zat M pc = some (.laload, 1)) (hf : zfam f = (4, n)) (h0 : 0 ≤ j) (h1 : j < n) (kk : ZVV Y M C (pc + 1) L (ZJ (g f q j.toNat) :: S) g) : ZVV Y M C pc L (ZI j :: ZR f q :: S) g := by
  intro p l e s m args below meth c H locs ls F hX hH hS hL hO
  have hx := F.2.2.1
  have hb := F.2.2.2.1
  have hO1 := zok_cons.mp hO
  have hO2 := zok_cons.mp hO1.2
  obtain ⟨q0, hq0⟩ := List.getElem?_of_mem (show (f, q) ∈ zids Y from hO2.1)
  have hw : (zws Y g)[q0]? = some (zad Y f q, zcell Y f q (g f q)) := zws_at hq0
  obtain ⟨hin, he⟩ := zI_in hO1.1 h0 h1
  have hr := (hH.2.2 f q hO2.1).2 j.toNat (by rw [hf]; show j.toNat < n; omega)
  rw [hf] at hr
  have hkk := kk p l e s m args below meth c H locs ls F hX hH hS hL (zok_cons.mpr ⟨hr, hO2.2⟩)
  have hc : zcell Y f q (g f q) = .inl (zcA Y 4, n, .inr (.inl fun j => Int64.ofInt (g f q j))) := by unfold zcell; rw [hf]; rfl
  rw [hc] at hw
  refine va_lald hx hb F.2.2.2.2.2.2.2.2.2.1 hH.1 q0 3 hw rfl hin (zfx_dec F hT) ?_
  rw [he]
  exact hkk
theorem zs_iast {f q : Nat} {j x : Int} {n : Nat} (hT : zat M pc = some (.iastore, 1)) (hf : zfam f = (1, n)) (h0 : 0 ≤ j) (h1 : j < n) (kk : ZVV Y M C (pc + 1) L S (zup g f q j.toNat x)) : ZVV Y M C pc L (ZI x :: ZI j :: ZR f q :: S) g := by
  intro p l e s m args below meth c H locs ls F hX hH hS hL hO
  have hx := F.2.2.1
  have hb := F.2.2.2.1
  have hO0 := zok_cons.mp hO
  have hO1 := zok_cons.mp hO0.2
  have hO2 := zok_cons.mp hO1.2
  obtain ⟨q0, hq0⟩ := List.getElem?_of_mem (show (f, q) ∈ zids Y from hO2.1)
  have hw : (zws Y g)[q0]? = some (zad Y f q, zcell Y f q (g f q)) := zws_at hq0
  obtain ⟨hin, he⟩ := zI_in hO1.1 h0 h1
  have hc : zcell Y f q (g f q) = .inl (zcA Y 1, n, .inl fun j => Int32.ofInt (g f q j)) := by unfold zcell; rw [hf]; rfl
  rw [hc] at hw
  refine va_iast hx hb F.2.2.2.2.2.2.2.2.2.1 hH.1 hH.2.1 hS q0 0 hw rfl hin (zfx_dec F hT) (fun H1 locs1 hP1 hD1 hS1 => ?_)
  have e0 : (zws Y g).set q0 (zad Y f q, .inl (zcA Y 1, n, .inl (upd (fun j => Int32.ofInt (g f q j)) (Int32.ofInt j).toNatClampNeg (Int32.ofInt x)))) = zws Y (zup g f q j.toNat x) := by
    rw [zws_set hH.2.1 hq0]
    have hc2 : zcell Y f q (zup g f q j.toNat x f q) = .inl (zcA Y 1, n, .inl fun b => Int32.ofInt (zup g f q j.toNat x f q b)) := by unfold zcell; rw [hf]; rfl
    have hfun : ((upd (fun j => Int32.ofInt (g f q j)) j.toNat (Int32.ofInt x))) = fun b => Int32.ofInt (zup g f q j.toNat x f q b) := by
      funext b
      rw [zup_at]
      unfold upd
      by_cases hb : b = j.toNat
      · simp [hb]
      · simp [hb]
    rw [hc2, he, hfun]
  rw [e0] at hP1 hD1
  refine kk p l e s m args below meth c H1 locs1 ls F hX ⟨hP1, hD1, zrg_up hH.2.2 (fun z => by rw [hf] at z; cases z) (fun _ => ?_)⟩ hS1 hL hO2.2
  rw [hf]
  exact hO0.1
theorem znar_b {x : Int} (h : -128 ≤ x ∧ x < 128) : vp_nar .byte (Int32.ofInt x) = Int32.ofInt x := by
  show (Int32.ofInt x).toInt8.toInt32 = _
  apply Int32.toInt.inj
  rw [Int8.toInt_toInt32, Int32.toInt_toInt8, zI_toInt ⟨by omega, by omega⟩]
  exact Int.bmod_eq_of_le (by omega) (by omega)
theorem znar_z {x : Int} (h : 0 ≤ x ∧ x ≤ 1) : vp_nar .boolean (Int32.ofInt x) = Int32.ofInt x := by
  have : x = 0 ∨ x = 1 := by omega
  rcases this with rfl | rfl <;> decide
theorem zs_bast {f q : Nat} {j x : Int} {n : Nat} (hT : zat M pc = some (.bastore, 1)) (hf : zfam f = (2, n)) (h0 : 0 ≤ j) (h1 : j < n) (hx2 : -128 ≤ x ∧ x < 128) (kk : ZVV Y M C (pc + 1) L S (zup g f q j.toNat x)) : ZVV Y M C pc L (ZI x :: ZI j :: ZR f q :: S) g := by
  intro p l e s m args below meth c H locs ls F hX hH hS hL hO
  have hx := F.2.2.1
  have hb := F.2.2.2.1
  have hO0 := zok_cons.mp hO
  have hO1 := zok_cons.mp hO0.2
  have hO2 := zok_cons.mp hO1.2
  obtain ⟨q0, hq0⟩ := List.getElem?_of_mem (show (f, q) ∈ zids Y from hO2.1)
  have hw : (zws Y g)[q0]? = some (zad Y f q, zcell Y f q (g f q)) := zws_at hq0
  obtain ⟨hin, he⟩ := zI_in hO1.1 h0 h1
  have hc : zcell Y f q (g f q) = .inl (zcA Y 2, n, .inl fun j => Int32.ofInt (g f q j)) := by unfold zcell; rw [hf]; rfl
  rw [hc] at hw
  refine va_bast hx hb F.2.2.2.2.2.2.2.2.2.1 hH.1 hH.2.1 hS q0 1 hw rfl hin (zfx_dec F hT) (fun H1 locs1 hP1 hD1 hS1 => ?_)
  have e0 : (zws Y g).set q0 (zad Y f q, .inl (zcA Y 2, n, .inl (upd (fun j => Int32.ofInt (g f q j)) (Int32.ofInt j).toNatClampNeg (vp_nar .byte (Int32.ofInt x))))) = zws Y (zup g f q j.toNat x) := by
    rw [zws_set hH.2.1 hq0]
    have hc2 : zcell Y f q (zup g f q j.toNat x f q) = .inl (zcA Y 2, n, .inl fun b => Int32.ofInt (zup g f q j.toNat x f q b)) := by unfold zcell; rw [hf]; rfl
    have hfun : ((upd (fun j => Int32.ofInt (g f q j)) j.toNat (vp_nar .byte (Int32.ofInt x)))) = fun b => Int32.ofInt (zup g f q j.toNat x f q b) := by
      funext b
      rw [zup_at]
      unfold upd
      by_cases hb : b = j.toNat
      · simp [hb, znar_b hx2]
      · simp [hb]
    rw [hc2, he, hfun]
  rw [e0] at hP1 hD1
  refine kk p l e s m args below meth c H1 locs1 ls F hX ⟨hP1, hD1, zrg_up hH.2.2 (fun z => by rw [hf] at z; cases z) (fun _ => ?_)⟩ hS1 hL hO2.2
  rw [hf]
  exact hx2
theorem zs_zast {f q : Nat} {j x : Int} {n : Nat} (hT : zat M pc = some (.bastore, 1)) (hf : zfam f = (3, n)) (h0 : 0 ≤ j) (h1 : j < n) (hx2 : 0 ≤ x ∧ x ≤ 1) (kk : ZVV Y M C (pc + 1) L S (zup g f q j.toNat x)) : ZVV Y M C pc L (ZI x :: ZI j :: ZR f q :: S) g := by
  intro p l e s m args below meth c H locs ls F hX hH hS hL hO
  have hx := F.2.2.1
  have hb := F.2.2.2.1
  have hO0 := zok_cons.mp hO
  have hO1 := zok_cons.mp hO0.2
  have hO2 := zok_cons.mp hO1.2
  obtain ⟨q0, hq0⟩ := List.getElem?_of_mem (show (f, q) ∈ zids Y from hO2.1)
  have hw : (zws Y g)[q0]? = some (zad Y f q, zcell Y f q (g f q)) := zws_at hq0
  obtain ⟨hin, he⟩ := zI_in hO1.1 h0 h1
  have hc : zcell Y f q (g f q) = .inl (zcA Y 3, n, .inl fun j => Int32.ofInt (g f q j)) := by unfold zcell; rw [hf]; rfl
  rw [hc] at hw
  refine va_zast hx hb F.2.2.2.2.2.2.2.2.2.1 hH.1 hH.2.1 hS q0 2 hw rfl hin (zfx_dec F hT) (fun H1 locs1 hP1 hD1 hS1 => ?_)
  have e0 : (zws Y g).set q0 (zad Y f q, .inl (zcA Y 3, n, .inl (upd (fun j => Int32.ofInt (g f q j)) (Int32.ofInt j).toNatClampNeg (vp_nar .boolean (Int32.ofInt x))))) = zws Y (zup g f q j.toNat x) := by
    rw [zws_set hH.2.1 hq0]
    have hc2 : zcell Y f q (zup g f q j.toNat x f q) = .inl (zcA Y 3, n, .inl fun b => Int32.ofInt (zup g f q j.toNat x f q b)) := by unfold zcell; rw [hf]; rfl
    have hfun : ((upd (fun j => Int32.ofInt (g f q j)) j.toNat (vp_nar .boolean (Int32.ofInt x)))) = fun b => Int32.ofInt (zup g f q j.toNat x f q b) := by
      funext b
      rw [zup_at]
      unfold upd
      by_cases hb : b = j.toNat
      · simp [hb, znar_z hx2]
      · simp [hb]
    rw [hc2, he, hfun]
  rw [e0] at hP1 hD1
  refine kk p l e s m args below meth c H1 locs1 ls F hX ⟨hP1, hD1, zrg_up hH.2.2 (fun z => by rw [hf] at z; cases z) (fun _ => ?_)⟩ hS1 hL hO2.2
  rw [hf]
  exact hx2
theorem zs_last {f q : Nat} {j x : Int} {n : Nat} (hT : zat M pc = some (.lastore, 1)) (hf : zfam f = (4, n)) (h0 : 0 ≤ j) (h1 : j < n) (kk : ZVV Y M C (pc + 1) L S (zup g f q j.toNat x)) : ZVV Y M C pc L (ZJ x :: ZI j :: ZR f q :: S) g := by
  intro p l e s m args below meth c H locs ls F hX hH hS hL hO
  have hx := F.2.2.1
  have hb := F.2.2.2.1
  have hO0 := zok_cons.mp hO
  have hO1 := zok_cons.mp hO0.2
  have hO2 := zok_cons.mp hO1.2
  obtain ⟨q0, hq0⟩ := List.getElem?_of_mem (show (f, q) ∈ zids Y from hO2.1)
  have hw : (zws Y g)[q0]? = some (zad Y f q, zcell Y f q (g f q)) := zws_at hq0
  obtain ⟨hin, he⟩ := zI_in hO1.1 h0 h1
  have hc : zcell Y f q (g f q) = .inl (zcA Y 4, n, .inr (.inl fun j => Int64.ofInt (g f q j))) := by unfold zcell; rw [hf]; rfl
  rw [hc] at hw
  refine va_last hx hb F.2.2.2.2.2.2.2.2.2.1 hH.1 hH.2.1 hS q0 3 hw rfl hin (zfx_dec F hT) (fun H1 locs1 hP1 hD1 hS1 => ?_)
  have e0 : (zws Y g).set q0 (zad Y f q, .inl (zcA Y 4, n, .inr (.inl (vp_updL (fun j => Int64.ofInt (g f q j)) (Int32.ofInt j).toNatClampNeg (Int64.ofInt x))))) = zws Y (zup g f q j.toNat x) := by
    rw [zws_set hH.2.1 hq0]
    have hc2 : zcell Y f q (zup g f q j.toNat x f q) = .inl (zcA Y 4, n, .inr (.inl fun b => Int64.ofInt (zup g f q j.toNat x f q b))) := by unfold zcell; rw [hf]; rfl
    have hfun : ((vp_updL (fun j => Int64.ofInt (g f q j)) j.toNat (Int64.ofInt x))) = fun b => Int64.ofInt (zup g f q j.toNat x f q b) := by
      funext b
      rw [zup_at]
      unfold vp_updL
      by_cases hb : b = j.toNat
      · simp [hb]
      · simp [hb]
    rw [hc2, he, hfun]
  rw [e0] at hP1 hD1
  refine kk p l e s m args below meth c H1 locs1 ls F hX ⟨hP1, hD1, zrg_up hH.2.2 (fun z => by rw [hf] at z; cases z) (fun _ => ?_)⟩ hS1 hL hO2.2
  rw [hf]
  exact hO0.1
theorem zs_aald5 {f q : Nat} {j : Int} {n : Nat} (hT : zat M pc = some (.aaload, 1)) (hf : zfam f = (5, n)) (h0 : 0 ≤ j) (h1 : j < n) (kk : ZVV Y M C (pc + 1) L (ZR 3 j.toNat :: S) g) : ZVV Y M C pc L (ZI j :: ZR f q :: S) g := by
  intro p l e s m args below meth c H locs ls F hX hH hS hL hO
  have hx := F.2.2.1
  have hb := F.2.2.2.1
  have hO1 := zok_cons.mp hO
  have hO2 := zok_cons.mp hO1.2
  obtain ⟨q0, hq0⟩ := List.getElem?_of_mem (show (f, q) ∈ zids Y from hO2.1)
  have hw : (zws Y g)[q0]? = some (zad Y f q, zcell Y f q (g f q)) := zws_at hq0
  obtain ⟨hin, he⟩ := zI_in hO1.1 h0 h1
  have hr : (3, j.toNat) ∈ zids Y := (F.2.1 f q hO2.1).2.1 (by rw [hf]) j.toNat (by rw [hf]; show j.toNat < n; omega)
  have hkk := kk p l e s m args below meth c H locs ls F hX hH hS hL (zok_cons.mpr ⟨hr, hO2.2⟩)
  have hc : zcell Y f q (g f q) = .inl (zcA Y 5, n, .inr (.inr (.inr (.inr fun j => some (zad Y 3 j))))) := by unfold zcell; rw [hf]; rfl
  rw [hc] at hw
  refine va_aldq hx hb F.2.2.2.2.2.2.2.2.2.1 hH.1 q0 4 hw rfl hin (zfx_dec F hT) ?_
  rw [he]
  exact hkk
theorem zs_aald6 {f q : Nat} {j : Int} {n : Nat} (hT : zat M pc = some (.aaload, 1)) (hf : zfam f = (6, n)) (h0 : 0 ≤ j) (h1 : j < n) (kk : ZVV Y M C (pc + 1) L (ZR 4 j.toNat :: S) g) : ZVV Y M C pc L (ZI j :: ZR f q :: S) g := by
  intro p l e s m args below meth c H locs ls F hX hH hS hL hO
  have hx := F.2.2.1
  have hb := F.2.2.2.1
  have hO1 := zok_cons.mp hO
  have hO2 := zok_cons.mp hO1.2
  obtain ⟨q0, hq0⟩ := List.getElem?_of_mem (show (f, q) ∈ zids Y from hO2.1)
  have hw : (zws Y g)[q0]? = some (zad Y f q, zcell Y f q (g f q)) := zws_at hq0
  obtain ⟨hin, he⟩ := zI_in hO1.1 h0 h1
  have hr : (4, j.toNat) ∈ zids Y := (F.2.1 f q hO2.1).2.2 (by rw [hf]) j.toNat (by rw [hf]; show j.toNat < n; omega)
  have hkk := kk p l e s m args below meth c H locs ls F hX hH hS hL (zok_cons.mpr ⟨hr, hO2.2⟩)
  have hc : zcell Y f q (g f q) = .inl (zcA Y 6, n, .inr (.inr (.inr (.inr fun j => some (zad Y 4 j))))) := by unfold zcell; rw [hf]; rfl
  rw [hc] at hw
  refine va_aldq hx hb F.2.2.2.2.2.2.2.2.2.1 hH.1 q0 5 hw rfl hin (zfx_dec F hT) ?_
  rw [he]
  exact hkk
theorem zs_alen {f q : Nat} (hT : zat M pc = some (.arraylength, 1)) (hf : (zfam f).1 = 1) (hn : (zfam f).2 < 100000) (kk : ZVV Y M C (pc + 1) L (ZI ((zfam f).2 : Nat) :: S) g) : ZVV Y M C pc L (ZR f q :: S) g := by
  intro p l e s m args below meth c H locs ls F hX hH hS hL hO
  have hx := F.2.2.1
  have hb := F.2.2.2.1
  have hO1 := zok_cons.mp hO
  obtain ⟨q0, hq0⟩ := List.getElem?_of_mem (show (f, q) ∈ zids Y from hO1.1)
  have hw : (zws Y g)[q0]? = some (zad Y f q, zcell Y f q (g f q)) := zws_at hq0
  have hc : zcell Y f q (g f q) = .inl (zcA Y 1, (zfam f).2, .inl fun j => Int32.ofInt (g f q j)) := by unfold zcell; rw [hf]; rfl
  rw [hc] at hw
  exact va_alen hx hb F.2.2.2.2.2.2.2.2.2.1 hH.1 q0 0 hw (ty := .int) rfl (v := Int32.ofInt ((zfam f).2 : Nat)) Int32.ofInt_eq_ofNat.symm (zfx_dec F hT) (kk p l e s m args below meth c H locs ls F hX hH hS hL (zok_cons.mpr ⟨⟨by omega, by omega⟩, hO1.2⟩))
theorem zs_ldc2 {idx : Nat} {x : Int} (hT : zat M pc = some (.ldc2_w idx, 3)) (hP : zPl M idx = some (.inr (ZJ x))) (kk : ZVV Y M C (pc + 3) L (ZJ x :: S) g) : ZVV Y M C pc L S g := by
  intro p l e s m args below meth c H locs ls F hX hH hS hL hO
  have hx := F.2.2.1
  have hb := F.2.2.2.1
  obtain ⟨h1, h2⟩ := F.1.2.2.2.2 idx _ hP
  exact lv_ldc2 hx hb F.2.2.2.2.2.2.2.1 (F.2.2.2.2.2.2.2.2.1 _ h1) (zfx_dec F hT) (kk p l e s m args below meth c H locs ls F hX hH hS hL (zok_cons.mpr ⟨h2, hO⟩))
theorem zs_gets {idx k : Nat} (hT : zat M pc = some (.getstatic idx, 3)) (hP : zPl M idx = some (.inr (ZX k))) (hk : k < 2) (kk : ZVV Y M C (pc + 3) L (ZX k :: S) g) : ZVV Y M C pc L S g := by
  intro p l e s m args below meth c H locs ls F hX hH hS hL hO
  have hx := F.2.2.1
  have hb := F.2.2.2.1
  have hkk := kk p l e s m args below meth c H locs ls F hX hH hS hL (zok_cons.mpr ⟨trivial, hO⟩)
  rcases F.1.2.2.2.2 idx _ hP with ⟨rfl, h1⟩ | ⟨rfl, h1⟩ | ⟨i, -, h2, -⟩
  · exact va_gets hx hb F.2.2.2.2.2.2.2.2.2.2.1 hS F.2.2.2.2.2.2.2.1 (ref := "ThirdAlike") (F.2.2.2.2.2.2.2.2.1 _ h1) (fun _ h => h) (zfx_dec F hT) hkk
  · exact va_gets hx hb F.2.2.2.2.2.2.2.2.2.2.2.2.1 hS F.2.2.2.2.2.2.2.1 (ref := "ThirdAlike") (F.2.2.2.2.2.2.2.2.1 _ h1) (fun _ h => h) (zfx_dec F hT) hkk
  · exact absurd hk (by omega)
theorem zs_ldcS {idx k : Nat} (hT : zat M pc = some (.ldc idx, 2)) (hP : zPl M idx = some (.inr (ZX k))) (hk : 2 ≤ k) (kk : ZVV Y M C (pc + 2) L (ZX k :: S) g) : ZVV Y M C pc L S g := by
  intro p l e s m args below meth c H locs ls F hX hH hS hL hO
  have hx := F.2.2.1
  have hb := F.2.2.2.1
  have hkk := kk p l e s m args below meth c H locs ls F hX hH hS hL (zok_cons.mpr ⟨trivial, hO⟩)
  rcases F.1.2.2.2.2 idx _ hP with ⟨rfl, h1⟩ | ⟨rfl, h1⟩ | ⟨i, h1, h2, h3, h4⟩
  · exact absurd hk (by decide)
  · exact absurd hk (by decide)
  · subst h2
    have hR := F.2.2.2.2.2.2.2.2.2.2.2.2.2.2.2.1 i h1
    rw [← h3, ← h4] at hR
    exact va_ldcS hx hb F.2.2.2.2.2.2.2.1 hR (zfx_dec F hT) hkk
theorem zs_xald {k : Nat} {j : Int} (hT : zat M pc = some (.iaload, 1)) (hk : k < 2) (h0 : 0 ≤ j) (h1 : j < (zxr k).length) (kk : ZVV Y M C (pc + 1) L (ZI ((zxr k).getD j.toNat 0) :: S) g) : ZVV Y M C pc L (ZI j :: ZX k :: S) g := by
  intro p l e s m args below meth c H locs ls F hX hH hS hL hO
  have hx := F.2.2.1
  have hb := F.2.2.2.1
  have hO1 := zok_cons.mp hO
  have hO2 := zok_cons.mp hO1.2
  have hr : ∀ k, k < 2 → ∀ j, j < 11 → -2147483648 ≤ (zxr k).getD j 0 ∧ (zxr k).getD j 0 < 2147483648 := by decide +kernel
  have hl : (zxr k).length ≤ 11 := (by decide : ∀ k, k < 2 → (zxr k).length ≤ 11) k hk
  have hkk := kk p l e s m args below meth c H locs ls F hX hH hS hL (zok_cons.mpr ⟨hr k hk j.toNat (by omega), hO2.2⟩)
  have hcs : k = 0 ∨ k = 1 := by omega
  rcases hcs with rfl | rfl
  · have h1 : j < (7 : Nat) := h1
    obtain ⟨hin, he⟩ := zI_in hO1.1 h0 h1
    exact va_ti hx hb F.2.2.2.2.2.2.2.2.2.2.2.1 hS hin (v := .int (Int32.ofInt ((zxr 0).getD j.toNat 0))) (by rw [he]) (zfx_dec F hT) hkk
  · have h1 : j < (11 : Nat) := h1
    obtain ⟨hin, he⟩ := zI_in hO1.1 h0 h1
    exact va_ti hx hb F.2.2.2.2.2.2.2.2.2.2.2.2.2.1 hS hin (v := .int (Int32.ofInt ((zxr 1).getD j.toNat 0))) (by rw [he]) (zfx_dec F hT) hkk
theorem zs_xlen {k : Nat} (hT : zat M pc = some (.arraylength, 1)) (hk : k < 2) (kk : ZVV Y M C (pc + 1) L (ZI ((zxr k).length : Nat) :: S) g) : ZVV Y M C pc L (ZX k :: S) g := by
  intro p l e s m args below meth c H locs ls F hX hH hS hL hO
  have hx := F.2.2.1
  have hb := F.2.2.2.1
  have hO1 := zok_cons.mp hO
  have hcs : k = 0 ∨ k = 1 := by omega
  rcases hcs with rfl | rfl
  · exact va_tlen hx hb F.2.2.2.2.2.2.2.2.2.2.2.1 hS (v := Int32.ofInt (7 : Nat)) Int32.ofInt_eq_ofNat.symm (zfx_dec F hT) (kk p l e s m args below meth c H locs ls F hX hH hS hL (zok_cons.mpr ⟨⟨by decide, by decide⟩, hO1.2⟩))
  · exact va_tlen hx hb F.2.2.2.2.2.2.2.2.2.2.2.2.2.1 hS (v := Int32.ofInt (11 : Nat)) Int32.ofInt_eq_ofNat.symm (zfx_dec F hT) (kk p l e s m args below meth c H locs ls F hX hH hS hL (zok_cons.mpr ⟨⟨by decide, by decide⟩, hO1.2⟩))
theorem zs_ireturn {d : Nat} {Q : Option ZV → ZG → Prop} {x : Int} (hT : zat M pc = some (.ireturn, 1)) (hr : zret M = some .int) (hq : Q (some (ZI x)) g) : ZVV Y M (zcx Y d Q) pc L [ZI x] g := by
  intro p l e s m args below meth c H locs ls F hX hH hS hL hO
  have hx := F.2.2.1
  have hb := F.2.2.2.1
  have hr' : meth.sig.returnType = some .int := F.2.2.2.2.2.1.trans hr
  have hlk := F.2.2.2.2.2.2.1
  exact W.iret hx hb hr' (fun t ht hW => ⟨⟨some (ZI x), g, rfl, hq, fun v hv => by cases hv; exact (zok_cons.mp hO).1, by rw [ht]; exact hH⟩, hS.F ht⟩) hS.2.2 (zfx_dec F hT) hlk
theorem zs_zreturn {d : Nat} {Q : Option ZV → ZG → Prop} {x : Int} (hT : zat M pc = some (.ireturn, 1)) (hr : zret M = some .boolean) (hx2 : 0 ≤ x ∧ x ≤ 1) (hq : Q (some (ZI x)) g) : ZVV Y M (zcx Y d Q) pc L [ZI x] g := by
  intro p l e s m args below meth c H locs ls F hX hH hS hL hO
  have hx := F.2.2.1
  have hb := F.2.2.2.1
  have hr' : meth.sig.returnType = some .boolean := F.2.2.2.2.2.1.trans hr
  have hlk := F.2.2.2.2.2.2.1
  exact W.zret hx hb hr' (zbool_n hx2).1 (fun t ht hW => ⟨⟨some (ZI x), g, rfl, hq, fun v hv => by cases hv; exact (zok_cons.mp hO).1, by rw [ht]; exact hH⟩, hS.F ht⟩) hS.2.2 (zfx_dec F hT) hlk
theorem zs_lreturn {d : Nat} {Q : Option ZV → ZG → Prop} {x : Int} (hT : zat M pc = some (.lreturn, 1)) (hr : zret M = some .long) (hq : Q (some (ZJ x)) g) : ZVV Y M (zcx Y d Q) pc L [ZJ x] g := by
  intro p l e s m args below meth c H locs ls F hX hH hS hL hO
  have hx := F.2.2.1
  have hb := F.2.2.2.1
  have hr' : meth.sig.returnType = some .long := F.2.2.2.2.2.1.trans hr
  have hlk := F.2.2.2.2.2.2.1
  exact W.lret hx hb hr' (fun t ht hW => ⟨⟨some (ZJ x), g, rfl, hq, fun v hv => by cases hv; exact (zok_cons.mp hO).1, by rw [ht]; exact hH⟩, hS.F ht⟩) hS.2.2 (zfx_dec F hT) hlk
theorem zs_return {d : Nat} {Q : Option ZV → ZG → Prop} (hT : zat M pc = some (.return_, 1)) (hr : zret M = none) (hq : Q none g) : ZVV Y M (zcx Y d Q) pc L [] g := by
  intro p l e s m args below meth c H locs ls F hX hH hS hL hO
  have hx := F.2.2.1
  have hb := F.2.2.2.1
  have hr' : meth.sig.returnType = none := F.2.2.2.2.2.1.trans hr
  have hlk := F.2.2.2.2.2.2.1
  exact W.vret hx hb hr' (fun t ht hW => ⟨⟨none, g, rfl, hq, (fun v hv => nomatch hv), by rw [ht]; exact hH⟩, hS.F ht⟩) hS.2.2 (zfx_dec F hT) hlk
end ZM1
