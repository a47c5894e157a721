theorem zws_row {Y : ZW} {g g' : ZG} {q f i : Nat} {A : Nat → Prop} (hD : va_D A (zws Y g)) (h : (zids Y)[q]? = some (f, i)) (hg : ∀ a b, ¬ (a = f ∧ b = i) → g' a b = g a b) : zws Y g' = (zws Y g).set q (zad Y f i, zcell Y f i (g' f i)) := by
  apply List.ext_getElem?
  intro j
  rw [List.getElem?_set]
  by_cases hj : q = j
  · subst hj
    rw [if_pos rfl, zws_at h]
    have hlt : q < (zids Y).length := (List.getElem?_eq_some_iff.mp h).1
    rw [if_pos (by unfold zws; rw [List.length_map]; exact hlt)]
  · rw [if_neg hj]
    cases hx : (zids Y)[j]? with
    | none => unfold zws; rw [List.getElem?_map, List.getElem?_map, hx]; rfl
    | some x =>
      rw [zws_at hx, zws_at hx]
      have hne : ¬ (x.1 = f ∧ x.2 = i) := by
        rintro ⟨rfl, rfl⟩
        exact hj (hD.1 q j _ _ (zws_at h) (zws_at hx) rfl)
      rw [hg _ _ hne]
def zcpy (g : ZG) (fs is fd id sp dp n : Nat) : ZG := fun a b c => if a = fd ∧ b = id ∧ dp ≤ c ∧ c < dp + n then g fs is (sp + (c - dp)) else g a b c
theorem zcpy_off (g : ZG) (fs is fd id sp dp n : Nat) : ∀ a b, ¬ (a = fd ∧ b = id) → zcpy g fs is fd id sp dp n a b = g a b := by
  intro a b h
  funext c
  unfold zcpy
  rw [if_neg (fun z => h ⟨z.1, z.2.1⟩)]
def zlkA (own : String) (idx : Nat) : Prop := Cond.methodLink own idx Lib.Math.abs.name ∈ zTB ∧ Cond.static Lib.Math.abs.name ∈ zTB ∧ Cond.initialized "java/lang/Math" ∈ zTB ∧ Cond.code Lib.Math.abs.name Lib.Math.abs.code 1 (some .int) ∈ zTB
def zlkX (own : String) (idx : Nat) : Prop := Cond.methodLink own idx Lib.Math.max.name ∈ zTB ∧ Cond.static Lib.Math.max.name ∈ zTB ∧ Cond.initialized "java/lang/Math" ∈ zTB ∧ Cond.code Lib.Math.max.name Lib.Math.max.code 2 (some .int) ∈ zTB
def zlkC (own : String) (idx : Nat) : Prop := Cond.methodLink own idx arraycopyName ∈ zTB ∧ Cond.native arraycopyName ∈ zTB ∧ Cond.static arraycopyName ∈ zTB ∧ Cond.initialized "java/lang/System" ∈ zTB
theorem kX2_49 : zlkA RX2 49 := ⟨zinT 151 (by decide +kernel) rfl, zinT 152 (by decide +kernel) rfl, zinT 8 (by decide +kernel) rfl, zinT 153 (by decide +kernel) rfl⟩
theorem kX1_108 : zlkA RX1 108 := ⟨zinT 356 (by decide +kernel) rfl, zinT 152 (by decide +kernel) rfl, zinT 8 (by decide +kernel) rfl, zinT 153 (by decide +kernel) rfl⟩
theorem kX7_188 : zlkX RX7 188 := ⟨zinT 577 (by decide +kernel) rfl, zinT 578 (by decide +kernel) rfl, zinT 8 (by decide +kernel) rfl, zinT 579 (by decide +kernel) rfl⟩
theorem kX2_73 : zlkC RX2 73 := ⟨zinT 325 (by decide +kernel) rfl, zinT 327 (by decide +kernel) rfl, zinT 326 (by decide +kernel) rfl, zinT 11 (by decide +kernel) rfl⟩
theorem kX6_37 : zlkC RX6 37 := ⟨zinT 545 (by decide +kernel) rfl, zinT 327 (by decide +kernel) rfl, zinT 326 (by decide +kernel) rfl, zinT 11 (by decide +kernel) rfl⟩
theorem kX7_262 : zlkC RX7 262 := ⟨zinT 687 (by decide +kernel) rfl, zinT 327 (by decide +kernel) rfl, zinT 326 (by decide +kernel) rfl, zinT 11 (by decide +kernel) rfl⟩
section ZJD
variable {Y : ZW} {M : ZM} {C : ZCx} {pc idx : Nat} {L S : List ZV} {g : ZG}
theorem zs_abs {x : Int} (hT : zat M pc = some (.invokestatic idx, 3)) (hl : zlkA (zown M) idx) (hd : zroom C 0) (hcat : (S.map zcat).sum ≤ 8) (hr : -2147483648 < x) (k : ZVV Y M C (pc + 3) L (ZI (x.natAbs : Int) :: S) g) : ZVV Y M C pc L (ZI x :: S) g := by
  intro p l e s m args below meth c H locs ls F hX hH hS hL hO
  have hx := F.2.2.1
  have hb := F.2.2.2.1
  have hts := F.2.2.2.2.2.2.2.2.1
  have hO1 := zok_cons.mp hO
  have hr2 : -2147483648 ≤ x ∧ x < 2147483648 := hO1.1
  obtain ⟨k1, k2, k3, k4⟩ := hl
  have hk := k p l e s m args below meth c H locs ls F hX hH hS hL (zok_cons.mpr ⟨⟨by omega, by omega⟩, hO1.2⟩)
  refine va_mabs hx hb (F.2.2.2.2.1.trans hL.1.symm) F.2.2.2.2.2.2.2.1 (hts _ k1) (hts _ k2) (hts _ k3) (hts _ k4) (by have := hd.1; omega) (by rw [zcat_sum]; have := hd.2.1; omega) hd.2.2.1 hd.2.2.2 (zfx_dec F hT) ?_
  have e1 : zval Y (ZI (x.natAbs : Int)) = .int (if 0 ≤ Int32.ofInt x then Int32.ofInt x else 0 - Int32.ofInt x) := by
    show Value.int _ = Value.int _
    congr 1
    have h0 : (0 ≤ Int32.ofInt x) ↔ 0 ≤ x := by
      rw [Int32.le_iff_toInt_le, zI_toInt hr2]; rfl
    by_cases hq : 0 ≤ x
    · rw [if_pos (h0.mpr hq), show (x.natAbs : Int) = x by omega]
    · rw [if_neg (fun z => hq (h0.mp z)), show (x.natAbs : Int) = 0 - x by omega, Int32.ofInt_sub]; rfl
  rw [List.map_cons, e1] at hk
  exact hk
theorem zs_max {x y : Int} (hT : zat M pc = some (.invokestatic idx, 3)) (hl : zlkX (zown M) idx) (hd : zroom C 0) (hcat : (S.map zcat).sum ≤ 8) (k : ZVV Y M C (pc + 3) L (ZI (max x y) :: S) g) : ZVV Y M C pc L (ZI y :: ZI x :: S) g := by
  intro p l e s m args below meth c H locs ls F hX hH hS hL hO
  have hx := F.2.2.1
  have hb := F.2.2.2.1
  have hts := F.2.2.2.2.2.2.2.2.1
  have hO1 := zok_cons.mp hO
  have hO2 := zok_cons.mp hO1.2
  have hr1 : -2147483648 ≤ y ∧ y < 2147483648 := hO1.1
  have hr2 : -2147483648 ≤ x ∧ x < 2147483648 := hO2.1
  obtain ⟨k1, k2, k3, k4⟩ := hl
  have hk := k p l e s m args below meth c H locs ls F hX hH hS hL (zok_cons.mpr ⟨⟨by omega, by omega⟩, hO2.2⟩)
  refine va_mmax hx hb (F.2.2.2.2.1.trans hL.1.symm) F.2.2.2.2.2.2.2.1 (hts _ k1) (hts _ k2) (hts _ k3) (hts _ k4) (by have := hd.1; omega) (by rw [zcat_sum]; have := hd.2.1; omega) hd.2.2.1 hd.2.2.2 (zfx_dec F hT) ?_
  have e1 : zval Y (ZI (max x y)) = .int (if Int32.ofInt x < Int32.ofInt y then Int32.ofInt y else Int32.ofInt x) := by
    show Value.int _ = Value.int _
    congr 1
    have h0 : (Int32.ofInt x < Int32.ofInt y) ↔ x < y := by
      rw [Int32.lt_iff_toInt_lt, zI_toInt hr2, zI_toInt hr1]
    by_cases hq : x < y
    · rw [if_pos (h0.mpr hq), show max x y = y by omega]
    · rw [if_neg (fun z => hq (h0.mp z)), show max x y = x by omega]
  rw [List.map_cons, e1] at hk
  exact hk
theorem zs_cpi {fs is fd id n0 n1 : Nat} {sp dp n : Int} (hT : zat M pc = some (.invokestatic idx, 3)) (hl : zlkC (zown M) idx) (hd : zroom C 0) (hcat : (S.map zcat).sum ≤ 8) (hf0 : zfam fs = (1, n0)) (hf1 : zfam fd = (1, n1)) (h1 : 0 ≤ sp) (h2 : 0 ≤ dp) (h3 : 0 ≤ n) (h4 : sp + n ≤ n0) (h5 : dp + n ≤ n1) (k : ZVV Y M C (pc + 3) L S (zcpy g fs is fd id sp.toNat dp.toNat n.toNat)) : ZVV Y M C pc L (ZI n :: ZI dp :: ZR fd id :: ZI sp :: ZR fs is :: S) g := by
  intro p l e s m args below meth c H locs ls F hX hH hS hL hO
  have hx := F.2.2.1
  have hb := F.2.2.2.1
  have hts := F.2.2.2.2.2.2.2.2.1
  have hO1 := zok_cons.mp hO
  have hO2 := zok_cons.mp hO1.2
  have hO3 := zok_cons.mp hO2.2
  have hO4 := zok_cons.mp hO3.2
  have hO5 := zok_cons.mp hO4.2
  obtain ⟨k1, k2, k3, k4⟩ := hl
  obtain ⟨q0, hq0⟩ := List.getElem?_of_mem (show (fs, is) ∈ zids Y from hO5.1)
  obtain ⟨q1, hq1⟩ := List.getElem?_of_mem (show (fd, id) ∈ zids Y from hO3.1)
  have hw0 : (zws Y g)[q0]? = some (zad Y fs is, zcell Y fs is (g fs is)) := zws_at hq0
  have hw1 : (zws Y g)[q1]? = some (zad Y fd id, zcell Y fd id (g fd id)) := zws_at hq1
  have hc0 : zcell Y fs is (g fs is) = .inl (zcA Y 1, n0, .inl fun j => Int32.ofInt (g fs is j)) := by unfold zcell; rw [hf0]; rfl
  have hc1 : zcell Y fd id (g fd id) = .inl (zcA Y 1, n1, .inl fun j => Int32.ofInt (g fd id j)) := by unfold zcell; rw [hf1]; rfl
  rw [hc0] at hw0
  rw [hc1] at hw1
  have es : (Int32.ofInt sp).toNatClampNeg = sp.toNat := Int32.toNatClampNeg_ofInt_of_le hO4.1.1 hO4.1.2
  have ed : (Int32.ofInt dp).toNatClampNeg = dp.toNat := Int32.toNatClampNeg_ofInt_of_le hO2.1.1 hO2.1.2
  have en : (Int32.ofInt n).toNatClampNeg = n.toNat := Int32.toNatClampNeg_ofInt_of_le hO1.1.1 hO1.1.2
  have neg : ∀ {x : Int}, zok Y (ZI x) → 0 ≤ x → ¬ Int32.ofInt x < 0 := fun {x} hx h0 q => by
    have := Int32.lt_iff_toInt_lt.mp q
    rw [zI_toInt hx] at this
    have h00 : (0 : Int32).toInt = 0 := rfl
    omega
  refine va_copyi hx hb (F.2.2.2.2.1.trans hL.1.symm) F.2.2.2.2.2.2.2.1 (hts _ k1) (hts _ k2) (hts _ k3) (hts _ k4) F.2.2.2.2.2.2.2.2.2.1 hH.1 hH.2.1 hS q0 q1 0 0 hw0 hw1 rfl rfl rfl (neg hO4.1 h1) (neg hO2.1 h2) (neg hO1.1 h3) (by rw [es, en]; omega) (by rw [ed, en]; omega) (fun _ _ => rfl) (by have := hd.1; omega) (by
    rw [zcat_sum]
    have h7 : nativeFrameWords "java/lang/System" "arraycopy" 5 = 7 := by decide
    have := hd.2.1
    omega) (zfx_dec F hT) (fun H1 locs1 hP1 hD1 hS1 => ?_)
  rw [es, ed, en] at hP1 hD1
  have e0 : (zws Y g).set q1 (zad Y fd id, .inl (zcA Y 1, n1, .inl (va_cpy (fun j => Int32.ofInt (g fs is j)) (fun j => Int32.ofInt (g fd id j)) sp.toNat dp.toNat n.toNat))) = zws Y (zcpy g fs is fd id sp.toNat dp.toNat n.toNat) := by
    rw [zws_row hH.2.1 hq1 (zcpy_off g fs is fd id sp.toNat dp.toNat n.toNat)]
    have hc2 : zcell Y fd id (zcpy g fs is fd id sp.toNat dp.toNat n.toNat fd id) = .inl (zcA Y 1, n1, .inl fun j => Int32.ofInt (zcpy g fs is fd id sp.toNat dp.toNat n.toNat fd id j)) := by unfold zcell; rw [hf1]; rfl
    have hfun : (va_cpy (fun j => Int32.ofInt (g fs is j)) (fun j => Int32.ofInt (g fd id j)) sp.toNat dp.toNat n.toNat) = fun j => Int32.ofInt (zcpy g fs is fd id sp.toNat dp.toNat n.toNat fd id j) := by
      funext j
      unfold va_cpy zcpy
      by_cases hj : dp.toNat ≤ j ∧ j < dp.toNat + n.toNat
      · rw [if_pos hj, if_pos ⟨rfl, rfl, hj⟩]
      · rw [if_neg hj, if_neg (fun z => hj z.2.2)]
    rw [hc2, hfun]
  rw [e0] at hP1 hD1
  refine k p l e s m args below meth c H1 locs1 ls F hX ⟨hP1, hD1, ?_⟩ hS1 hL hO5.2
  intro a b hab
  obtain ⟨r1, r2⟩ := hH.2.2 a b hab
  by_cases hq : a = fd ∧ b = id
  · obtain ⟨rfl, rfl⟩ := hq
    refine ⟨fun h0 => (by rw [hf1] at h0; cases h0), fun j hj => ?_⟩
    unfold zcpy
    by_cases hj2 : dp.toNat ≤ j ∧ j < dp.toNat + n.toNat
    · rw [if_pos ⟨rfl, rfl, hj2⟩]
      have := (hH.2.2 fs is hO5.1).2 (sp.toNat + (j - dp.toNat)) (by rw [hf0]; show _ < n0; omega)
      rw [hf0] at this
      rw [hf1]
      exact this
    · rw [if_neg (fun z => hj2 z.2.2)]
      exact r2 j hj
  · rw [zcpy_off _ _ _ _ _ _ _ _ _ _ hq]
    exact ⟨r1, r2⟩
theorem zs_cpl {fs is fd id n0 n1 : Nat} {sp dp n : Int} (hT : zat M pc = some (.invokestatic idx, 3)) (hl : zlkC (zown M) idx) (hd : zroom C 0) (hcat : (S.map zcat).sum ≤ 8) (hf0 : zfam fs = (4, n0)) (hf1 : zfam fd = (4, n1)) (h1 : 0 ≤ sp) (h2 : 0 ≤ dp) (h3 : 0 ≤ n) (h4 : sp + n ≤ n0) (h5 : dp + n ≤ n1) (k : ZVV Y M C (pc + 3) L S (zcpy g fs is fd id sp.toNat dp.toNat n.toNat)) : ZVV Y M C pc L (ZI n :: ZI dp :: ZR fd id :: ZI sp :: ZR fs is :: S) g := by
  intro p l e s m args below meth c H locs ls F hX hH hS hL hO
  have hx := F.2.2.1
  have hb := F.2.2.2.1
  have hts := F.2.2.2.2.2.2.2.2.1
  have hO1 := zok_cons.mp hO
  have hO2 := zok_cons.mp hO1.2
  have hO3 := zok_cons.mp hO2.2
  have hO4 := zok_cons.mp hO3.2
  have hO5 := zok_cons.mp hO4.2
  obtain ⟨k1, k2, k3, k4⟩ := hl
  obtain ⟨q0, hq0⟩ := List.getElem?_of_mem (show (fs, is) ∈ zids Y from hO5.1)
  obtain ⟨q1, hq1⟩ := List.getElem?_of_mem (show (fd, id) ∈ zids Y from hO3.1)
  have hw0 : (zws Y g)[q0]? = some (zad Y fs is, zcell Y fs is (g fs is)) := zws_at hq0
  have hw1 : (zws Y g)[q1]? = some (zad Y fd id, zcell Y fd id (g fd id)) := zws_at hq1
  have hc0 : zcell Y fs is (g fs is) = .inl (zcA Y 4, n0, .inr (.inl fun j => Int64.ofInt (g fs is j))) := by unfold zcell; rw [hf0]; rfl
  have hc1 : zcell Y fd id (g fd id) = .inl (zcA Y 4, n1, .inr (.inl fun j => Int64.ofInt (g fd id j))) := by unfold zcell; rw [hf1]; rfl
  rw [hc0] at hw0
  rw [hc1] at hw1
  have es : (Int32.ofInt sp).toNatClampNeg = sp.toNat := Int32.toNatClampNeg_ofInt_of_le hO4.1.1 hO4.1.2
  have ed : (Int32.ofInt dp).toNatClampNeg = dp.toNat := Int32.toNatClampNeg_ofInt_of_le hO2.1.1 hO2.1.2
  have en : (Int32.ofInt n).toNatClampNeg = n.toNat := Int32.toNatClampNeg_ofInt_of_le hO1.1.1 hO1.1.2
  have neg : ∀ {x : Int}, zok Y (ZI x) → 0 ≤ x → ¬ Int32.ofInt x < 0 := fun {x} hx h0 q => by
    have := Int32.lt_iff_toInt_lt.mp q
    rw [zI_toInt hx] at this
    have h00 : (0 : Int32).toInt = 0 := rfl
    omega
  refine va_copyl hx hb (F.2.2.2.2.1.trans hL.1.symm) F.2.2.2.2.2.2.2.1 (hts _ k1) (hts _ k2) (hts _ k3) (hts _ k4) F.2.2.2.2.2.2.2.2.2.1 hH.1 hH.2.1 hS q0 q1 3 3 hw0 hw1 rfl rfl rfl (neg hO4.1 h1) (neg hO2.1 h2) (neg hO1.1 h3) (by rw [es, en]; omega) (by rw [ed, en]; omega) (fun _ _ => rfl) (by have := hd.1; omega) (by
    rw [zcat_sum]
    have h7 : nativeFrameWords "java/lang/System" "arraycopy" 5 = 7 := by decide
    have := hd.2.1
    omega) (zfx_dec F hT) (fun H1 locs1 hP1 hD1 hS1 => ?_)
  rw [es, ed, en] at hP1 hD1
  have e0 : (zws Y g).set q1 (zad Y fd id, .inl (zcA Y 4, n1, .inr (.inl (va_cpy (fun j => Int64.ofInt (g fs is j)) (fun j => Int64.ofInt (g fd id j)) sp.toNat dp.toNat n.toNat)))) = zws Y (zcpy g fs is fd id sp.toNat dp.toNat n.toNat) := by
    rw [zws_row hH.2.1 hq1 (zcpy_off g fs is fd id sp.toNat dp.toNat n.toNat)]
    have hc2 : zcell Y fd id (zcpy g fs is fd id sp.toNat dp.toNat n.toNat fd id) = .inl (zcA Y 4, n1, .inr (.inl fun j => Int64.ofInt (zcpy g fs is fd id sp.toNat dp.toNat n.toNat fd id j))) := by unfold zcell; rw [hf1]; rfl
    have hfun : (va_cpy (fun j => Int64.ofInt (g fs is j)) (fun j => Int64.ofInt (g fd id j)) sp.toNat dp.toNat n.toNat) = fun j => Int64.ofInt (zcpy g fs is fd id sp.toNat dp.toNat n.toNat fd id j) := by
      funext j
      unfold va_cpy zcpy
      by_cases hj : dp.toNat ≤ j ∧ j < dp.toNat + n.toNat
      · rw [if_pos hj, if_pos ⟨rfl, rfl, hj⟩]
      · rw [if_neg hj, if_neg (fun z => hj z.2.2)]
    rw [hc2, hfun]
  rw [e0] at hP1 hD1
  refine k p l e s m args below meth c H1 locs1 ls F hX ⟨hP1, hD1, ?_⟩ hS1 hL hO5.2
  intro a b hab
  obtain ⟨r1, r2⟩ := hH.2.2 a b hab
  by_cases hq : a = fd ∧ b = id
  · obtain ⟨rfl, rfl⟩ := hq
    refine ⟨fun h0 => (by rw [hf1] at h0; cases h0), fun j hj => ?_⟩
    unfold zcpy
    by_cases hj2 : dp.toNat ≤ j ∧ j < dp.toNat + n.toNat
    · rw [if_pos ⟨rfl, rfl, hj2⟩]
      have := (hH.2.2 fs is hO5.1).2 (sp.toNat + (j - dp.toNat)) (by rw [hf0]; show _ < n0; omega)
      rw [hf0] at this
      rw [hf1]
      exact this
    · rw [if_neg (fun z => hj2 z.2.2)]
      exact r2 j hj
  · rw [zcpy_off _ _ _ _ _ _ _ _ _ _ hq]
    exact ⟨r1, r2⟩
end ZJD
