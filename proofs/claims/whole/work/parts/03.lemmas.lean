/-! numbers -/
def zw (x : Int) : Int := x.bmod 4294967296
def zwl (x : Int) : Int := x.bmod 18446744073709551616
theorem zw_id {x : Int} (h1 : -2147483648 ≤ x) (h2 : x < 2147483648) : zw x = x := Int.bmod_eq_of_le (by omega) (by omega)
theorem zw_ok (x : Int) : -2147483648 ≤ zw x ∧ zw x < 2147483648 := by
  unfold zw
  have h1 := Int.le_bmod (x := x) (m := 4294967296) (by decide)
  have h2 := Int.bmod_lt (x := x) (m := 4294967296) (by decide)
  omega
theorem zwl_ok (x : Int) : -9223372036854775808 ≤ zwl x ∧ zwl x < 9223372036854775808 := by
  unfold zwl
  have h1 := Int.le_bmod (x := x) (m := 18446744073709551616) (by decide)
  have h2 := Int.bmod_lt (x := x) (m := 18446744073709551616) (by decide)
  omega
theorem zI_toInt {x : Int} (h : -2147483648 ≤ x ∧ x < 2147483648) : (Int32.ofInt x).toInt = x := Int32.toInt_ofInt_of_le (by omega) (by omega)
theorem zI_eq {v : Int32} {x : Int} (h : v.toInt = x) : Int32.ofInt x = v := by rw [← h, Int32.ofInt_toInt]
theorem zJ_toInt {x : Int} (h : -9223372036854775808 ≤ x ∧ x < 9223372036854775808) : (Int64.ofInt x).toInt = x := Int64.toInt_ofInt_of_le (by omega) (by omega)
theorem zJ_eq {v : Int64} {x : Int} (h : v.toInt = x) : Int64.ofInt x = v := by rw [← h, Int64.ofInt_toInt]
theorem zI_rng (v : Int32) : -2147483648 ≤ v.toInt ∧ v.toInt < 2147483648 := by
  have h1 := v.le_toInt; have h2 := v.toInt_lt; omega
theorem zJ_rng (v : Int64) : -9223372036854775808 ≤ v.toInt ∧ v.toInt < 9223372036854775808 := by
  have h1 := v.le_toInt; have h2 := v.toInt_lt; omega
theorem zI_wr (x : Int) : Int32.ofInt (zw x) = Int32.ofInt x := by
  apply Int32.toInt.inj
  rw [zI_toInt (zw_ok x), Int32.toInt_ofInt]; rfl
theorem zadd_v (x y : Int) : Int32.ofInt (zw (x + y)) = Int32.ofInt x + Int32.ofInt y := by rw [zI_wr, Int32.ofInt_add]
theorem zsub_v (x y : Int) : Int32.ofInt (zw (x - y)) = Int32.ofInt x - Int32.ofInt y := by rw [zI_wr, Int32.ofInt_sub]
theorem zmul_v (x y : Int) : Int32.ofInt (zw (x * y)) = Int32.ofInt x * Int32.ofInt y := by rw [zI_wr, Int32.ofInt_mul]
theorem zneg_v (x : Int) : Int32.ofInt (zw (-x)) = -Int32.ofInt x := by rw [zI_wr, Int32.ofInt_neg]
def zand (x y : Int) : Int := (Int32.ofInt x &&& Int32.ofInt y).toInt
def zor (x y : Int) : Int := (Int32.ofInt x ||| Int32.ofInt y).toInt
def zxor (x y : Int) : Int := (Int32.ofInt x ^^^ Int32.ofInt y).toInt
def zshl (x y : Int) : Int := (Int32.ofInt x <<< (Int32.ofInt y &&& 31)).toInt
def zshr (x y : Int) : Int := (Int32.ofInt x >>> (Int32.ofInt y &&& 31)).toInt
def zland (x y : Int) : Int := (Int64.ofInt x &&& Int64.ofInt y).toInt
def zlor (x y : Int) : Int := (Int64.ofInt x ||| Int64.ofInt y).toInt
def zlshl (x y : Int) : Int := (Int64.ofInt x <<< ((Int32.ofInt y).toInt64 &&& 63)).toInt
theorem zdiv_v {x y : Int} (hx : -2147483648 ≤ x ∧ x < 2147483648) (hy : -2147483648 ≤ y ∧ y < 2147483648) : Int32.ofInt (zw (x.tdiv y)) = Int32.ofInt x / Int32.ofInt y := by
  apply Int32.toInt.inj
  rw [zI_toInt (zw_ok _), Int32.toInt_div, zI_toInt hx, zI_toInt hy]; rfl
theorem zrem_v {x y : Int} (hx : -2147483648 ≤ x ∧ x < 2147483648) (hy : -2147483648 ≤ y ∧ y < 2147483648) : Int32.ofInt (x.tmod y) = Int32.ofInt x - Int32.ofInt x / Int32.ofInt y * Int32.ofInt y := by
  have h := zdiv_v hx hy
  rw [zI_wr] at h
  rw [← h, ← Int32.ofInt_mul, ← Int32.ofInt_sub]
  congr 1
  have := Int.tmod_add_mul_tdiv x y
  rw [Int.mul_comm] at this
  omega
theorem zrem_ok {x y : Int} (hx : -2147483648 ≤ x ∧ x < 2147483648) : -2147483648 ≤ x.tmod y ∧ x.tmod y < 2147483648 := by
  have h1 : (x.tmod y).natAbs ≤ x.natAbs := by
    rw [Int.natAbs_tmod]; exact Nat.mod_le _ _
  rcases Int.lt_or_le x 0 with h | h
  · have : x.tmod y ≤ 0 := by
      have := Int.tmod_nonneg y (a := -x) (by omega)
      rw [Int.neg_tmod] at this; omega
    omega
  · have := Int.tmod_nonneg y h
    omega
theorem zI_ne {y : Int} (hy : -2147483648 ≤ y ∧ y < 2147483648) (h : y ≠ 0) : ¬ Int32.ofInt y = 0 := by
  intro q
  have := congrArg Int32.toInt q
  rw [zI_toInt hy] at this
  exact h this
theorem zI_in {j : Int} {n : Nat} (hj : -2147483648 ≤ j ∧ j < 2147483648) (h0 : 0 ≤ j) (h1 : j < n) : vp_in (Int32.ofInt j) n ∧ (Int32.ofInt j).toNatClampNeg = j.toNat := by
  have e : (Int32.ofInt j).toNatClampNeg = j.toNat := Int32.toNatClampNeg_ofInt_of_le (by omega) (by omega)
  refine ⟨fun q => ?_, e⟩
  rcases q with q | q
  · have := Int32.lt_iff_toInt_lt.mp q
    rw [zI_toInt hj] at this
    have h00 : (0 : Int32).toInt = 0 := rfl
    omega
  · rw [e] at q; omega
/-! cells -/
theorem zws_at {Y : ZW} {g : ZG} {q : Nat} {x : Nat × Nat} (h : (zids Y)[q]? = some x) : (zws Y g)[q]? = some (zad Y x.1 x.2, zcell Y x.1 x.2 (g x.1 x.2)) := by
  unfold zws
  rw [List.getElem?_map, h]; rfl
theorem zws_set {Y : ZW} {g : ZG} {q f i k : Nat} {v : Int} {A : Nat → Prop} (hD : va_D A (zws Y g)) (h : (zids Y)[q]? = some (f, i)) : zws Y (zup g f i k v) = (zws Y g).set q (zad Y f i, zcell Y f i (zup g f i k v f i)) := by
  apply List.ext_getElem?
  intro j
  rw [List.getElem?_set]
  by_cases hj : q = j
  · subst hj
    rw [if_pos rfl, zws_at h]
    have hlt : q < (zids Y).length := (List.getElem?_eq_some_iff.mp h).1
    rw [if_pos (by unfold zws; rw [List.length_map]; exact hlt)]
  · rw [if_neg hj]
    cases hx : (zids Y)[j]? with
    | none => unfold zws; rw [List.getElem?_map, List.getElem?_map, hx]; rfl
    | some x =>
      rw [zws_at hx, zws_at hx]
      have hne : ¬ (x.1 = f ∧ x.2 = i) := by
        rintro ⟨rfl, rfl⟩
        exact hj (hD.1 q j _ _ (zws_at h) (zws_at hx) rfl)
      have : zup g f i k v x.1 x.2 = g x.1 x.2 := by
        funext c
        unfold zup
        rw [if_neg (fun z => hne ⟨z.1, z.2.2⟩)]
      rw [this]
theorem zup_at (g : ZG) (f i k : Nat) (v : Int) : zup g f i k v f i = fun c => if c = k then v else g f i c := by
  funext c; unfold zup; simp
theorem zrg_up {Y : ZW} {g : ZG} {f i k : Nat} {v : Int} (h : zrg Y g) (ho : (zfam f).1 = 0 → zfr Y ((zfld f).getD k (9, 0, 0)) i v) (ha : k < (zfam f).2 → zar (zfam f).1 v) : zrg Y (zup g f i k v) := by
  intro a b hab
  obtain ⟨h1, h2⟩ := h a b hab
  refine ⟨fun h0 c hc => ?_, fun c hc => ?_⟩
  · unfold zup
    by_cases hq : a = f ∧ c = k ∧ b = i
    · rw [if_pos hq]
      obtain ⟨rfl, rfl, rfl⟩ := hq
      exact ho h0
    · rw [if_neg hq]; exact h1 h0 c hc
  · unfold zup
    by_cases hq : a = f ∧ c = k ∧ b = i
    · rw [if_pos hq]
      obtain ⟨rfl, rfl, rfl⟩ := hq
      exact ha hc
    · rw [if_neg hq]; exact h2 c hc
/-! the locals as the kit's list -/
def zlv (Y : ZW) (L : List ZV) : List (Nat × Value) := (List.range L.length).filterMap fun i => match L[i]? with
  | some v => if v = ZX 99 then none else some (i, zval Y v)
  | none => none
theorem zlv_in {Y : ZW} {L : List ZV} {q : Nat × Value} : q ∈ zlv Y L ↔ ∃ v, L[q.1]? = some v ∧ v ≠ ZX 99 ∧ q.2 = zval Y v := by
  unfold zlv
  rw [List.mem_filterMap]
  constructor
  · rintro ⟨i, hi, h⟩
    cases hv : L[i]? with
    | none => rw [hv] at h; cases h
    | some v =>
      rw [hv] at h
      by_cases hz : v = ZX 99
      · simp [hz] at h
      · simp only [hz, if_false, Option.some.injEq] at h
        subst h
        exact ⟨v, hv, hz, rfl⟩
  · rintro ⟨v, h1, h2, h3⟩
    refine ⟨q.1, List.mem_range.mpr (List.getElem?_eq_some_iff.mp h1).1, ?_⟩
    rw [h1]
    simp only [h2, if_false]
    rw [← h3]
theorem zLs.lv {Y : ZW} {L : List ZV} {ls : Array Slot} {n : Nat} (h : zLs Y L ls n) : lv_has ls n (zlv Y L) := by
  refine ⟨h.1, h.2.1, fun q hq => ?_⟩
  obtain ⟨v, h1, h2, h3⟩ := zlv_in.mp hq
  rw [h3]
  exact (h.2.2.2 q.1 v h1 h2).1
theorem zval_cat (Y : ZW) (v : ZV) : (zval Y v).category = (match v with | .inr (.inl _) => 2 | _ => 1) := by
  rcases v with x | x | x | x <;> rfl
/-- behind a store of a value of one slot -/
theorem zLs.set1 {Y : ZW} {L : List ZV} {ls ls' : Array Slot} {n i : Nat} {v : ZV} (h : zLs Y L ls n) (hi : i < n) (hv : zok Y v) (hp : ∀ j x, j + 1 = i → L[j]? ≠ some (ZJ x))
    (h' : lv_has ls' n ((i, zval Y v) :: (zlv Y L).filter (fun q => !(q.1 == i) && !(q.1 + 1 == i && q.2.category == 2)))) : zLs Y (L.set i v) ls' n := by
  refine ⟨h'.1, h'.2.1, by rw [List.length_set]; exact h.2.2.1, fun j u hj hu => ?_⟩
  rw [List.getElem?_set] at hj
  by_cases hij : i = j
  · subst hij
    rw [if_pos rfl] at hj
    by_cases hl : i < L.length
    · rw [if_pos hl] at hj
      cases hj
      exact ⟨h'.2.2 (i, zval Y v) List.mem_cons_self, hv⟩
    · rw [if_neg hl] at hj; cases hj
  · rw [if_neg hij] at hj
    refine ⟨?_, (h.2.2.2 j u hj hu).2⟩
    refine h'.2.2 (j, zval Y u) (List.mem_cons_of_mem _ (List.mem_filter.mpr ⟨zlv_in.mpr ⟨u, hj, hu, rfl⟩, ?_⟩))
    simp only [Bool.and_eq_true, Bool.not_eq_true', beq_eq_false_iff_ne, ne_eq, Bool.and_eq_false_iff]
    refine ⟨fun q => hij q.symm, ?_⟩
    by_cases hq : j + 1 = i
    · right
      intro hc
      rcases u with x | x | x | x
      · cases hc
      · exact hp j x hq hj
      · cases hc
      · cases hc
    · exact Or.inl hq
theorem zLs.set2 {Y : ZW} {L : List ZV} {ls ls' : Array Slot} {n i : Nat} {x : Int} (h : zLs Y L ls n) (hi : i + 1 < n) (hv : zok Y (ZJ x)) (hp : ∀ j x, j + 1 = i → L[j]? ≠ some (ZJ x))
    (h' : lv_has ls' n ((i, Value.long (Int64.ofInt x)) :: (zlv Y L).filter (fun q => !(q.1 == i) && (!(q.1 == i + 1) && !(q.1 + 1 == i && q.2.category == 2))))) : zLs Y ((L.set i (ZJ x)).set (i + 1) (ZX 99)) ls' n := by
  refine ⟨h'.1, h'.2.1, by rw [List.length_set, List.length_set]; exact h.2.2.1, fun j u hj hu => ?_⟩
  rw [List.getElem?_set] at hj
  by_cases h1 : i + 1 = j
  · subst h1
    rw [if_pos rfl] at hj
    split at hj
    · cases hj; exact absurd rfl hu
    · cases hj
  · rw [if_neg h1, List.getElem?_set] at hj
    by_cases hij : i = j
    · subst hij
      rw [if_pos rfl] at hj
      split at hj
      · cases hj
        exact ⟨h'.2.2 (i, Value.long (Int64.ofInt x)) List.mem_cons_self, hv⟩
      · cases hj
    · rw [if_neg hij] at hj
      refine ⟨?_, (h.2.2.2 j u hj hu).2⟩
      refine h'.2.2 (j, zval Y u) (List.mem_cons_of_mem _ (List.mem_filter.mpr ⟨zlv_in.mpr ⟨u, hj, hu, rfl⟩, ?_⟩))
      simp only [Bool.and_eq_true, Bool.not_eq_true', beq_eq_false_iff_ne, ne_eq, Bool.and_eq_false_iff]
      refine ⟨fun q => hij q.symm, fun q => h1 q.symm, ?_⟩
      by_cases hq : j + 1 = i
      · right
        intro hc
        rcases u with x | x | x | x
        · cases hc
        · exact hp j x hq hj
        · cases hc
        · cases hc
      · exact Or.inl hq
