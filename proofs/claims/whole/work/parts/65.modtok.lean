abbrev MPS : Type := Int × List Int × List Int × Int
def WL (G : ZG) (w : List Int) : Prop := match w with
  | [] => True
  | x :: r => G 41 0 r.length = x ∧ WL G r
def SL (base : Nat) (G : ZG) (out : List Int) : Prop := ∀ i, i < out.length → G 40 0 (base + i) = out.getD i 0
def MST (base : Nat) (G : ZG) (s : MPS) : Prop := G 8 0 11 = s.1 ∧ G 8 0 21 = (base : Int) + s.2.1.length ∧ SL base G s.2.1 ∧ G 8 0 22 = s.2.2.1.length ∧ WL G s.2.2.1 ∧ G 8 0 23 = s.2.2.2
def XI (s : MPS) : Prop := (0 ≤ s.1 ∧ s.1 ≤ 100) ∧ (s.2.1.length : Int) + s.2.2.1.length ≤ s.1
def zS (base : Nat) (g G : ZG) : Prop := (∀ f, f ≠ 8 → f ≠ 40 → f ≠ 41 → G f = g f) ∧ (∀ i k, ¬ (i = 0 ∧ (k = 11 ∨ k = 12 ∨ k = 21 ∨ k = 22 ∨ k = 23)) → G 8 i k = g 8 i k) ∧ ∀ k, k < base → G 40 0 k = g 40 0 k
theorem zS.rf (base : Nat) (g : ZG) : zS base g g := ⟨fun _ _ _ _ => rfl, fun _ _ _ => rfl, fun _ _ => rfl⟩
theorem zS.tr {base : Nat} {a b c : ZG} (h : zS base a b) (k : zS base b c) : zS base a c := ⟨fun f h1 h2 h3 => (k.1 f h1 h2 h3).trans (h.1 f h1 h2 h3), fun i j h1 => (k.2.1 i j h1).trans (h.2.1 i j h1), fun j hj => (k.2.2 j hj).trans (h.2.2 j hj)⟩
theorem zS.up8 (base : Nat) (g : ZG) {k : Nat} (hk : k = 11 ∨ k = 12 ∨ k = 21 ∨ k = 22 ∨ k = 23) (v : Int) : zS base g (zup g 8 0 k v) := ⟨fun f h1 _ _ => zup_nf _ _ _ _ h1, fun i j hj => by unfold zup; rw [if_neg (fun z => hj ⟨z.2.2, by rw [z.2.1]; exact hk⟩)], fun j _ => by rw [zup_nf _ _ _ _ (by decide)]⟩
theorem zS.up40 (base : Nat) (g : ZG) {k : Nat} (hk : base ≤ k) (v : Int) : zS base g (zup g 40 0 k v) := ⟨fun f _ h2 _ => zup_nf _ _ _ _ h2, fun i j _ => by rw [zup_nf _ _ _ _ (by decide)], fun j hj => zup_nk _ _ _ _ _ _ (by omega)⟩
theorem zS.up41 (base : Nat) (g : ZG) (k : Nat) (v : Int) : zS base g (zup g 41 0 k v) := ⟨fun f _ _ h3 => zup_nf _ _ _ _ h3, fun i j _ => by rw [zup_nf _ _ _ _ (by decide)], fun j hj => by rw [zup_nf _ _ _ _ (by decide)]⟩
theorem zS.lk {base : Nat} {g G : ZG} (h : zS base g G) : lkm G = lkm g := by
  funext a; unfold lkm; rw [h.2.1 0 10 (by decide), h.1 34 (by decide) (by decide) (by decide)]
theorem zS.fed {base : Nat} {g G : ZG} (h : zS base g G) (k : FED g) (ha : 0 ≤ G 8 0 11 ∧ G 8 0 11 ≤ 100) : FED G := by
  unfold FED; rw [h.2.1 0 10 (by decide), h.1 34 (by decide) (by decide) (by decide)]; exact ⟨k.1, ha, k.2.2⟩
theorem WL.far {G : ZG} {k : Nat} {v : Int} : ∀ {w : List Int}, w.length ≤ k → WL G w → WL (zup G 41 0 k v) w := by
  intro w
  induction w with
  | nil => intro _ _; trivial
  | cons b r ih =>
    intro hk h
    have hk : r.length + 1 ≤ k := hk
    exact ⟨(zup_nk _ _ _ _ _ _ (by omega)).trans h.1, ih (by omega) h.2⟩
theorem WL.of {G M : ZG} (h : M 41 = G 41) : ∀ {w : List Int}, WL G w → WL M w := by
  intro w
  induction w with
  | nil => intro _; trivial
  | cons b r ih => intro k; exact ⟨by rw [h]; exact k.1, ih k.2⟩
theorem MST.at {base : Nat} {G : ZG} {a : Int} {r : List Int × List Int × Int} (h : MST base G (a, r)) (v : Int) : MST base (zup G 8 0 11 v) (v, r) := ⟨zup_eq _ _ _ _ _, by rw [zup_nk _ _ _ _ _ _ (by decide)]; exact h.2.1, fun i hi => by rw [zup_nf _ _ _ _ (by decide)]; exact h.2.2.1 i hi, by rw [zup_nk _ _ _ _ _ _ (by decide)]; exact h.2.2.2.1, WL.of (zup_nf _ _ _ _ (by decide)) h.2.2.2.2.1, by rw [zup_nk _ _ _ _ _ _ (by decide)]; exact h.2.2.2.2.2⟩
theorem MST.dig {base : Nat} {G : ZG} {s : MPS} (h : MST base G s) (v : Int) : MST base (zup G 8 0 12 v) s := ⟨by rw [zup_nk _ _ _ _ _ _ (by decide)]; exact h.1, by rw [zup_nk _ _ _ _ _ _ (by decide)]; exact h.2.1, fun i hi => by rw [zup_nf _ _ _ _ (by decide)]; exact h.2.2.1 i hi, by rw [zup_nk _ _ _ _ _ _ (by decide)]; exact h.2.2.2.1, WL.of (zup_nf _ _ _ _ (by decide)) h.2.2.2.2.1, by rw [zup_nk _ _ _ _ _ _ (by decide)]; exact h.2.2.2.2.2⟩
theorem MST.em {base : Nat} {G : ZG} {a o : Int} {out w : List Int} (h : MST base G (a, out, w, o)) (x : Int) : MST base (zup (zup G 40 0 (G 8 0 21).toNat x) 8 0 21 (G 8 0 21 + 1)) (a, out ++ [x], w, o) := by
  have h21 : G 8 0 21 = (base : Int) + out.length := h.2.1
  have hx : (G 8 0 21).toNat = base + out.length := by omega
  refine ⟨?_, ?_, fun i hi => ?_, ?_, ?_, ?_⟩
  · rw [zup_nk _ _ _ _ _ _ (by decide), zup_nf _ _ _ _ (by decide)]; exact h.1
  · rw [zup_eq]; show _ = (base : Int) + ((out ++ [x]).length : Nat); rw [List.length_append]; show _ = (base : Int) + ((out.length + 1 : Nat)); omega
  · rw [zup_nf _ _ _ _ (by decide), hx]
    have hi : i < (out ++ [x]).length := hi
    rw [List.length_append] at hi
    have hi : i < out.length + 1 := hi
    show _ = (out ++ [x]).getD i 0
    by_cases hc : i = out.length
    · subst hc
      rw [zup_eq]; simp [List.getD_eq_getElem?_getD]
    · rw [zup_nk _ _ _ _ _ _ (by omega), h.2.2.1 i (by show i < out.length; omega)]
      simp [List.getD_eq_getElem?_getD, List.getElem?_append_left (show i < out.length by omega)]
  · rw [zup_nk _ _ _ _ _ _ (by decide), zup_nf _ _ _ _ (by decide)]; exact h.2.2.2.1
  · exact WL.of (by rw [zup_nf _ _ _ _ (by decide), zup_nf _ _ _ _ (by decide)]) h.2.2.2.2.1
  · rw [zup_nk _ _ _ _ _ _ (by decide), zup_nf _ _ _ _ (by decide)]; exact h.2.2.2.2.2
theorem MST.pop {base : Nat} {G : ZG} {a o x : Int} {out w : List Int} (h : MST base G (a, out, x :: w, o)) : MST base (zup G 8 0 22 (G 8 0 22 - 1)) (a, out, w, o) := by
  have h22 : G 8 0 22 = ((w.length + 1 : Nat) : Int) := h.2.2.2.1
  exact ⟨by rw [zup_nk _ _ _ _ _ _ (by decide)]; exact h.1, by rw [zup_nk _ _ _ _ _ _ (by decide)]; exact h.2.1, fun i hi => by rw [zup_nf _ _ _ _ (by decide)]; exact h.2.2.1 i hi, by rw [zup_eq]; show _ = ((w.length : Nat) : Int); omega, WL.of (zup_nf _ _ _ _ (by decide)) h.2.2.2.2.1.2, by rw [zup_nk _ _ _ _ _ _ (by decide)]; exact h.2.2.2.2.2⟩
theorem MST.op {base : Nat} {G : ZG} {a o : Int} {out w : List Int} (h : MST base G (a, out, w, o)) (v : Int) : MST base (zup G 8 0 23 v) (a, out, w, v) := ⟨by rw [zup_nk _ _ _ _ _ _ (by decide)]; exact h.1, by rw [zup_nk _ _ _ _ _ _ (by decide)]; exact h.2.1, fun i hi => by rw [zup_nf _ _ _ _ (by decide)]; exact h.2.2.1 i hi, by rw [zup_nk _ _ _ _ _ _ (by decide)]; exact h.2.2.2.1, WL.of (zup_nf _ _ _ _ (by decide)) h.2.2.2.2.1, zup_eq _ _ _ _ _⟩
theorem MST.push {base : Nat} {G : ZG} {a o : Int} {out w : List Int} (h : MST base G (a, out, w, o)) (x : Int) : MST base (zup (zup G 41 0 (G 8 0 22).toNat x) 8 0 22 (G 8 0 22 + 1)) (a, out, x :: w, o) := by
  have h22 : G 8 0 22 = ((w.length : Nat) : Int) := h.2.2.2.1
  have hx : (G 8 0 22).toNat = w.length := by omega
  rw [hx]
  refine ⟨by rw [zup_nk _ _ _ _ _ _ (by decide), zup_nf _ _ _ _ (by decide)]; exact h.1, by rw [zup_nk _ _ _ _ _ _ (by decide), zup_nf _ _ _ _ (by decide)]; exact h.2.1, fun i hi => by rw [zup_nf _ _ _ _ (by decide), zup_nf _ _ _ _ (by decide)]; exact h.2.2.1 i hi, ?_, WL.of (G := zup G 41 0 w.length x) (zup_nf _ _ _ _ (by decide)) ⟨zup_eq _ _ _ _ _, h.2.2.2.2.1.far (Nat.le_refl _)⟩, by rw [zup_nk _ _ _ _ _ _ (by decide), zup_nf _ _ _ _ (by decide)]; exact h.2.2.2.2.2⟩
  rw [zup_eq]; show _ = ((w.length + 1 : Nat) : Int); omega
def xWh (a : Int) (out w : List Int) (o : Int) : MPS := match w with
  | [] => (a, out, [], o)
  | x :: r => if x = 33 then xWh a (out ++ [-33]) r (o - 1) else (a, out, x :: r, o)
def xSe (c a : Int) (out w : List Int) (o : Int) : MPS := match w with
  | [] => (a, out, [], o)
  | x :: r => if x = 38 ∨ (x = 124 ∧ c ≠ 38) then xSe c a (out ++ [-x]) r o else (a, out, x :: r, o)
def xTest (lk : Int → Int) (a : Int) (out w : List Int) (o : Int) : Bool × MPS := if xPl (lk a) < 0 then (false, (a, out, w, o)) else if ¬ (60 ≤ lk (a + 1) ∧ lk (a + 1) ≤ 62) then (false, (a + 1, out, w, o)) else if ¬ (48 ≤ lk (a + 2) ∧ lk (a + 2) ≤ 57) then (false, (a + 2, out, w, o)) else (true, xWh (xNum lk (a + 2)).2 (out ++ [1000 * xPl (lk a) + 100 * (lk (a + 1) - 60) + (xNum lk (a + 2)).1]) w o)
theorem XI.em {a o x : Int} {out w : List Int} {y : Int} (h : XI (a, out, x :: w, o)) {o2 : Int} : XI (a, out ++ [y], w, o2) := by
  refine ⟨h.1, ?_⟩
  have h2 : (out.length : Int) + ((w.length + 1 : Nat) : Int) ≤ a := h.2
  show (((out ++ [y]).length : Nat) : Int) + (w.length : Nat) ≤ a
  rw [List.length_append]
  show ((out.length + 1 : Nat) : Int) + (w.length : Nat) ≤ a
  omega
theorem xWh_XI : ∀ (w : List Int) (a : Int) (out : List Int) (o : Int), XI (a, out, w, o) → XI (xWh a out w o) ∧ (xWh a out w o).1 = a := by
  intro w
  induction w with
  | nil => intro a out o h; exact ⟨h, rfl⟩
  | cons x r ih =>
    intro a out o h
    unfold xWh
    split
    · exact ih a _ _ h.em
    · exact ⟨h, rfl⟩
theorem xSe_XI (c : Int) : ∀ (w : List Int) (a : Int) (out : List Int) (o : Int), XI (a, out, w, o) → XI (xSe c a out w o) ∧ (xSe c a out w o).1 = a ∧ (xSe c a out w o).2.2.2 = o := by
  intro w
  induction w with
  | nil => intro a out o h; exact ⟨h, rfl, rfl⟩
  | cons x r ih =>
    intro a out o h
    unfold xSe
    split
    · exact ih a _ o h.em
    · exact ⟨h, rfl, rfl⟩
theorem l_X8_whole {Y : ZW} {Q : Option ZV → ZG → Prop} {g : ZG} {base : Nat} (hb : base ≤ 500) : ∀ (w : List Int) (a : Int) (out : List Int) (o : Int) (G : ZG), MST base G (a, out, w, o) → XI (a, out, w, o) → zS base g G → (-1000 ≤ o - w.length ∧ o ≤ 1000) → (∀ M, MST base M (xWh a out w o) → zS base g M → Q none M) → ZVV Y mX8_whole (zcx Y 2 Q) 0 [ZR 8 0] [] G := by
  intro w
  induction w with
  | nil =>
    intro a out o G hM hX hS ho hq
    have h22 : G 8 0 22 = 0 := hM.2.2.2.1
    refine zs_aload_n (j := 0) (i := 0) rfl rfl rfl ?_
    refine zs_getfield (f := 8) (k := 22) rfl rfl (trivial) ?_
    show ZVV _ _ _ _ _ (ZI (G 8 0 22) :: _) _
    refine zs_if_le 52 rfl (by omega) (fun hc_4 => ?_) (fun hc_4 => ?_)
    · exact zs_return rfl rfl (hq G hM hS)
    · exfalso; omega
  | cons x r ih =>
    intro a out o G hM hX hS ho hq
    have h22 : G 8 0 22 = ((r.length + 1 : Nat) : Int) := hM.2.2.2.1
    have h21 : G 8 0 21 = (base : Int) + out.length := hM.2.1
    have hX1 : 0 ≤ a ∧ a ≤ 100 := hX.1
    have hX2 : (out.length : Int) + ((r.length + 1 : Nat) : Int) ≤ a := hX.2
    have ho2 : -1000 ≤ o - ((r.length + 1 : Nat) : Int) ∧ o ≤ 1000 := ho
    refine zs_aload_n (j := 0) (i := 0) rfl rfl rfl ?_
    refine zs_getfield (f := 8) (k := 22) rfl rfl (trivial) ?_
    show ZVV _ _ _ _ _ (ZI (G 8 0 22) :: _) _
    refine zs_if_le 52 rfl (by omega) (fun hc_4 => ?_) (fun hc_4 => ?_)
    · exfalso; omega
    · refine zs_aload_n (j := 0) (i := 0) rfl rfl rfl ?_
      refine zs_getfield (f := 8) (k := 20) rfl rfl (trivial) ?_
      show ZVV _ _ _ _ _ (ZR 41 0 :: _) _
      refine zs_aload_n (j := 0) (i := 0) rfl rfl rfl ?_
      refine zs_getfield (f := 8) (k := 22) rfl rfl (trivial) ?_
      show ZVV _ _ _ _ _ (ZI (G 8 0 22) :: _) _
      refine zs_iconst (n := 1) rfl ⟨by omega, by omega⟩ ?_
      refine zs_isub_r rfl ⟨by omega, by omega⟩ ?_
      refine zs_iald (n := 101) rfl rfl (by omega) (by omega) ?_
      rw [show G 41 0 ((G 8 0 22) - 1).toNat = x from by rw [show (G 8 0 22 - 1).toNat = r.length by omega]; exact hM.2.2.2.2.1.1]
      show ZVV _ _ _ 18 _ _ _
      refine zs_bipush (n := 33) rfl ⟨by omega, by omega⟩ ?_
      refine zs_icmp_ne 52 rfl (by omega) (fun hc_20 => ?_) (fun hc_20 => ?_)
      · exact zs_return rfl rfl (by
      have hx := hq G
      rw [show xWh a out (x :: r) o = (a, out, x :: r, o) from if_neg hc_20] at hx
      exact hx hM hS)
      · refine zs_aload_n (j := 0) (i := 0) rfl rfl rfl ?_
        refine zs_bipush (n := (-33)) rfl ⟨by omega, by omega⟩ ?_
        refine zs_callV (host := "") rfl kX8_200 vX8_emits (c_X8_emits (-33)) [ZI (-33)] [] rfl (zroom_of (by omega)) rfl (Nat.le_of_ble_eq_true rfl) ⟨rfl, by omega, by omega⟩ (fun r_26 g_26 hq_26 => ?_)
        obtain ⟨hr_26, hg_26⟩ := hq_26
        rw [hr_26]
        have hM_26 : MST base g_26 (a, out ++ [-33], x :: r, o) := by rw [hg_26]; exact hM.em (-33)
        have hS_26 : zS base g g_26 := by rw [hg_26]; exact (hS.tr (zS.up40 base G (by omega) _)).tr (zS.up8 base _ (by decide) _)
        have h22_26 : g_26 8 0 22 = ((r.length + 1 : Nat) : Int) := hM_26.2.2.2.1
        have h23_26 : g_26 8 0 23 = o := hM_26.2.2.2.2.2
        show ZVV _ _ _ 29 _ [] g_26
        refine zs_aload_n (j := 0) (i := 0) rfl rfl rfl ?_
        refine zs_dup rfl (by intro x z; cases z) ?_
        refine zs_getfield (f := 8) (k := 22) rfl rfl (trivial) ?_
        show ZVV _ _ _ _ _ (ZI (g_26 8 0 22) :: _) _
        refine zs_iconst (n := 1) rfl ⟨by omega, by omega⟩ ?_
        show ZVV _ _ _ 35 _ _ _
        refine zs_isub_r rfl ⟨by omega, by omega⟩ ?_
        refine zs_putfield (f := 8) (k := 22) (x := (g_26 8 0 22) - 1) rfl rfl (rfl) ?_
        refine zs_aload_n (j := 0) (i := 0) rfl rfl rfl ?_
        refine zs_dup rfl (by intro x z; cases z) ?_
        refine zs_getfield (f := 8) (k := 23) rfl rfl (trivial) ?_
        show ZVV _ _ _ _ _ (ZI (g_26 8 0 23) :: _) _
        refine zs_iconst (n := 1) rfl ⟨by omega, by omega⟩ ?_
        refine zs_isub_r rfl ⟨by omega, by omega⟩ ?_
        refine zs_putfield (f := 8) (k := 23) (x := (g_26 8 0 23) - 1) rfl rfl (rfl) ?_
        show ZVV _ _ _ 49 _ _ _
        refine zs_goto 0 rfl (by omega) ?_
        rw [h23_26]
        refine ih a (out ++ [-33]) (o - 1) _ (hM_26.pop.op (o - 1)) hX.em ((hS_26.tr (zS.up8 base _ (by decide) _)).tr (zS.up8 base _ (by decide) _)) (by omega) (fun M m1 m2 => ?_)
        have hx := hq M
        rw [show xWh a out (x :: r) o = xWh a (out ++ [-33]) r (o - 1) from if_pos (Classical.not_not.mp hc_20)] at hx
        exact hx m1 m2
theorem c_X8_whole (base : Nat) (a : Int) (out w : List Int) (o : Int) : ZC mX8_whole 2 (fun av g => av = [ZR 8 0] ∧ base ≤ 500 ∧ MST base g (a, out, w, o) ∧ XI (a, out, w, o) ∧ (-800 ≤ o ∧ o ≤ 1000)) (fun _ g r g' => r = none ∧ MST base g' (xWh a out w o) ∧ zS base g g') := by
  refine zc_of gX8_whole (fun av g hp => by obtain ⟨rfl, -⟩ := hp; exact Nat.le_of_ble_eq_true rfl) (fun Y av g hwf hrg hp hok => ?_)
  obtain ⟨rfl, hb, hM, hX, ho⟩ := hp
  have hX1 : 0 ≤ a ∧ a ≤ 100 := hX.1
  have hX2 : (out.length : Int) + w.length ≤ a := hX.2
  exact l_X8_whole hb w a out o g hM hX (zS.rf base g) ⟨by omega, ho.2⟩ (fun M m1 m2 => ⟨rfl, m1, m2⟩)
theorem l_X8_settle {Y : ZW} {Q : Option ZV → ZG → Prop} {g : ZG} {base : Nat} {c : Int} (hb : base ≤ 500) : ∀ (w : List Int) (a : Int) (out : List Int) (o : Int) (G : ZG), MST base G (a, out, w, o) → XI (a, out, w, o) → zS base g G → (∀ M, MST base M (xSe c a out w o) → zS base g M → Q none M) → ZVV Y mX8_settle (zcx Y 2 Q) 0 [ZR 8 0, ZI c] [] G := by
  intro w
  induction w with
  | nil =>
    intro a out o G hM hX hS hq
    have h22 : G 8 0 22 = 0 := hM.2.2.2.1
    refine zs_aload_n (j := 0) (i := 0) rfl rfl rfl ?_
    refine zs_getfield (f := 8) (k := 22) rfl rfl (trivial) ?_
    show ZVV _ _ _ _ _ (ZI (G 8 0 22) :: _) _
    refine zs_if_le 72 rfl (by omega) (fun hc_4 => ?_) (fun hc_4 => ?_)
    · exact zs_return rfl rfl (hq G hM hS)
    · exfalso; omega
  | cons x r ih =>
    intro a out o G hM hX hS hq
    have h22 : G 8 0 22 = ((r.length + 1 : Nat) : Int) := hM.2.2.2.1
    have h21 : G 8 0 21 = (base : Int) + out.length := hM.2.1
    have hX1 : 0 ≤ a ∧ a ≤ 100 := hX.1
    have hX2 : (out.length : Int) + ((r.length + 1 : Nat) : Int) ≤ a := hX.2
    refine zs_aload_n (j := 0) (i := 0) rfl rfl rfl ?_
    refine zs_getfield (f := 8) (k := 22) rfl rfl (trivial) ?_
    show ZVV _ _ _ _ _ (ZI (G 8 0 22) :: _) _
    refine zs_if_le 72 rfl (by omega) (fun hc_4 => ?_) (fun hc_4 => ?_)
    · exfalso; omega
    · refine zs_aload_n (j := 0) (i := 0) rfl rfl rfl ?_
      refine zs_getfield (f := 8) (k := 20) rfl rfl (trivial) ?_
      show ZVV _ _ _ _ _ (ZR 41 0 :: _) _
      refine zs_aload_n (j := 0) (i := 0) rfl rfl rfl ?_
      refine zs_getfield (f := 8) (k := 22) rfl rfl (trivial) ?_
      show ZVV _ _ _ _ _ (ZI (G 8 0 22) :: _) _
      refine zs_iconst (n := 1) rfl ⟨by omega, by omega⟩ ?_
      refine zs_isub_r rfl ⟨by omega, by omega⟩ ?_
      refine zs_iald (n := 101) rfl rfl (by omega) (by omega) ?_
      rw [show G 41 0 ((G 8 0 22) - 1).toNat = x from by rw [show (G 8 0 22 - 1).toNat = r.length by omega]; exact hM.2.2.2.2.1.1]
      show ZVV _ _ _ 18 _ _ _
      refine zs_bipush (n := 38) rfl ⟨by omega, by omega⟩ ?_
      refine zs_icmp_eq 45 rfl (by omega) (fun hc_20 => ?_) (fun hc_20 => ?_)
      · refine zs_aload_n (j := 0) (i := 0) rfl rfl rfl ?_
        refine zs_dup rfl (by intro x z; cases z) ?_
        refine zs_getfield (f := 8) (k := 22) rfl rfl (trivial) ?_
        show ZVV _ _ _ _ _ (ZI (G 8 0 22) :: _) _
        refine zs_iconst (n := 1) rfl ⟨by omega, by omega⟩ ?_
        refine zs_isub_r rfl ⟨by omega, by omega⟩ ?_
        refine zs_putfield (f := 8) (k := 22) (x := (G 8 0 22) - 1) rfl rfl (rfl) ?_
        refine zs_aload_n (j := 0) (i := 0) rfl rfl rfl ?_
        show ZVV _ _ _ 56 _ _ _
        refine zs_aload_n (j := 0) (i := 0) rfl rfl rfl ?_
        refine zs_getfield (f := 8) (k := 20) rfl rfl (trivial) ?_
        show ZVV _ _ _ _ _ (ZR 41 0 :: _) _
        refine zs_aload_n (j := 0) (i := 0) rfl rfl rfl ?_
        refine zs_getfield (f := 8) (k := 22) rfl rfl (trivial) ?_
        show ZVV _ _ _ _ _ (ZI ((G 8 0 22) - 1) :: _) _
        refine zs_iald (n := 101) rfl rfl (by omega) (by omega) ?_
        show ZVV _ _ _ _ _ (ZI (G 41 0 ((G 8 0 22) - 1).toNat) :: _) _
        have hcx : x = 38 ∨ x = 124 ∧ c ≠ 38 := by omega
        have hcz : x = 38 ∨ x = 124 := by omega
        have htop2 : G 41 0 (G 8 0 22 - 1).toNat = x := by rw [show (G 8 0 22 - 1).toNat = r.length by omega]; exact hM.2.2.2.2.1.1
        rw [htop2]
        refine zs_ineg rfl ?_
        rw [show zw (-x) = -x from by rcases hcz with rfl | rfl <;> decide]
        refine zs_callV (host := "") rfl kX8_200 vX8_emits (c_X8_emits (-x)) [ZI (-x)] [] rfl (zroom_of (by omega)) rfl (Nat.le_of_ble_eq_true rfl) ⟨rfl, by rw [zup_nk _ _ _ _ _ _ (by decide)]; omega, by rw [zup_nk _ _ _ _ _ _ (by decide)]; omega⟩ (fun r_66 g_66 hq_66 => ?_)
        obtain ⟨hr_66, hg_66⟩ := hq_66
        rw [hr_66]
        have hM_66 : MST base g_66 (a, out ++ [-x], r, o) := by rw [hg_66]; exact hM.pop.em (-x)
        have hS_66 : zS base g g_66 := by rw [hg_66]; exact ((hS.tr (zS.up8 base G (by decide) _)).tr (zS.up40 base _ (by rw [zup_nk _ _ _ _ _ _ (by decide)]; omega) _)).tr (zS.up8 base _ (by decide) _)
        show ZVV _ _ _ 69 _ [] g_66
        refine zs_goto 0 rfl (by omega) ?_
        refine ih a (out ++ [-x]) o _ hM_66 hX.em hS_66 (fun M m1 m2 => ?_)
        have hx := hq M
        rw [show xSe c a out (x :: r) o = xSe c a (out ++ [-x]) r o from if_pos hcx] at hx
        exact hx m1 m2
      · refine zs_aload_n (j := 0) (i := 0) rfl rfl rfl ?_
        refine zs_getfield (f := 8) (k := 20) rfl rfl (trivial) ?_
        show ZVV _ _ _ _ _ (ZR 41 0 :: _) _
        refine zs_aload_n (j := 0) (i := 0) rfl rfl rfl ?_
        refine zs_getfield (f := 8) (k := 22) rfl rfl (trivial) ?_
        show ZVV _ _ _ _ _ (ZI (G 8 0 22) :: _) _
        refine zs_iconst (n := 1) rfl ⟨by omega, by omega⟩ ?_
        refine zs_isub_r rfl ⟨by omega, by omega⟩ ?_
        refine zs_iald (n := 101) rfl rfl (by omega) (by omega) ?_
        rw [show G 41 0 ((G 8 0 22) - 1).toNat = x from by rw [show (G 8 0 22 - 1).toNat = r.length by omega]; exact hM.2.2.2.2.1.1]
        show ZVV _ _ _ 34 _ _ _
        refine zs_bipush (n := 124) rfl ⟨by omega, by omega⟩ ?_
        refine zs_icmp_ne 72 rfl (by omega) (fun hc_36 => ?_) (fun hc_36 => ?_)
        · exact zs_return rfl rfl (by
      have hx := hq G
      rw [show xSe c a out (x :: r) o = (a, out, x :: r, o) from if_neg (by omega)] at hx
      exact hx hM hS)
        · refine zs_iload_n (j := 1) (i := 1) rfl rfl rfl ?_
          refine zs_bipush (n := 38) rfl ⟨by omega, by omega⟩ ?_
          refine zs_icmp_eq 72 rfl (by omega) (fun hc_42 => ?_) (fun hc_42 => ?_)
          · exact zs_return rfl rfl (by
      have hx := hq G
      rw [show xSe c a out (x :: r) o = (a, out, x :: r, o) from if_neg (by omega)] at hx
      exact hx hM hS)
          · refine zs_aload_n (j := 0) (i := 0) rfl rfl rfl ?_
            refine zs_dup rfl (by intro x z; cases z) ?_
            refine zs_getfield (f := 8) (k := 22) rfl rfl (trivial) ?_
            show ZVV _ _ _ _ _ (ZI (G 8 0 22) :: _) _
            refine zs_iconst (n := 1) rfl ⟨by omega, by omega⟩ ?_
            refine zs_isub_r rfl ⟨by omega, by omega⟩ ?_
            refine zs_putfield (f := 8) (k := 22) (x := (G 8 0 22) - 1) rfl rfl (rfl) ?_
            refine zs_aload_n (j := 0) (i := 0) rfl rfl rfl ?_
            show ZVV _ _ _ 56 _ _ _
            refine zs_aload_n (j := 0) (i := 0) rfl rfl rfl ?_
            refine zs_getfield (f := 8) (k := 20) rfl rfl (trivial) ?_
            show ZVV _ _ _ _ _ (ZR 41 0 :: _) _
            refine zs_aload_n (j := 0) (i := 0) rfl rfl rfl ?_
            refine zs_getfield (f := 8) (k := 22) rfl rfl (trivial) ?_
            show ZVV _ _ _ _ _ (ZI ((G 8 0 22) - 1) :: _) _
            refine zs_iald (n := 101) rfl rfl (by omega) (by omega) ?_
            show ZVV _ _ _ _ _ (ZI (G 41 0 ((G 8 0 22) - 1).toNat) :: _) _
            have hcx : x = 38 ∨ x = 124 ∧ c ≠ 38 := by omega
            have hcz : x = 38 ∨ x = 124 := by omega
            have htop2 : G 41 0 (G 8 0 22 - 1).toNat = x := by rw [show (G 8 0 22 - 1).toNat = r.length by omega]; exact hM.2.2.2.2.1.1
            rw [htop2]
            refine zs_ineg rfl ?_
            rw [show zw (-x) = -x from by rcases hcz with rfl | rfl <;> decide]
            refine zs_callV (host := "") rfl kX8_200 vX8_emits (c_X8_emits (-x)) [ZI (-x)] [] rfl (zroom_of (by omega)) rfl (Nat.le_of_ble_eq_true rfl) ⟨rfl, by rw [zup_nk _ _ _ _ _ _ (by decide)]; omega, by rw [zup_nk _ _ _ _ _ _ (by decide)]; omega⟩ (fun r_66 g_66 hq_66 => ?_)
            obtain ⟨hr_66, hg_66⟩ := hq_66
            rw [hr_66]
            have hM_66 : MST base g_66 (a, out ++ [-x], r, o) := by rw [hg_66]; exact hM.pop.em (-x)
            have hS_66 : zS base g g_66 := by rw [hg_66]; exact ((hS.tr (zS.up8 base G (by decide) _)).tr (zS.up40 base _ (by rw [zup_nk _ _ _ _ _ _ (by decide)]; omega) _)).tr (zS.up8 base _ (by decide) _)
            show ZVV _ _ _ 69 _ [] g_66
            refine zs_goto 0 rfl (by omega) ?_
            refine ih a (out ++ [-x]) o _ hM_66 hX.em hS_66 (fun M m1 m2 => ?_)
            have hx := hq M
            rw [show xSe c a out (x :: r) o = xSe c a (out ++ [-x]) r o from if_pos hcx] at hx
            exact hx m1 m2
theorem c_X8_settle (c : Int) (base : Nat) (a : Int) (out w : List Int) (o : Int) : ZC mX8_settle 2 (fun av g => av = [ZR 8 0, ZI c] ∧ base ≤ 500 ∧ MST base g (a, out, w, o) ∧ XI (a, out, w, o)) (fun _ g r g' => r = none ∧ MST base g' (xSe c a out w o) ∧ zS base g g') := by
  refine zc_of gX8_settle (fun av g hp => by obtain ⟨rfl, -⟩ := hp; exact Nat.le_of_ble_eq_true rfl) (fun Y av g hwf hrg hp hok => ?_)
  obtain ⟨rfl, hb, hM, hX⟩ := hp
  exact l_X8_settle hb w a out o g hM hX (zS.rf base g) (fun M m1 m2 => ⟨rfl, m1, m2⟩)
theorem xNum_r {lk : Int → Int} {a : Int} (hlt : ∀ b, lk b ≠ -1 → 0 ≤ b ∧ b < 100) (hd : 48 ≤ lk a ∧ lk a ≤ 57) (ha : 0 ≤ a ∧ a < 100) : (0 ≤ (xNum lk a).1 ∧ (xNum lk a).1 ≤ 99) ∧ (a + 1 ≤ (xNum lk a).2 ∧ (xNum lk a).2 ≤ 100 ∧ (xNum lk a).2 ≤ a + 2) := by
  unfold xNum
  split
  · rename_i h
    have := hlt (a + 1) (by omega)
    exact ⟨⟨by show 0 ≤ (lk a - 48) * 10 + lk (a + 1) - 48; omega, by show (lk a - 48) * 10 + lk (a + 1) - 48 ≤ 99; omega⟩, by show a + 1 ≤ a + 2; omega, by show a + 2 ≤ 100; omega, Int.le_refl _⟩
  · exact ⟨⟨by show 0 ≤ lk a - 48; omega, by show lk a - 48 ≤ 99; omega⟩, Int.le_refl _, by show a + 1 ≤ 100; omega, by show a + 1 ≤ a + 2; omega⟩
theorem xPl_r (c : Int) : -1 ≤ xPl c ∧ xPl c ≤ 5 := by
  unfold xPl
  repeat' split
  all_goals omega
set_option maxHeartbeats 4000000 in
theorem c_X8_takesTest (base : Nat) (a : Int) (out w : List Int) (o : Int) : ZC mX8_takesTest 4 (fun av g => av = [ZR 8 0] ∧ base ≤ 500 ∧ MST base g (a, out, w, o) ∧ XI (a, out, w, o) ∧ FED g ∧ (-700 ≤ o ∧ o ≤ 900)) (fun _ g r g' => r = some (ZI (if (xTest (lkm g) a out w o).1 = true then 1 else 0)) ∧ MST base g' (xTest (lkm g) a out w o).2 ∧ zS base g g') := by
  refine zc_of gX8_takesTest (fun av g hp => by obtain ⟨rfl, -⟩ := hp; exact Nat.le_of_ble_eq_true rfl) (fun Y av g hwf hrg hp hok => ?_)
  obtain ⟨rfl, hb, hM, hX, hf, ho⟩ := hp
  have hX1 : 0 ≤ a ∧ a ≤ 100 := hX.1
  have hX2 : (out.length : Int) + w.length ≤ a := hX.2
  have hat : g 8 0 11 = a := hM.1
  have hpr := xPl_r (lkm g a)
  show ZVV _ _ _ 0 [ZR 8 0, ZX 99, ZX 99] [] _
  refine zs_aload_n (j := 0) (i := 0) rfl rfl rfl ?_
  refine zs_aload_n (j := 0) (i := 0) rfl rfl rfl ?_
  refine zs_callV (host := "") rfl kX8_189 vX8_next c_X8_next [] [ZR 8 0] rfl (zroom_of (by omega)) rfl (Nat.le_of_ble_eq_true rfl) ⟨rfl, hf⟩ (fun r_2 g_2 hq_2 => ?_)
  obtain ⟨hr_2, hg_2⟩ := hq_2
  rw [hr_2, hg_2, hat]
  show ZVV _ _ _ 5 _ [ZI (lkm g a), ZR 8 0] (g)
  refine zs_callV (host := "") rfl kX8_204 vX8_place (c_X8_place (lkm g a)) [ZI (lkm g a)] [] rfl (zroom_of (by omega)) rfl (Nat.le_of_ble_eq_true rfl) ⟨rfl, trivial⟩ (fun r_5 g_5 hq_5 => ?_)
  obtain ⟨hr_5, hg_5⟩ := hq_5
  rw [hr_5, hg_5]
  show ZVV _ _ _ 8 _ [ZI (xPl (lkm g a))] g
  refine zs_istore_n (j := 1) (i := 1) rfl rfl (by decide) (by intro r x hr; have hr2 : r = 0 := (by omega); subst hr2; intro z; cases z) ?_
  show ZVV _ _ _ _ [ZR 8 0, ZI (xPl (lkm g a)), ZX 99] _ _
  refine zs_iload_n (j := 1) (i := 1) rfl rfl rfl ?_
  refine zs_if_ge 15 rfl (by omega) (fun hc_10 => ?_) (fun hc_10 => ?_)
  · refine zs_aload_n (j := 0) (i := 0) rfl rfl rfl ?_
    refine zs_dup rfl (by intro x z; cases z) ?_
    refine zs_getfield (f := 8) (k := 11) rfl rfl (trivial) ?_
    show ZVV _ _ _ _ _ (ZI (g 8 0 11) :: _) _
    refine zs_iconst (n := 1) rfl ⟨by omega, by omega⟩ ?_
    refine zs_iadd_r rfl ⟨by omega, by omega⟩ ?_
    refine zs_putfield (f := 8) (k := 11) (x := (g 8 0 11) + 1) rfl rfl (rfl) ?_
    rw [hat]
    have hl0 := lkm_lt (g := g) (a := a) (fun z => by rw [z] at hc_10; exact absurd hc_10 (by decide))
    refine zs_aload_n (j := 0) (i := 0) rfl rfl rfl ?_
    show ZVV _ _ _ 26 _ _ _
    refine zs_callV (host := "") rfl kX8_189 vX8_next c_X8_next [] [] rfl (zroom_of (by omega)) rfl (Nat.le_of_ble_eq_true rfl) ⟨rfl, hf.at (by omega)⟩ (fun r_26 g_26 hq_26 => ?_)
    obtain ⟨hr_26, hg_26⟩ := hq_26
    rw [hr_26, hg_26, lkm_up _ (by decide), zup_eq]
    show ZVV _ _ _ 29 _ [ZI (lkm g (a + 1))] (zup g 8 0 11 (a + 1))
    refine zs_istore_n (j := 2) (i := 2) rfl rfl (by decide) (by intro r x hr; have hr2 : r = 1 := (by omega); subst hr2; intro z; cases z) ?_
    show ZVV _ _ _ _ [ZR 8 0, ZI (xPl (lkm g a)), ZI (lkm g (a + 1))] _ _
    refine zs_aload_n (j := 0) (i := 0) rfl rfl rfl ?_
    refine zs_iload_n (j := 2) (i := 2) rfl rfl rfl ?_
    refine zs_bipush (n := 60) rfl ⟨by omega, by omega⟩ ?_
    refine zs_bipush (n := 62) rfl ⟨by omega, by omega⟩ ?_
    refine zs_callV (host := "") rfl kX8_170 vX8_in (c_X8_in (lkm g (a + 1)) 60 62) [ZI (lkm g (a + 1)), ZI 60, ZI 62] [] rfl (zroom_of (by omega)) rfl (Nat.le_of_ble_eq_true rfl) (⟨rfl, trivial⟩) (fun r_36 g_36 hq_36 => ?_)
    obtain ⟨hr_36, hg_36⟩ := hq_36
    rw [hr_36, hg_36]
    show ZVV _ _ _ 39 _ [ZI (if 60 ≤ lkm g (a + 1) ∧ lkm g (a + 1) ≤ 62 then 1 else 0)] _
    refine zs_if_ne 44 rfl (by omega) (fun hc_39 => ?_) (fun hc_39 => ?_)
    · refine zs_aload_n (j := 0) (i := 0) rfl rfl rfl ?_
      refine zs_dup rfl (by intro x z; cases z) ?_
      refine zs_getfield (f := 8) (k := 11) rfl rfl (trivial) ?_
      show ZVV _ _ _ _ _ (ZI ((zup g 8 0 11 (a + 1)) 8 0 11) :: _) _
      rw [show (zup g 8 0 11 (a + 1)) 8 0 11 = a + 1 from zup_eq _ _ _ _ _]
      refine zs_iconst (n := 1) rfl ⟨by omega, by omega⟩ ?_
      refine zs_iadd_r rfl ⟨by omega, by omega⟩ ?_
      refine zs_putfield (f := 8) (k := 11) (x := (a + 1) + 1) rfl rfl (rfl) ?_
      rw [show zup (zup g 8 0 11 (a + 1)) 8 0 11 ((a + 1) + 1) = zup g 8 0 11 (a + 2) from by rw [zup_zup, Int.add_assoc]; rfl]
      have hl1 := lkm_lt (g := g) (a := a + 1) (by omega)
      refine zs_aload_n (j := 0) (i := 0) rfl rfl rfl ?_
      show ZVV _ _ _ 55 _ _ _
      refine zs_callV (host := "") rfl kX8_207 vX8_takesNumber c_X8_takesNumber [] [] rfl (zroom_of (by omega)) rfl (Nat.le_of_ble_eq_true rfl) ⟨rfl, hf.at (by omega)⟩ (fun r_55 g_55 hq_55 => ?_)
      obtain ⟨hr_55, hg_55⟩ := hq_55
      rw [lkm_up _ (by decide), zup_eq] at hr_55 hg_55
      rw [hr_55]
      show ZVV _ _ _ 58 _ [ZI (if 48 ≤ lkm g (a + 2) ∧ lkm g (a + 2) ≤ 57 then 1 else 0)] g_55
      refine zs_if_ne 63 rfl (by omega) (fun hc_58 => ?_) (fun hc_58 => ?_)
      · have hD : 48 ≤ lkm g (a + 2) ∧ lkm g (a + 2) ≤ 57 := by omega
        rw [if_pos hD] at hg_55
        have hl2 := lkm_lt (g := g) (a := a + 2) (by omega)
        have hnr := xNum_r (lk := lkm g) (fun b h => ⟨(lkm_lt (g := g) h).1, (lkm_lt (g := g) h).2.1⟩) hD ⟨by omega, by omega⟩
        have hM_55 : MST base g_55 ((xNum (lkm g) (a + 2)).2, out, w, o) := by rw [hg_55]; exact ((hM.at (a + 2)).dig _).at _
        have hS_55 : zS base g g_55 := by rw [hg_55]; exact ((zS.up8 base g (by decide) _).tr (zS.up8 base _ (by decide) _)).tr (zS.up8 base _ (by decide) _)
        have h12_55 : g_55 8 0 12 = (xNum (lkm g) (a + 2)).1 := by rw [hg_55, zup_nk _ _ _ _ _ _ (by decide), zup_eq]
        have h21_55 : g_55 8 0 21 = (base : Int) + out.length := hM_55.2.1
        refine zs_aload_n (j := 0) (i := 0) rfl rfl rfl ?_
        refine zs_sipush (n := 1000) rfl ⟨by omega, by omega⟩ ?_
        refine zs_iload_n (j := 1) (i := 1) rfl rfl rfl ?_
        refine zs_imul_r rfl ⟨by omega, by omega⟩ ?_
        refine zs_bipush (n := 100) rfl ⟨by omega, by omega⟩ ?_
        refine zs_iload_n (j := 2) (i := 2) rfl rfl rfl ?_
        refine zs_bipush (n := 60) rfl ⟨by omega, by omega⟩ ?_
        show ZVV _ _ _ 74 _ _ _
        refine zs_isub_r rfl ⟨by omega, by omega⟩ ?_
        refine zs_imul_r rfl ⟨by omega, by omega⟩ ?_
        refine zs_iadd_r rfl ⟨by omega, by omega⟩ ?_
        refine zs_aload_n (j := 0) (i := 0) rfl rfl rfl ?_
        refine zs_getfield (f := 8) (k := 12) rfl rfl (trivial) ?_
        show ZVV _ _ _ _ _ (ZI (g_55 8 0 12) :: _) _
        rw [h12_55]
        refine zs_iadd_r rfl ⟨by omega, by omega⟩ ?_
        refine zs_callV (host := "") rfl kX8_200 vX8_emits (c_X8_emits (1000 * xPl (lkm g a) + 100 * (lkm g (a + 1) - 60) + (xNum (lkm g) (a + 2)).1)) [ZI (1000 * xPl (lkm g a) + 100 * (lkm g (a + 1) - 60) + (xNum (lkm g) (a + 2)).1)] [] rfl (zroom_of (by omega)) rfl (Nat.le_of_ble_eq_true rfl) ⟨rfl, by omega, by omega⟩ (fun r_82 g_82 hq_82 => ?_)
        obtain ⟨hr_82, hg_82⟩ := hq_82
        rw [hr_82]
        have hM_82 : MST base g_82 ((xNum (lkm g) (a + 2)).2, out ++ [1000 * xPl (lkm g a) + 100 * (lkm g (a + 1) - 60) + (xNum (lkm g) (a + 2)).1], w, o) := by rw [hg_82]; exact hM_55.em _
        have hS_82 : zS base g g_82 := by rw [hg_82]; exact (hS_55.tr (zS.up40 base _ (by omega) _)).tr (zS.up8 base _ (by decide) _)
        have hX_82 : XI ((xNum (lkm g) (a + 2)).2, out ++ [1000 * xPl (lkm g a) + 100 * (lkm g (a + 1) - 60) + (xNum (lkm g) (a + 2)).1], w, o) := ⟨⟨by show 0 ≤ (xNum (lkm g) (a + 2)).2; omega, by show (xNum (lkm g) (a + 2)).2 ≤ 100; omega⟩, by show (((out ++ [_]).length : Nat) : Int) + w.length ≤ (xNum (lkm g) (a + 2)).2; rw [List.length_append]; show ((out.length + 1 : Nat) : Int) + w.length ≤ (xNum (lkm g) (a + 2)).2; omega⟩
        show ZVV _ _ _ 85 _ [] g_82
        refine zs_aload_n (j := 0) (i := 0) rfl rfl rfl ?_
        show ZVV _ _ _ 86 _ _ _
        refine zs_callV (host := "") rfl kX8_210 vX8_whole (c_X8_whole base (xNum (lkm g) (a + 2)).2 (out ++ [1000 * xPl (lkm g a) + 100 * (lkm g (a + 1) - 60) + (xNum (lkm g) (a + 2)).1]) w o) [] [] rfl (zroom_of (by omega)) rfl (Nat.le_of_ble_eq_true rfl) ⟨rfl, hb, hM_82, hX_82, by omega⟩ (fun r_86 g_86 hq_86 => ?_)
        obtain ⟨hr_86, hM_86, hS1_86⟩ := hq_86
        rw [hr_86]
        have hS_86 := hS_82.tr hS1_86
        show ZVV _ _ _ 89 _ [] g_86
        refine zs_iconst (n := 1) rfl ⟨by omega, by omega⟩ ?_
        exact zs_zreturn rfl rfl (by omega) (by
      have hE : xTest (lkm g) a out w o = (true, xWh (xNum (lkm g) (a + 2)).2 (out ++ [1000 * xPl (lkm g a) + 100 * (lkm g (a + 1) - 60) + (xNum (lkm g) (a + 2)).1]) w o) := (if_neg (by omega)).trans ((if_neg (show ¬ ¬ (60 ≤ lkm g (a + 1) ∧ lkm g (a + 1) ≤ 62) by omega)).trans (if_neg (show ¬ ¬ (48 ≤ lkm g (a + 2) ∧ lkm g (a + 2) ≤ 57) from fun z => z hD)))
      rw [hE]
      exact ⟨rfl, hM_86, hS_86⟩)
      · refine zs_iconst (n := 0) rfl ⟨by omega, by omega⟩ ?_
        exact zs_zreturn rfl rfl (by omega) (by
      have hD : ¬ (48 ≤ lkm g (a + 2) ∧ lkm g (a + 2) ≤ 57) := by omega
      have hE : xTest (lkm g) a out w o = (false, (a + 2, out, w, o)) := (if_neg (by omega)).trans ((if_neg (show ¬ ¬ (60 ≤ lkm g (a + 1) ∧ lkm g (a + 1) ≤ 62) by omega)).trans (if_pos hD))
      rw [hE]
      exact ⟨rfl, by rw [hg_55, if_neg hD]; exact hM.at _, by rw [hg_55, if_neg hD]; exact zS.up8 base g (by decide) _⟩)
    · refine zs_iconst (n := 0) rfl ⟨by omega, by omega⟩ ?_
      exact zs_zreturn rfl rfl (by omega) (by
      have hE : xTest (lkm g) a out w o = (false, (a + 1, out, w, o)) := (if_neg (by omega)).trans (if_pos (show ¬ (60 ≤ lkm g (a + 1) ∧ lkm g (a + 1) ≤ 62) by omega))
      rw [hE]
      exact ⟨rfl, hM.at _, zS.up8 base g (by decide) _⟩)
  · refine zs_iconst (n := 0) rfl ⟨by omega, by omega⟩ ?_
    exact zs_zreturn rfl rfl (by omega) (by
      have hE : xTest (lkm g) a out w o = (false, (a, out, w, o)) := if_pos (by omega)
      rw [hE]
      exact ⟨rfl, hM, zS.rf base g⟩)
