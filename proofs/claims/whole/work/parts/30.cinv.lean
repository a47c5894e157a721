/-! what calls on the component leave alone -/
def zvis (f i : Nat) : Bool := !(f == 1 || f == 6 || f == 11 || f == 12 || f == 13 || f == 23 || f == 24 || ((f == 2 || f == 14 || f == 15 || f == 16 || f == 17 || f == 18 || f == 19) && i == 2))
def zVS (g g' : ZG) : Prop := ∀ f i, zvis f i = true → g' f i = g f i
theorem zVS.rf (g : ZG) : zVS g g := fun _ _ _ => rfl
theorem zVS.tr {a b c : ZG} (h : zVS a b) (k : zVS b c) : zVS a c := fun f i v => (k f i v).trans (h f i v)
theorem zvis_no {f i : Nat} (h : zvis f i = true) : f ≠ 1 ∧ f ≠ 6 ∧ f ≠ 11 ∧ f ≠ 12 ∧ f ≠ 13 ∧ f ≠ 23 ∧ f ≠ 24 ∧ ¬ ((f = 2 ∨ f = 14 ∨ f = 15 ∨ f = 16 ∨ f = 17 ∨ f = 18 ∨ f = 19) ∧ i = 2) := by
  unfold zvis at h
  simp at h
  obtain ⟨h1, h2⟩ := h
  refine ⟨?_, ?_, ?_, ?_, ?_, ?_, ?_, ?_⟩ <;> first | omega | (rintro ⟨h3, rfl⟩; simp at h2; omega)
def ZB (g : ZG) : Prop := ∀ f i k, (15 ≤ f ∧ f ≤ 18) → 6 ≤ k → g f i k = 0
def LC (g : ZG) : Prop := (∀ s : Nat, s < 288 → g 13 0 s ≤ g 1 0 8) ∧ 0 ≤ g 1 0 8 ∧ ZB g
def zQR (c : Int) (g g' : ZG) : Prop := zVS g g' ∧ LC g' ∧ g' 1 0 8 ≤ g 1 0 8 + c
theorem zQR.le {c d : Int} {g g' : ZG} (h : zQR c g g') (hd : c ≤ d) : zQR d g g' := ⟨h.1, h.2.1, by have := h.2.2; omega⟩
/-- the town that is now, in order -/
def COK (g : ZG) : Prop := SOK g 0 ∧ HOLD g 0 ∧ (∀ p : Nat, (p : Int) < g 2 0 3 → 0 ≤ g 18 0 p) ∧ (0 ≤ g 2 0 8 ∧ g 2 0 8 ≤ 9999)
def CP (g : ZG) : Prop := COK g ∧ LC g ∧ g 1 0 8 ≤ 900000000
abbrev mstart (g : ZG) : ZG := zup (zup (zcopyF g 2 0) 1 0 1 (-1)) 1 0 8 (g 1 0 8 + 1)
theorem mstart_nf (g : ZG) {f : Nat} (h : f ≠ 1) : mstart g f = zcopyF g 2 0 f := by show zup (zup _ _ _ _ _) _ _ _ _ f = _; rw [zup_nf _ _ _ _ h, zup_nf _ _ _ _ h]
theorem zcopyF_o (g : ZG) {q u f i : Nat} (h : ¬ (i = q ∧ (f = 2 ∨ f = 14 ∨ f = 15 ∨ f = 16 ∨ f = 17 ∨ f = 18 ∨ f = 19))) : zcopyF g q u f i = g f i := by
  funext k; unfold zcopyF; rw [if_neg (by omega)]
theorem zcopyF_2 (g : ZG) {q u k : Nat} (h : k = 0 ∨ k = 1 ∨ k = 3 ∨ k = 8 ∨ k = 10 ∨ k = 11) : zcopyF g q u 2 q k = g 2 u k := by
  unfold zcopyF; rw [if_pos ⟨rfl, Or.inl ⟨rfl, h⟩⟩]
theorem zcopyF_p {g : ZG} (hB : ZB g) {q u f : Nat} (h : f = 15 ∨ f = 16 ∨ f = 17 ∨ f = 18) : zcopyF g q u f q = g f u := by
  funext k
  unfold zcopyF
  by_cases hk : k < 6
  · rw [if_pos (by omega)]
  · rw [if_neg (by omega), hB f q k (by omega) (by omega), hB f u k (by omega) (by omega)]
theorem zcopyF_14 (g : ZG) {q u k : Nat} (h : k < 8) : zcopyF g q u 14 q k = g 14 u k := by
  unfold zcopyF; rw [if_pos (by omega)]
theorem zcopyF_19 (g : ZG) {q u k : Nat} (h : k < 12) : zcopyF g q u 19 q k = g 19 u k := by
  unfold zcopyF; rw [if_pos (by omega)]
theorem zcopyF_zb {g : ZG} (hB : ZB g) (q u : Nat) : ZB (zcopyF g q u) := by
  intro f i k h1 h2
  unfold zcopyF; rw [if_neg (by omega)]; exact hB f i k h1 h2
theorem start_ok {g : ZG} (h : CP g) : LOK (mstart g) ∧ LHH (mstart g) ∧ zTL (mstart g) = zTC g 0 (-1) ∧ zVS g (mstart g) ∧ ZB (mstart g) ∧ mstart g 1 0 8 = g 1 0 8 + 1 ∧ mstart g 18 2 = g 18 0 ∧ mstart g 2 2 3 = g 2 0 3 ∧ mstart g 2 2 0 = g 2 0 0 ∧ mstart g 2 2 8 = g 2 0 8 := by
  obtain ⟨⟨hS, hD, hH, hM⟩, ⟨hc, h0, hB⟩, hb⟩ := h
  have e18 : mstart g 18 2 = g 18 0 := (congrFun (mstart_nf g (by decide)) 2).trans (zcopyF_p hB (by decide))
  have e17 : mstart g 17 2 = g 17 0 := (congrFun (mstart_nf g (by decide)) 2).trans (zcopyF_p hB (by decide))
  have e16 : mstart g 16 2 = g 16 0 := (congrFun (mstart_nf g (by decide)) 2).trans (zcopyF_p hB (by decide))
  have e15 : mstart g 15 2 = g 15 0 := (congrFun (mstart_nf g (by decide)) 2).trans (zcopyF_p hB (by decide))
  have e2 : ∀ k, (k = 0 ∨ k = 1 ∨ k = 3 ∨ k = 8 ∨ k = 10 ∨ k = 11) → mstart g 2 2 k = g 2 0 k := fun k hk => (congrFun (congrFun (mstart_nf g (by decide)) 2) k).trans (zcopyF_2 g hk)
  have e20 := e2 0 (by decide); have e21 := e2 1 (by decide); have e23 := e2 3 (by decide); have e28 := e2 8 (by decide); have e211 := e2 11 (by decide)
  have f3 : mstart g 3 = g 3 := (mstart_nf g (by decide)).trans (by funext i; exact zcopyF_o g (by omega))
  have f20 : mstart g 20 = g 20 := (mstart_nf g (by decide)).trans (by funext i; exact zcopyF_o g (by omega))
  have f13 : mstart g 13 = g 13 := (mstart_nf g (by decide)).trans (by funext i; exact zcopyF_o g (by omega))
  have f14 : ∀ k, k < 8 → mstart g 14 2 k = g 14 0 k := fun k hk => (congrFun (congrFun (mstart_nf g (by decide)) 2) k).trans (zcopyF_14 g hk)
  have f18 : mstart g 1 0 8 = g 1 0 8 + 1 := by show zup _ _ _ _ _ 1 0 8 = _; rw [zup_eq]
  have f11 : mstart g 1 0 1 = -1 := by show zup _ _ _ _ _ 1 0 1 = _; rw [zup_nk _ _ _ _ _ _ (by decide), zup_eq]
  have hn8 := hS.1
  refine ⟨⟨?_, ?_, ?_, ?_, ?_⟩, ?_, ?_, ?_, ?_, f18, e18, e23, e20, e28⟩
  · refine ⟨by rw [e20]; exact hS.1, by rw [e21]; exact hS.2.1, by rw [e23]; exact hS.2.2.1, by rw [e28]; exact hS.2.2.2.1, ?_, ?_⟩
    · intro k hk
      rw [e20] at hk
      rw [e20, e21, f14 k (by omega)]
      exact hS.2.2.2.2.1 k hk
    · intro p hp
      rw [e23] at hp
      rw [e18, e17, e16, e15, e20]
      exact hS.2.2.2.2.2 p hp
  · unfold HOLD; rw [e211, f3, f20]; exact hD
  · refine ⟨fun s hs => by rw [f13, f18]; have := hc s hs; omega, fun p h f hp hh hf he => ?_⟩
    exfalso
    rw [f13, f18] at he
    rw [e23] at hp
    have := hS.2.2.1
    have := hc ((p * 8 + h) * 6 + f) (by omega)
    omega
  · rw [f11]; decide
  · rw [f18]; omega
  · intro p hp
    rw [e23] at hp
    rw [e18]; exact hH p hp
  · unfold zTL zTC zwC
    rw [f11, e20, e21, e23, e28, e211, e15, e16, e17, e18, f3, f20]
  · intro f i hv
    have := zvis_no hv
    rw [mstart_nf g this.1]
    exact zcopyF_o g (by omega)
  · intro f i k h1 h2
    rw [mstart_nf g (by omega)]
    exact zcopyF_zb hB 2 0 f i k h1 h2
theorem lc_of {g : ZG} (h : LOK g) (hB : ZB g) : LC g := ⟨h.2.2.1.1, h.2.2.2.2.1, hB⟩
theorem zSL.vs {g g' : ZG} (h : zSL g g') : zVS g g' := fun f i hv => by
  have := zvis_no hv
  rw [h.1 f (by omega) (by omega) (by omega) (by omega)]
theorem zSL.zb {g g' : ZG} (h : zSL g g') (hB : ZB g) : ZB g' := fun f i k h1 h2 => by
  rw [h.1 f (by omega) (by omega) (by omega) (by omega)]; exact hB f i k h1 h2
theorem zST.vs {g g' : ZG} (h : zST g g') : zVS g g' := fun f i hv => by
  have hn := zvis_no hv
  by_cases h2 : f = 2
  · subst h2
    funext k
    exact h.2.2.1 i k (by omega)
  · by_cases h18 : f = 18
    · subst h18
      funext k
      exact h.2.2.2 i k (by omega)
    · rw [h.1 f (by omega) h2 (by omega) (by omega) (by omega) h18]
theorem zST.zb {g g' : ZG} (h : zST g g') (hB : ZB g) : ZB g' := fun f i k h1 h2 => by
  by_cases h18 : f = 18
  · subst h18
    rw [h.2.2.2 i k (by omega)]; exact hB 18 i k h1 h2
  · rw [h.1 f (by omega) (by omega) (by omega) (by omega) (by omega) h18]; exact hB f i k h1 h2
theorem q_sl {g G M : ZG} (hV : zVS g G) (hB : ZB G) (hs : G 1 0 8 = g 1 0 8 + 1) (hS : zSL G M) (hL : LOK M) : zQR 1 g M := ⟨hV.tr hS.vs, lc_of hL (hS.zb hB), by rw [hS.2 0 8 (by decide) (by decide) (by decide), hs]; omega⟩
theorem q_st {c : Int} {g G M : ZG} (hV : zVS g G) (hB : ZB G) (hS : zST G M) (hL : LOK M) (hs : M 1 0 8 ≤ g 1 0 8 + c) : zQR c g M := ⟨hV.tr hS.vs, lc_of hL (hS.zb hB), hs⟩
