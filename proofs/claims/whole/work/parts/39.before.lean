theorem start_fresh {g G : ZG} (h : LC g) (hG : G = zup (zup (zcopyF g 2 0) 1 0 1 (-1)) 1 0 8 (g 1 0 8 + 1)) : ∀ s : Nat, s < 288 → G 13 0 s < G 1 0 8 := by
  intro s hs
  subst hG
  have f13 : mstart g 13 = g 13 := (mstart_nf g (by decide)).trans (by funext i; exact zcopyF_o g (by omega))
  have f18 : mstart g 1 0 8 = g 1 0 8 + 1 := by show zup _ _ _ _ _ 1 0 8 = _; rw [zup_eq]
  show mstart g 13 0 s < mstart g 1 0 8
  rw [f13, f18]
  have := h.1 s hs
  omega
def mbk (G : ZG) (p : Nat) (h v : Int) : ZG := zup (mput G p h) 2 2 8 v
theorem mbk_nf (G : ZG) (p : Nat) (h v : Int) {f : Nat} (h2 : f ≠ 2) (h18 : f ≠ 18) : mbk G p h v f = G f := by unfold mbk; rw [zup_nf _ _ _ _ h2, mput_nf _ _ _ h18]
theorem mbk_18 (G : ZG) (p : Nat) (h v : Int) : mbk G p h v 18 = mput G p h 18 := by unfold mbk; rw [zup_nf _ _ _ _ (by decide)]
theorem mbk_2k (G : ZG) (p : Nat) (h v : Int) {k : Nat} (hk : k ≠ 8) (i : Nat) : mbk G p h v 2 i k = G 2 i k := by unfold mbk; rw [zup_nk _ _ _ _ _ _ hk, mput_nf _ _ _ (by decide)]
theorem mbk_28 (G : ZG) (p : Nat) (h v : Int) : mbk G p h v 2 2 8 = v := by unfold mbk; rw [zup_eq]
def tBk (t : ZT) (p : Nat) (h v : Int) : ZT := ((tn t, tsh t, tnp t, v), (tput t p h).2)
theorem mbk_town (G : ZG) (p : Nat) (h v : Int) : zTL (mbk G p h v) = tBk (zTL G) p h v := by
  unfold zTL zTC zwC
  rw [mbk_nf G p h v (f := 1) (by decide) (by decide), mbk_nf G p h v (f := 3) (by decide) (by decide), mbk_nf G p h v (f := 15) (by decide) (by decide), mbk_nf G p h v (f := 16) (by decide) (by decide), mbk_nf G p h v (f := 17) (by decide) (by decide), mbk_nf G p h v (f := 20) (by decide) (by decide), mbk_18, mput_18, mbk_28, mbk_2k G p h v (k := 0) (by decide), mbk_2k G p h v (k := 1) (by decide), mbk_2k G p h v (k := 3) (by decide), mbk_2k G p h v (k := 11) (by decide)]
  rfl
theorem mbk_lok {G : ZG} {p : Nat} {h v : Int} (hL : LOK G) (hf : ∀ s : Nat, s < 288 → G 13 0 s < G 1 0 8) (hh : -1 ≤ h ∧ h < G 2 2 0) (hv : 0 ≤ v ∧ v ≤ 100000) : LOK (mbk G p h v) := by
  have h1 := mput_lok hL (p := p) hh
  have e0 := mbk_2k G p h v (k := 0) (by decide) 2
  have e1 := mbk_2k G p h v (k := 1) (by decide) 2
  have e3 := mbk_2k G p h v (k := 3) (by decide) 2
  have e11 := mbk_2k G p h v (k := 11) (by decide) 2
  have m2 : mput G p h 2 = G 2 := mput_nf G p h (by decide)
  obtain ⟨⟨a1, a2, a3, a4, a5, a6⟩, b, c, d⟩ := h1
  rw [m2] at a1 a2 a3 a4 a5 a6
  refine ⟨⟨by rw [e0]; exact a1, by rw [e1]; exact a2, by rw [e3]; exact a3, by rw [mbk_28]; exact hv, fun q hq => ?_, fun q hq => ?_⟩, ?_, ⟨fun s hs => ?_, fun P H F hp hH hF he => ?_⟩, ?_⟩
  · rw [e0] at hq
    rw [e0, e1, mbk_nf G p h v (f := 14) (by decide) (by decide)]
    have := a5 q hq
    rw [mput_nf G p h (f := 14) (by decide)] at this
    exact this
  · rw [e3] at hq
    rw [e0, mbk_18, mbk_nf G p h v (f := 17) (by decide) (by decide), mbk_nf G p h v (f := 15) (by decide) (by decide), mbk_nf G p h v (f := 16) (by decide) (by decide)]
    have := a6 q hq
    rw [mput_nf G p h (f := 17) (by decide), mput_nf G p h (f := 15) (by decide), mput_nf G p h (f := 16) (by decide)] at this
    exact this
  · unfold HOLD at *
    rw [e11, mbk_nf G p h v (f := 3) (by decide) (by decide), mbk_nf G p h v (f := 20) (by decide) (by decide)]
    rw [m2, mput_nf G p h (f := 3) (by decide), mput_nf G p h (f := 20) (by decide)] at b
    exact b
  · rw [mbk_nf G p h v (f := 13) (by decide) (by decide), mbk_nf G p h v (f := 1) (by decide) (by decide)]
    have := hf s hs; omega
  · exfalso
    rw [mbk_nf G p h v (f := 13) (by decide) (by decide), mbk_nf G p h v (f := 1) (by decide) (by decide)] at he
    rw [e3] at hp
    have := hf ((P * 8 + H) * 6 + F) (by omega)
    omega
  · rw [mbk_nf G p h v (f := 1) (by decide) (by decide)]
    rw [mput_nf G p h (f := 1) (by decide)] at d
    exact d
