def zfold {S : Type} (f : Nat → S → S) (n k : Nat) (s : S) : S := match n with
  | 0 => s
  | n + 1 => zfold f n (k + 1) (f k s)
theorem zfold_s {S : Type} (f : Nat → S → S) (n k : Nat) (s : S) : zfold f (n + 1) k s = zfold f n (k + 1) (f k s) := rfl
def tCut (np : Int) (f : Nat → Int) : Nat → Int := fun c => if (c : Int) < np then f c else 0
def tMore (t : ZT) (byp : Int) (start : Nat → Int) (ho : Nat → Int) (p h : Nat) : Int := if byp = 0 then (if (h : Int) = start p then 0 else 1) else zlpb (tn t) (tsh t) (tsr t) ho p
def tTry (t : ZT) (byp : Int) (start : Nat → Int) (rem p : Nat) (ho : Nat → Int) (lv : Nat) (sf : Int) (st : Int × (Nat → Int)) : Int × (Nat → Int) := match rem with
  | 0 => if st.1 ≤ sf then st else if tAll (tSetH t ho) = true then (sf, tCut (tnp t) ho) else st
  | rem + 1 => if st.1 ≤ sf then st else zfold (fun h s => if lv.testBit h = true then s else tTry t byp start rem (p + 1) (fun c => if c = p then (h : Int) else ho c) (lv ||| 1 <<< h) (sf + tMore t byp start (fun c => if c = p then (h : Int) else ho c) p h) s) (tn t).toNat 0 st
theorem tTry_s (t : ZT) (byp : Int) (start : Nat → Int) (rem p : Nat) (ho : Nat → Int) (lv : Nat) (sf : Int) (st : Int × (Nat → Int)) : tTry t byp start (rem + 1) p ho lv sf st = if st.1 ≤ sf then st else zfold (fun h s => if lv.testBit h = true then s else tTry t byp start rem (p + 1) (fun c => if c = p then (h : Int) else ho c) (lv ||| 1 <<< h) (sf + tMore t byp start (fun c => if c = p then (h : Int) else ho c) p h) s) (tn t).toNat 0 st := rfl
theorem zlpb_cong {n sh : Int} {sr ho ho' : Nat → Int} {p : Nat} (h : ∀ c, c ≤ p → ho c = ho' c) : zlpb n sh sr ho p = zlpb n sh sr ho' p := by
  unfold zlpb
  refine zsum_cong (fun j _ hj => ?_)
  unfold zliv
  rw [h j (by omega), h p (Nat.le_refl _)]
theorem tBes_cong {t : ZT} {ho ho' : Nat → Int} (h : ∀ c : Nat, (c : Int) < tnp t → ho c = ho' c) (p : Nat) (x : Int) : tBes (tSetH t ho) p x = tBes (tSetH t ho') p x := by
  unfold tBes
  refine zsum_cong (fun j _ hj => ?_)
  show (if j ≠ p ∧ zliv (tn t) (tsh t) ho j x = true then (1 : Int) else 0) = if j ≠ p ∧ zliv (tn t) (tsh t) ho' j x = true then 1 else 0
  unfold zliv
  rw [h j (by have : tnp (tSetH t ho) = tnp t := rfl
              rw [this] at hj; omega)]
theorem tAl_cong {t : ZT} {ho ho' : Nat → Int} (h : ∀ c : Nat, (c : Int) < tnp t → ho c = ho' c) (p : Nat) (x : Int) : tAl (tSetH t ho) p x = tAl (tSetH t ho') p x := by
  unfold tAl
  refine zsum_cong (fun j _ hj => ?_)
  show (if (j ≠ p ∧ zliv (tn t) (tsh t) ho j x = true) ∧ tsr t j = tsr t p then (1 : Int) else 0) = if (j ≠ p ∧ zliv (tn t) (tsh t) ho' j x = true) ∧ tsr t j = tsr t p then 1 else 0
  unfold zliv
  rw [h j (by have : tnp (tSetH t ho) = tnp t := rfl
              rw [this] at hj; omega)]
theorem tSu_cong {t : ZT} {ho ho' : Nat → Int} (h : ∀ c : Nat, (c : Int) < tnp t → ho c = ho' c) (p : Nat) (x : Int) : tSu (tSetH t ho) p x = tSu (tSetH t ho') p x := by
  have e1 := tBes_cong h p x
  have e2 := tAl_cong h p x
  have e3 : tWt (tSetH t ho) p x = tWt (tSetH t ho') p x := by
    unfold tWt; rw [e1]; rfl
  unfold tSu
  rw [e1, e2, e3]
  rfl
theorem tAll_cong {t : ZT} {ho ho' : Nat → Int} (h : ∀ c : Nat, (c : Int) < tnp t → ho c = ho' c) : tAll (tSetH t ho) = tAll (tSetH t ho') := by
  unfold tAll
  have : zfst (fun p => !tSu (tSetH t ho) p (tho (tSetH t ho) p)) (tnp (tSetH t ho)).toNat 0 = zfst (fun p => !tSu (tSetH t ho') p (tho (tSetH t ho') p)) (tnp (tSetH t ho')).toNat 0 := by
    refine zfst_cong (fun j _ hj => ?_)
    have hj2 : (j : Int) < tnp t := by
      have : tnp (tSetH t ho) = tnp t := rfl
      rw [this] at hj; omega
    show (!tSu (tSetH t ho) j (ho j)) = !tSu (tSetH t ho') j (ho' j)
    rw [h j hj2, tSu_cong h]
  rw [this]
theorem zfold_cong {S : Type} {f f' : Nat → S → S} : ∀ {n k : Nat} {s : S}, (∀ j s, k ≤ j → j < k + n → f j s = f' j s) → zfold f n k s = zfold f' n k s := by
  intro n
  induction n with
  | zero => intro k s h; rfl
  | succ n ih => intro k s h; rw [zfold_s, zfold_s, h k s (by omega) (by omega), ih (fun j s h1 h2 => h j s (by omega) (by omega))]
theorem tTry_cong {t : ZT} {byp : Int} {start : Nat → Int} : ∀ (rem p : Nat) (ho ho' : Nat → Int) (lv : Nat) (sf : Int) (st : Int × (Nat → Int)), tnp t ≤ (p : Int) + rem → (∀ c, c < p → ho c = ho' c) → tTry t byp start rem p ho lv sf st = tTry t byp start rem p ho' lv sf st := by
  intro rem
  induction rem with
  | zero =>
    intro p ho ho' lv sf st hp h
    have h2 : ∀ c : Nat, (c : Int) < tnp t → ho c = ho' c := fun c hc => h c (by omega)
    have hc : tCut (tnp t) ho = tCut (tnp t) ho' := by
      funext c; unfold tCut
      by_cases hc : (c : Int) < tnp t
      · rw [if_pos hc, if_pos hc, h2 c hc]
      · rw [if_neg hc, if_neg hc]
    unfold tTry
    rw [tAll_cong h2, hc]
  | succ rem ih =>
    intro p ho ho' lv sf st hp h
    unfold tTry
    have : ∀ s0, zfold (fun (h : Nat) s => if lv.testBit h = true then s else tTry t byp start rem (p + 1) (fun c => if c = p then (h : Int) else ho c) (lv ||| 1 <<< h) (sf + tMore t byp start (fun c => if c = p then (h : Int) else ho c) p h) s) (tn t).toNat 0 s0 = zfold (fun (h : Nat) s => if lv.testBit h = true then s else tTry t byp start rem (p + 1) (fun c => if c = p then (h : Int) else ho' c) (lv ||| 1 <<< h) (sf + tMore t byp start (fun c => if c = p then (h : Int) else ho' c) p h) s) (tn t).toNat 0 s0 := by
      intro s0
      refine zfold_cong (fun j s _ _ => ?_)
      have hx : ∀ c, c < p + 1 → (fun c => if c = p then (j : Int) else ho c) c = (fun c => if c = p then (j : Int) else ho' c) c := by
        intro c hc
        dsimp only
        by_cases hcp : c = p
        · rw [if_pos hcp, if_pos hcp]
        · rw [if_neg hcp, if_neg hcp, h c (by omega)]
      have hm : tMore t byp start (fun c => if c = p then (j : Int) else ho c) p j = tMore t byp start (fun c => if c = p then (j : Int) else ho' c) p j := by
        unfold tMore
        rw [zlpb_cong (fun c hc => hx c (by omega))]
      rw [hm, ih (p + 1) _ _ _ _ s (by omega) hx]
    rw [this]
theorem tTry_rng {t : ZT} {byp : Int} {start : Nat → Int} : ∀ (rem p : Nat) (ho : Nat → Int) (lv : Nat) (sf : Int) (st : Int × (Nat → Int)), 0 ≤ sf → 0 ≤ st.1 → 0 ≤ (tTry t byp start rem p ho lv sf st).1 ∧ (tTry t byp start rem p ho lv sf st).1 ≤ st.1 := by
  intro rem
  induction rem with
  | zero =>
    intro p ho lv sf st h1 h2
    unfold tTry
    split
    · exact ⟨h2, Int.le_refl _⟩
    · split
      · exact ⟨h1, by show sf ≤ st.1; omega⟩
      · exact ⟨h2, Int.le_refl _⟩
  | succ rem ih =>
    intro p ho lv sf st h1 h2
    unfold tTry
    split
    · exact ⟨h2, Int.le_refl _⟩
    · have : ∀ (n k : Nat) (s : Int × (Nat → Int)), 0 ≤ s.1 → 0 ≤ (zfold (fun (h : Nat) s => if lv.testBit h = true then s else tTry t byp start rem (p + 1) (fun c => if c = p then (h : Int) else ho c) (lv ||| 1 <<< h) (sf + tMore t byp start (fun c => if c = p then (h : Int) else ho c) p h) s) n k s).1 ∧ (zfold (fun (h : Nat) s => if lv.testBit h = true then s else tTry t byp start rem (p + 1) (fun c => if c = p then (h : Int) else ho c) (lv ||| 1 <<< h) (sf + tMore t byp start (fun c => if c = p then (h : Int) else ho c) p h) s) n k s).1 ≤ s.1 := by
        intro n
        induction n with
        | zero => intro k s hs; exact ⟨hs, Int.le_refl _⟩
        | succ n ihn =>
          intro k s hs
          rw [zfold_s]
          have hm : 0 ≤ tMore t byp start (fun c => if c = p then (k : Int) else ho c) p k := by
            unfold tMore
            split
            · split <;> decide
            · exact (zlpb_rng _ _ _ _ _).1
          have hk : 0 ≤ ((fun (h : Nat) s => if lv.testBit h = true then s else tTry t byp start rem (p + 1) (fun c => if c = p then (h : Int) else ho c) (lv ||| 1 <<< h) (sf + tMore t byp start (fun c => if c = p then (h : Int) else ho c) p h) s) k s).1 ∧ ((fun (h : Nat) s => if lv.testBit h = true then s else tTry t byp start rem (p + 1) (fun c => if c = p then (h : Int) else ho c) (lv ||| 1 <<< h) (sf + tMore t byp start (fun c => if c = p then (h : Int) else ho c) p h) s) k s).1 ≤ s.1 := by
            dsimp only
            split
            · exact ⟨hs, Int.le_refl _⟩
            · exact ih (p + 1) _ _ _ s (by omega) hs
          have := ihn (k + 1) _ hk.1
          exact ⟨this.1, Int.le_trans this.2 hk.2⟩
      exact this _ 0 st h2
