/-! the reading of THE TEXT: where it stands, whether it is faulty, the steps so far -/
abbrev PS : Type := Int × Bool × List Int
def lkf (g : ZG) (a : Int) : Int := if 0 ≤ a ∧ a < g 5 0 0 ∧ a < 100 then g 22 0 a.toNat else -1
def pset (g : ZG) (j : Nat) (s : PS) : ZG := fun f i k =>
  if f = 5 ∧ i = 0 then (if k = 3 then s.1 else if k = 4 then lkf g s.1 else if k = 5 then (if s.2.1 = true then 1 else 0) else g 5 0 k)
  else if f = 3 ∧ i = j then (if k = 1 then (s.2.2.length : Int) else if k = 2 then (if s.2.2.any (fun x => decide (x / 100 = 21)) = true then 1 else 0) else g 3 j k)
  else if f = 20 ∧ i = j then (if k < s.2.2.length then s.2.2.getD k 0 else g 20 j k) else g f i k
def pEx (lk : Int → Int) (w : Int) (s : PS) : PS := if s.2.1 = true then s else if lk s.1 = w then (s.1 + 1, s.2) else (s.1, true, s.2.2)
def pNum (lk : Int → Int) (s : PS) : Int × PS := if s.2.1 = true ∨ ¬ (48 ≤ lk s.1 ∧ lk s.1 ≤ 57) then (0, (s.1, true, s.2.2)) else if 48 ≤ lk (s.1 + 1) ∧ lk (s.1 + 1) ≤ 57 then ((lk s.1 - 48) * 10 + lk (s.1 + 1) - 48, (s.1 + 2, s.2)) else (lk s.1 - 48, (s.1 + 1, s.2))
def pOne (lk : Int → Int) (l : List Int) (n k : Nat) (s : PS) : Int × PS := match n with
  | 0 => (0, (s.1, true, s.2.2))
  | n + 1 => if s.2.1 = false ∧ lk s.1 = l.getD k 0 then ((k : Int), (s.1 + 1, s.2)) else pOne lk l n (k + 1) s
def pAdd (x : Int) (s : PS) : PS := (s.1, s.2.1, if s.2.2.length < 100 then s.2.2 ++ [x] else s.2.2)
def pTest (lk : Int → Int) (s : PS) : PS := pAdd (((pOne lk (zxr 13) 6 0 s).1 * 3 + (pOne lk (zxr 14) 3 0 (pOne lk (zxr 13) 6 0 s).2).1) * 100 + (pNum lk (pOne lk (zxr 14) 3 0 (pOne lk (zxr 13) 6 0 s).2).2).1) (pNum lk (pOne lk (zxr 14) 3 0 (pOne lk (zxr 13) 6 0 s).2).2).2
def pLoop (lk : Int → Int) (w x : Int) (part : PS → PS) (n : Nat) (s : PS) : PS := match n with
  | 0 => s
  | n + 1 => if s.2.1 = false ∧ lk s.1 = w then pLoop lk w x part n (pAdd x (part (pEx lk w s))) else s
def pBo (lk : Int → Int) (part : PS → PS) (s : PS) : PS := pLoop lk 38 1900 part 99 (part s)
def pEi (lk : Int → Int) (part : PS → PS) (s : PS) : PS := pLoop lk 124 2000 (pBo lk part) 99 (pBo lk part s)
def pPa (lk : Int → Int) (r : Nat) (s : PS) : PS := match r with
  | 0 => pTest lk s
  | r + 1 => if s.2.1 = false ∧ lk s.1 = 33 then pAdd 1800 (pPa lk r (pEx lk 33 s)) else if s.2.1 = false ∧ lk s.1 = 40 then pEx lk 41 (pEi lk (pPa lk r) (pEx lk 40 s)) else pTest lk s
def pWord (lk : Int → Int) (l : List Int) (n k : Nat) (s : PS) : PS := match n with
  | 0 => s
  | n + 1 => pWord lk l n (k + 1) (pEx lk (l.getD k 0) s)
def pTail (lk : Int → Int) (st : Int) (s : PS) : PS := pAdd (st * 100 + (pNum lk s).1) (pEi lk (pPa lk 4) (pEx lk 32 (pNum lk s).2))
def pCl (lk : Int → Int) (s : PS) : PS := if lk s.1 = 109 then pTail lk 22 (pWord lk (zxr 10) 5 0 s) else if lk s.1 = 100 then pTail lk 23 (pWord lk (zxr 11) 5 0 s) else pTail lk 21 (pWord lk (zxr 12) 5 0 s)
def pTx (lk : Int → Int) (n : Int) (m k : Nat) (s : PS) : Int × PS := match m with
  | 0 => (s.1, s)
  | m + 1 => if (pCl lk (if k = 0 then s else pEx lk 59 s)).2.1 = true then ((pCl lk (if k = 0 then s else pEx lk 59 s)).1, pCl lk (if k = 0 then s else pEx lk 59 s)) else if n ≤ (pCl lk (if k = 0 then s else pEx lk 59 s)).1 then (-1, pCl lk (if k = 0 then s else pEx lk 59 s)) else pTx lk n m (k + 1) (pCl lk (if k = 0 then s else pEx lk 59 s))
def PB (s : PS) : Prop := (0 ≤ s.1 ∧ s.1 ≤ 100) ∧ s.2.2.length ≤ 100
def LK (lk : Int → Int) : Prop := ∀ a, lk a = -1 ∨ (a < 100 ∧ 0 ≤ lk a)
theorem lkf_lt {g : ZG} {a : Int} (h : lkf g a ≠ -1) : a < 100 := by
  unfold lkf at h
  by_cases h2 : 0 ≤ a ∧ a < g 5 0 0 ∧ a < 100
  · exact h2.2.2
  · rw [if_neg h2] at h; exact absurd rfl h
theorem pEx_B {g : ZG} {w : Int} {s : PS} (hw : 0 ≤ w) (h : PB s) : PB (pEx (lkf g) w s) := by
  unfold pEx
  by_cases h1 : s.2.1 = true
  · rw [if_pos h1]; exact h
  · rw [if_neg h1]
    by_cases h2 : lkf g s.1 = w
    · rw [if_pos h2]
      have := lkf_lt (g := g) (a := s.1) (by omega)
      exact ⟨⟨by have := h.1.1; show 0 ≤ s.1 + 1; omega, by show s.1 + 1 ≤ 100; omega⟩, h.2⟩
    · rw [if_neg h2]; exact ⟨h.1, h.2⟩
theorem pNum_B {g : ZG} {s : PS} (h : PB s) : PB (pNum (lkf g) s).2 := by
  unfold pNum
  by_cases h1 : s.2.1 = true ∨ ¬ (48 ≤ lkf g s.1 ∧ lkf g s.1 ≤ 57)
  · rw [if_pos h1]; exact ⟨h.1, h.2⟩
  · rw [if_neg h1]
    have h3 : 48 ≤ lkf g s.1 := (Classical.not_not.mp (not_or.mp h1).2).1
    have := lkf_lt (g := g) (a := s.1) (by omega)
    have h0 := h.1.1
    by_cases h2 : 48 ≤ lkf g (s.1 + 1) ∧ lkf g (s.1 + 1) ≤ 57
    · rw [if_pos h2]
      have := lkf_lt (g := g) (a := s.1 + 1) (by omega)
      exact ⟨⟨by show 0 ≤ s.1 + 2; omega, by show s.1 + 2 ≤ 100; omega⟩, h.2⟩
    · rw [if_neg h2]; exact ⟨⟨by show 0 ≤ s.1 + 1; omega, by show s.1 + 1 ≤ 100; omega⟩, h.2⟩
theorem pNum_r {lk : Int → Int} {s : PS} : 0 ≤ (pNum lk s).1 ∧ (pNum lk s).1 < 100 := by
  unfold pNum
  split
  · exact ⟨Int.le_refl 0, by show (0 : Int) < 100; omega⟩
  · rename_i h1
    have h3 := Classical.not_not.mp (not_or.mp h1).2
    split
    · rename_i h2
      show 0 ≤ (lk s.1 - 48) * 10 + lk (s.1 + 1) - 48 ∧ (lk s.1 - 48) * 10 + lk (s.1 + 1) - 48 < 100
      omega
    · show 0 ≤ lk s.1 - 48 ∧ lk s.1 - 48 < 100; omega
theorem pOne_B {g : ZG} {l : List Int} (hl : ∀ k, 0 ≤ l.getD k 0) {s : PS} (h : PB s) : ∀ n k, PB (pOne (lkf g) l n k s).2 := by
  intro n
  induction n with
  | zero => intro k; exact ⟨h.1, h.2⟩
  | succ n ih =>
    intro k
    unfold pOne
    by_cases h1 : s.2.1 = false ∧ lkf g s.1 = l.getD k 0
    · rw [if_pos h1]
      have := hl k
      have := lkf_lt (g := g) (a := s.1) (by omega)
      exact ⟨⟨by have := h.1.1; show 0 ≤ s.1 + 1; omega, by show s.1 + 1 ≤ 100; omega⟩, h.2⟩
    · rw [if_neg h1]; exact ih (k + 1)
theorem pOne_r {lk : Int → Int} {l : List Int} {s : PS} : ∀ n k, 0 ≤ (pOne lk l n k s).1 ∧ ((pOne lk l n k s).1 = 0 ∨ (pOne lk l n k s).1 < (k : Int) + n) := by
  intro n
  induction n with
  | zero => intro k; exact ⟨Int.le_refl 0, Or.inl rfl⟩
  | succ n ih =>
    intro k
    unfold pOne
    split
    · exact ⟨by show (0 : Int) ≤ k; omega, Or.inr (by show (k : Int) < _; omega)⟩
    · have := ih (k + 1)
      exact ⟨this.1, this.2.imp id (fun z => by omega)⟩
theorem pAdd_B {x : Int} {s : PS} (h : PB s) : PB (pAdd x s) := by
  refine ⟨h.1, ?_⟩
  show (if s.2.2.length < 100 then s.2.2 ++ [x] else s.2.2).length ≤ 100
  by_cases h1 : s.2.2.length < 100
  · rw [if_pos h1, List.length_append]; exact h1
  · rw [if_neg h1]; exact h.2
theorem zxr_pos : ∀ q, q < 5 → ∀ k, 0 ≤ (zxr (10 + q)).getD k 0 := by
  intro q hq k
  by_cases hk : (k : Int) < (zxr (10 + q)).length
  · have := (zxr_in hq (j := (k : Int)) ⟨by omega, hk⟩).1
    rwa [Int.toNat_natCast] at this
  · have : (zxr (10 + q)).length ≤ k := by omega
    rw [List.getD_eq_getElem?_getD, List.getElem?_eq_none this]; exact Int.le_refl 0
theorem pTest_B {g : ZG} {s : PS} (h : PB s) : PB (pTest (lkf g) s) := pAdd_B (pNum_B (pOne_B (zxr_pos 4 (by decide)) (pOne_B (zxr_pos 3 (by decide)) h 6 0) 3 0))
theorem pLoop_B {g : ZG} {w x : Int} (hw : 0 ≤ w) {part : PS → PS} (hp : ∀ s, PB s → PB (part s)) : ∀ n s, PB s → PB (pLoop (lkf g) w x part n s) := by
  intro n
  induction n with
  | zero => intro s h; exact h
  | succ n ih =>
    intro s h
    unfold pLoop
    split
    · exact ih _ (pAdd_B (hp _ (pEx_B hw h)))
    · exact h
theorem pBo_B {g : ZG} {part : PS → PS} (hp : ∀ s, PB s → PB (part s)) (s : PS) (h : PB s) : PB (pBo (lkf g) part s) := pLoop_B (by decide) hp 99 _ (hp s h)
theorem pEi_B {g : ZG} {part : PS → PS} (hp : ∀ s, PB s → PB (part s)) (s : PS) (h : PB s) : PB (pEi (lkf g) part s) := pLoop_B (by decide) (pBo_B hp) 99 _ (pBo_B hp s h)
theorem pPa_B {g : ZG} : ∀ r s, PB s → PB (pPa (lkf g) r s) := by
  intro r
  induction r with
  | zero => intro s h; exact pTest_B h
  | succ r ih =>
    intro s h
    unfold pPa
    split
    · exact pAdd_B (ih _ (pEx_B (by decide) h))
    · split
      · exact pEx_B (by decide) (pEi_B ih _ (pEx_B (by decide) h))
      · exact pTest_B h
theorem pWord_B {g : ZG} {l : List Int} (hl : ∀ k, 0 ≤ l.getD k 0) : ∀ n k s, PB s → PB (pWord (lkf g) l n k s) := by
  intro n
  induction n with
  | zero => intro k s h; exact h
  | succ n ih => intro k s h; exact ih (k + 1) _ (pEx_B (hl k) h)
theorem pTail_B {g : ZG} {st : Int} {s : PS} (h : PB s) : PB (pTail (lkf g) st s) := pAdd_B (pEi_B (pPa_B 4) _ (pEx_B (by decide) (pNum_B h)))
theorem pCl_B {g : ZG} {s : PS} (h : PB s) : PB (pCl (lkf g) s) := by
  unfold pCl
  split
  · exact pTail_B (pWord_B (zxr_pos 0 (by decide)) 5 0 s h)
  · split
    · exact pTail_B (pWord_B (zxr_pos 1 (by decide)) 5 0 s h)
    · exact pTail_B (pWord_B (zxr_pos 2 (by decide)) 5 0 s h)
theorem pset_at (g : ZG) (j : Nat) (s : PS) (a : Int) : zup (zup (pset g j s) 5 0 3 a) 5 0 4 (lkf g a) = pset g j (a, s.2) := by
  funext f i k
  unfold zup pset
  by_cases h5 : f = 5 ∧ i = 0
  · obtain ⟨rfl, rfl⟩ := h5
    by_cases h3 : k = 3
    · subst h3; simp
    · by_cases h4 : k = 4
      · subst h4; simp
      · simp [h3, h4]
  · rw [if_neg (fun z => h5 ⟨z.1, z.2.2⟩), if_neg (fun z => h5 ⟨z.1, z.2.2⟩), if_neg h5, if_neg h5]
theorem pset_fl (g : ZG) (j : Nat) (s : PS) (b : Bool) : zup (pset g j s) 5 0 5 (if b = true then 1 else 0) = pset g j (s.1, b, s.2.2) := by
  funext f i k
  unfold zup pset
  by_cases h5 : f = 5 ∧ i = 0
  · obtain ⟨rfl, rfl⟩ := h5
    by_cases h3 : k = 5
    · subst h3; simp
    · simp [h3]
  · rw [if_neg (fun z => h5 ⟨z.1, z.2.2⟩), if_neg h5, if_neg h5]
theorem pset_len (g : ZG) (j : Nat) (s : PS) : pset g j s 3 j 1 = (s.2.2.length : Int) := by unfold pset; simp
theorem pset_add (g : ZG) (j : Nat) (s : PS) (st nb : Int) (hn : 0 ≤ nb ∧ nb < 100) (hs : 0 ≤ st) : (if pset g j s 3 j 1 < 100 then zup (zup (zup (pset g j s) 20 j (pset g j s 3 j 1).toNat (st * 100 + nb)) 3 j 1 (pset g j s 3 j 1 + 1)) 3 j 2 (if pset g j s 3 j 2 ≠ 0 ∨ st = 21 then 1 else 0) else pset g j s) = pset g j (pAdd (st * 100 + nb) s) := by
  rw [pset_len]
  by_cases hl : s.2.2.length < 100
  · rw [if_pos (by omega)]
    have e : pAdd (st * 100 + nb) s = (s.1, s.2.1, s.2.2 ++ [st * 100 + nb]) := by unfold pAdd; rw [if_pos hl]
    rw [e]
    have e2 : pset g j s 3 j 2 = if s.2.2.any (fun x => decide (x / 100 = 21)) = true then 1 else 0 := by unfold pset; simp
    rw [e2, Int.toNat_natCast]
    have hd : (st * 100 + nb) / 100 = st := by omega
    funext f i k
    unfold zup pset
    by_cases h5 : f = 5 ∧ i = 0
    · obtain ⟨rfl, rfl⟩ := h5
      simp
    · by_cases h3 : f = 3 ∧ i = j
      · obtain ⟨rfl, rfl⟩ := h3
        by_cases k1 : k = 1
        · subst k1; simp
        · by_cases k2 : k = 2
          · subst k2; simp [hd]
          · simp [k1, k2]
      · by_cases h20 : f = 20 ∧ i = j
        · obtain ⟨rfl, rfl⟩ := h20
          by_cases hk : k = s.2.2.length
          · subst hk; simp [List.getD_eq_getElem?_getD]
          · by_cases hk2 : k < s.2.2.length
            · simp [hk, hk2, show k < s.2.2.length + 1 by omega, List.getD_eq_getElem?_getD, List.getElem?_append_left hk2]
            · simp [hk, hk2, show ¬ k < s.2.2.length + 1 by omega]
        · rw [if_neg (fun z => h3 ⟨z.1, z.2.2⟩), if_neg (fun z => h3 ⟨z.1, z.2.2⟩), if_neg (fun z => h20 ⟨z.1, z.2.2⟩), if_neg h5, if_neg h3, if_neg h20, if_neg h5, if_neg h3, if_neg h20]
  · rw [if_neg (by omega)]
    have e : pAdd (st * 100 + nb) s = s := by unfold pAdd; rw [if_neg hl]
    rw [e]
theorem c_X3_addc (j : Nat) (s nb : Int) : ZC mX3_add 1 (fun av g => av = [ZR 3 j, ZI s, ZI nb] ∧ (0 ≤ g 3 j 1 ∧ g 3 j 1 ≤ 100) ∧ (0 ≤ s ∧ s < 24) ∧ (0 ≤ nb ∧ nb < 100)) (fun _ g r g' => r = none ∧ g' = (if g 3 j 1 < 100 then zup (zup (zup g 20 j (g 3 j 1).toNat (s * 100 + nb)) 3 j 1 (g 3 j 1 + 1)) 3 j 2 (if g 3 j 2 ≠ 0 ∨ s = 21 then 1 else 0) else g)) := by
  refine zc_of gX3_add (fun av g hp => by obtain ⟨rfl, -⟩ := hp; exact Nat.le_of_ble_eq_true rfl) (fun Y av g hwf hrg hp hok => ?_)
  obtain ⟨rfl, hp⟩ := hp
  show ZVV _ _ _ 0 [ZR 3 j, ZI s, ZI nb] [] _
  refine zs_aload_n (j := 0) (i := 0) rfl rfl rfl ?_
  refine zs_getfield (f := 3) (k := 1) rfl rfl (trivial) ?_
  show ZVV _ _ _ _ _ (ZI (g 3 j 1) :: _) _
  refine zs_bipush (n := 100) rfl ⟨by omega, by omega⟩ ?_
  refine zs_icmp_ge 56 rfl (by omega) (fun hc_6 => ?_) (fun hc_6 => ?_)
  · exact zs_return rfl rfl (⟨rfl, by rw [if_neg (by omega)]⟩)
  · refine zs_aload_n (j := 0) (i := 0) rfl rfl rfl ?_
    refine zs_getfield (f := 3) (k := 0) rfl rfl (trivial) ?_
    show ZVV _ _ _ _ _ (ZR 20 j :: _) _
    refine zs_aload_n (j := 0) (i := 0) rfl rfl rfl ?_
    refine zs_getfield (f := 3) (k := 1) rfl rfl (trivial) ?_
    show ZVV _ _ _ _ _ (ZI (g 3 j 1) :: _) _
    refine zs_iload_n (j := 1) (i := 1) rfl rfl rfl ?_
    refine zs_bipush (n := 100) rfl ⟨by omega, by omega⟩ ?_
    refine zs_imul_r rfl ⟨by omega, by omega⟩ ?_
    show ZVV _ _ _ 21 _ _ _
    refine zs_iload_n (j := 2) (i := 2) rfl rfl rfl ?_
    refine zs_iadd_r rfl ⟨by omega, by omega⟩ ?_
    refine zs_iast (n := 100) rfl rfl (by omega) (by omega) ?_
    refine zs_aload_n (j := 0) (i := 0) rfl rfl rfl ?_
    refine zs_dup rfl (by intro x z; cases z) ?_
    refine zs_getfield (f := 3) (k := 1) rfl rfl (trivial) ?_
    show ZVV _ _ _ _ _ (ZI (g 3 j 1) :: _) _
    refine zs_iconst (n := 1) rfl ⟨by omega, by omega⟩ ?_
    refine zs_iadd_r rfl ⟨by omega, by omega⟩ ?_
    show ZVV _ _ _ 31 _ _ _
    refine zs_putfield (f := 3) (k := 1) (x := (g 3 j 1) + 1) rfl rfl (rfl) ?_
    refine zs_aload_n (j := 0) (i := 0) rfl rfl rfl ?_
    refine zs_aload_n (j := 0) (i := 0) rfl rfl rfl ?_
    refine zs_getfield (f := 3) (k := 2) rfl rfl (trivial) ?_
    show ZVV _ _ _ _ _ (ZI (g 3 j 2) :: _) _
    refine zs_if_ne 48 rfl (by omega) (fun hc_39 => ?_) (fun hc_39 => ?_)
    · refine zs_iconst (n := 1) rfl ⟨by omega, by omega⟩ ?_
      refine zs_goto 53 rfl (by omega) ?_
      refine zs_putfield (f := 3) (k := 2) (x := 1) rfl rfl (zpvZ (x := 1) ⟨by omega, by omega⟩) ?_
      exact zs_return rfl rfl (⟨rfl, by rw [if_pos (show g 3 j 1 < 100 by omega), if_pos (show g 3 j 2 ≠ 0 ∨ s = 21 by omega)]⟩)
    · refine zs_iload_n (j := 1) (i := 1) rfl rfl rfl ?_
      refine zs_bipush (n := 21) rfl ⟨by omega, by omega⟩ ?_
      refine zs_icmp_ne 52 rfl (by omega) (fun hc_45 => ?_) (fun hc_45 => ?_)
      · refine zs_iconst (n := 0) rfl ⟨by omega, by omega⟩ ?_
        refine zs_putfield (f := 3) (k := 2) (x := 0) rfl rfl (zpvZ (x := 0) ⟨by omega, by omega⟩) ?_
        exact zs_return rfl rfl (⟨rfl, by rw [if_pos (show g 3 j 1 < 100 by omega), if_neg (show ¬ (g 3 j 2 ≠ 0 ∨ s = 21) by omega)]⟩)
      · refine zs_iconst (n := 1) rfl ⟨by omega, by omega⟩ ?_
        refine zs_goto 53 rfl (by omega) ?_
        refine zs_putfield (f := 3) (k := 2) (x := 1) rfl rfl (zpvZ (x := 1) ⟨by omega, by omega⟩) ?_
        exact zs_return rfl rfl (⟨rfl, by rw [if_pos (show g 3 j 1 < 100 by omega), if_pos (show g 3 j 2 ≠ 0 ∨ s = 21 by omega)]⟩)

theorem c_X3_addp (g0 : ZG) (j : Nat) (s : PS) (st nb : Int) : ZC mX3_add 1 (fun av g => av = [ZR 3 j, ZI st, ZI nb] ∧ g = pset g0 j s ∧ PB s ∧ (0 ≤ st ∧ st < 24) ∧ (0 ≤ nb ∧ nb < 100)) (fun _ g r g' => r = none ∧ g' = pset g0 j (pAdd (st * 100 + nb) s)) := by
  refine zc_weaken (c_X3_addc j st nb) ?_ ?_
  · rintro av g ⟨rfl, rfl, hB, h1, h2⟩
    have := hB.2
    exact ⟨rfl, by rw [pset_len]; omega, h1, h2⟩
  · rintro av g r g' ⟨rfl, rfl, hB, h1, h2⟩ ⟨rfl, hg⟩
    exact ⟨rfl, hg.trans (pset_add g0 j s st nb h2 h1.1)⟩
theorem c_X5_lookAtR (p : Int) : ZC mX5_lookAt 1 (fun av g => av = [ZR 5 0, ZI p] ∧ True) (fun _ g r g' => r = none ∧ g' = zup (zup g 5 0 3 p) 5 0 4 (lkf g p)) := by
  refine zc_of gX5_lookAt (fun av g hp => by obtain ⟨rfl, -⟩ := hp; exact Nat.le_of_ble_eq_true rfl) (fun Y av g hwf hrg hp hok => ?_)
  obtain ⟨rfl, hp⟩ := hp
  show ZVV _ _ _ 0 [ZR 5 0, ZI p] [] _
  refine zs_aload_n (j := 0) (i := 0) rfl rfl rfl ?_
  refine zs_iload_n (j := 1) (i := 1) rfl rfl rfl ?_
  refine zs_putfield (f := 5) (k := 3) (x := p) rfl rfl (rfl) ?_
  refine zs_aload_n (j := 0) (i := 0) rfl rfl rfl ?_
  refine zs_iload_n (j := 1) (i := 1) rfl rfl rfl ?_
  refine zs_if_lt 33 rfl (by omega) (fun hc_7 => ?_) (fun hc_7 => ?_)
  · refine zs_iconst (n := (-1)) rfl ⟨by omega, by omega⟩ ?_
    refine zs_putfield (f := 5) (k := 4) (x := -1) rfl rfl (rfl) ?_
    exact zs_return rfl rfl (⟨rfl, by unfold lkf; first | rw [if_pos (by omega)] | rw [if_neg (by omega)]⟩)
  · refine zs_iload_n (j := 1) (i := 1) rfl rfl rfl ?_
    refine zs_aload_n (j := 0) (i := 0) rfl rfl rfl ?_
    refine zs_getfield (f := 5) (k := 0) rfl rfl (trivial) ?_
    show ZVV _ _ _ _ _ (ZI (g 5 0 0) :: _) _
    refine zs_icmp_ge 33 rfl (by omega) (fun hc_15 => ?_) (fun hc_15 => ?_)
    · refine zs_iconst (n := (-1)) rfl ⟨by omega, by omega⟩ ?_
      refine zs_putfield (f := 5) (k := 4) (x := -1) rfl rfl (rfl) ?_
      exact zs_return rfl rfl (⟨rfl, by unfold lkf; first | rw [if_pos (by omega)] | rw [if_neg (by omega)]⟩)
    · refine zs_iload_n (j := 1) (i := 1) rfl rfl rfl ?_
      refine zs_bipush (n := 100) rfl ⟨by omega, by omega⟩ ?_
      refine zs_icmp_ge 33 rfl (by omega) (fun hc_21 => ?_) (fun hc_21 => ?_)
      · refine zs_iconst (n := (-1)) rfl ⟨by omega, by omega⟩ ?_
        refine zs_putfield (f := 5) (k := 4) (x := -1) rfl rfl (rfl) ?_
        exact zs_return rfl rfl (⟨rfl, by unfold lkf; first | rw [if_pos (by omega)] | rw [if_neg (by omega)]⟩)
      · refine zs_aload_n (j := 0) (i := 0) rfl rfl rfl ?_
        refine zs_getfield (f := 5) (k := 1) rfl rfl (trivial) ?_
        show ZVV _ _ _ _ _ (ZR 22 0 :: _) _
        refine zs_iload_n (j := 1) (i := 1) rfl rfl rfl ?_
        refine zs_bald (n := 100) rfl rfl (by omega) (by omega) ?_
        show ZVV _ _ _ _ _ (ZI (g 22 0 p.toNat) :: _) _
        refine zs_goto 34 rfl (by omega) ?_
        refine zs_putfield (f := 5) (k := 4) (x := g 22 0 p.toNat) rfl rfl (rfl) ?_
        exact zs_return rfl rfl (⟨rfl, by unfold lkf; first | rw [if_pos (by omega)] | rw [if_neg (by omega)]⟩)

theorem c_X5_expect (g0 : ZG) (j : Nat) (s : PS) (w : Int) : ZC mX5_expect 2 (fun av g => av = [ZR 5 0, ZI w] ∧ g = pset g0 j s ∧ PB s) (fun _ g r g' => r = none ∧ g' = pset g0 j (pEx (lkf g0) w s)) := by
  refine zc_of gX5_expect (fun av g hp => by obtain ⟨rfl, -⟩ := hp; exact Nat.le_of_ble_eq_true rfl) (fun Y av g hwf hrg hp hok => ?_)
  obtain ⟨rfl, hp⟩ := hp
  show ZVV _ _ _ 0 [ZR 5 0, ZI w] [] _
  obtain ⟨rfl, hB⟩ := hp
  obtain ⟨a, fl, out⟩ := s
  cases fl
  · refine zs_aload_n (j := 0) (i := 0) rfl rfl rfl ?_
    refine zs_aload_n (j := 0) (i := 0) rfl rfl rfl ?_
    refine zs_getfield (f := 5) (k := 5) rfl rfl (trivial) ?_
    show ZVV _ _ _ _ _ (ZI 0 :: _) _
    refine zs_if_ne 16 rfl (by omega) (fun hc_5 => ?_) (fun hc_5 => ?_)
    · exfalso; omega
    · refine zs_aload_n (j := 0) (i := 0) rfl rfl rfl ?_
      refine zs_getfield (f := 5) (k := 4) rfl rfl (trivial) ?_
      show ZVV _ _ _ _ _ (ZI (lkf g0 a) :: _) _
      refine zs_iload_n (j := 1) (i := 1) rfl rfl rfl ?_
      refine zs_icmp_eq 20 rfl (by omega) (fun hc_13 => ?_) (fun hc_13 => ?_)
      · refine zs_iconst (n := 0) rfl ⟨by omega, by omega⟩ ?_
        refine zs_putfield (f := 5) (k := 5) (x := 0) rfl rfl (zpvZ (x := 0) ⟨by omega, by omega⟩) ?_
        rw [show zup (pset g0 j (a, false, out)) 5 0 5 0 = pset g0 j (a, false, out) from pset_fl g0 j (a, false, out) false]
        refine zs_aload_n (j := 0) (i := 0) rfl rfl rfl ?_
        refine zs_getfield (f := 5) (k := 5) rfl rfl (trivial) ?_
        show ZVV _ _ _ _ _ (ZI 0 :: _) _
        refine zs_if_ne 41 rfl (by omega) (fun hc_28 => ?_) (fun hc_28 => ?_)
        · exfalso; omega
        · refine zs_aload_n (j := 0) (i := 0) rfl rfl rfl ?_
          refine zs_aload_n (j := 0) (i := 0) rfl rfl rfl ?_
          refine zs_getfield (f := 5) (k := 3) rfl rfl (trivial) ?_
          show ZVV _ _ _ _ _ (ZI a :: _) _
          refine zs_iconst (n := 1) rfl ⟨by omega, by omega⟩ ?_
          refine zs_iadd_r rfl ⟨by have := hB.1; have h9 : (0 : Int) ≤ a ∧ a ≤ 100 := hB.1; omega, by have := hB.1; have h9 : (0 : Int) ≤ a ∧ a ≤ 100 := hB.1; omega⟩ ?_
          refine zs_callV (host := "") rfl kX5_32 vX5_lookAt (c_X5_lookAtR (a + 1)) [ZI (a + 1)] [] rfl (zroom_of (by omega)) rfl (Nat.le_of_ble_eq_true rfl) ⟨rfl, trivial⟩ (fun r_38 g_38 hq_38 => ?_)
          obtain ⟨hr_38, hg_38⟩ := hq_38
          rw [show lkf (pset g0 j (a, false, out)) = lkf g0 from rfl, pset_at] at hg_38
          rw [hr_38, hg_38]
          show ZVV _ _ _ 41 _ [] _
          exact zs_return rfl rfl (⟨rfl, by unfold pEx; rw [if_neg (fun z => nomatch z), if_pos hc_13]⟩)
      · refine zs_iconst (n := 1) rfl ⟨by omega, by omega⟩ ?_
        refine zs_goto 21 rfl (by omega) ?_
        refine zs_putfield (f := 5) (k := 5) (x := 1) rfl rfl (zpvZ (x := 1) ⟨by omega, by omega⟩) ?_
        rw [show zup (pset g0 j (a, false, out)) 5 0 5 1 = pset g0 j (a, true, out) from pset_fl g0 j (a, false, out) true]
        refine zs_aload_n (j := 0) (i := 0) rfl rfl rfl ?_
        refine zs_getfield (f := 5) (k := 5) rfl rfl (trivial) ?_
        show ZVV _ _ _ _ _ (ZI 1 :: _) _
        refine zs_if_ne 41 rfl (by omega) (fun hc_28 => ?_) (fun hc_28 => ?_)
        · exact zs_return rfl rfl (⟨rfl, by unfold pEx; rw [if_neg (fun z => nomatch z), if_neg hc_13]⟩)
        · exfalso; omega
  · refine zs_aload_n (j := 0) (i := 0) rfl rfl rfl ?_
    refine zs_aload_n (j := 0) (i := 0) rfl rfl rfl ?_
    refine zs_getfield (f := 5) (k := 5) rfl rfl (trivial) ?_
    show ZVV _ _ _ _ _ (ZI 1 :: _) _
    refine zs_if_ne 16 rfl (by omega) (fun hc_5 => ?_) (fun hc_5 => ?_)
    · refine zs_iconst (n := 1) rfl ⟨by omega, by omega⟩ ?_
      refine zs_goto 21 rfl (by omega) ?_
      refine zs_putfield (f := 5) (k := 5) (x := 1) rfl rfl (zpvZ (x := 1) ⟨by omega, by omega⟩) ?_
      rw [show zup (pset g0 j (a, true, out)) 5 0 5 1 = pset g0 j (a, true, out) from pset_fl g0 j (a, true, out) true]
      refine zs_aload_n (j := 0) (i := 0) rfl rfl rfl ?_
      refine zs_getfield (f := 5) (k := 5) rfl rfl (trivial) ?_
      show ZVV _ _ _ _ _ (ZI 1 :: _) _
      refine zs_if_ne 41 rfl (by omega) (fun hc_28 => ?_) (fun hc_28 => ?_)
      · exact zs_return rfl rfl (⟨rfl, by unfold pEx; rw [if_pos rfl]⟩)
      · exfalso; omega
    · exfalso; omega

