/-! the pruned search finds what going through all rows finds -/
theorem zfold_rel {A B : Type} {f : Nat → A → A} {f' : Nat → B → B} {R : A → B → Prop} : ∀ (n k : Nat) (a : A) (b : B), (∀ j a b, k ≤ j → j < k + n → R a b → R (f j a) (f' j b)) → R a b → R (zfold f n k a) (zfold f' n k b) := by
  intro n
  induction n with
  | zero => intro k a b _ h; exact h
  | succ n ih =>
    intro k a b hs h
    rw [zfold_s, zfold_s]
    exact ih (k + 1) _ _ (fun j a b h1 h2 hr => hs j a b (by omega) (by omega) hr) (hs k a b (Nat.le_refl _) (by omega) h)
theorem zfold_inv {B : Type} {f' : Nat → B → B} {R : B → Prop} : ∀ (n k : Nat) (b : B), (∀ j b, k ≤ j → j < k + n → R b → R (f' j b)) → R b → R (zfold f' n k b) := by
  intro n
  induction n with
  | zero => intro k b _ h; exact h
  | succ n ih =>
    intro k b hs h
    rw [zfold_s]
    exact ih (k + 1) _ (fun j b h1 h2 hr => hs j b (by omega) (by omega) hr) (hs k b (Nat.le_refl _) (by omega) h)
/-- what one of the row adds, and the whole row -/
def tCq (t : ZT) (byp : Int) (start ho : Nat → Int) (q : Nat) : Int := tMore t byp start ho q (ho q).toNat
theorem tMore_rng (t : ZT) (byp : Int) (start ho : Nat → Int) (q h : Nat) : 0 ≤ tMore t byp start ho q h ∧ tMore t byp start ho q h ≤ q + 1 := by
  unfold tMore
  have := zlpb_rng (tn t) (tsh t) (tsr t) ho q
  split
  · split <;> omega
  · omega
theorem tCq_cong {t : ZT} {byp : Int} {start ho ho' : Nat → Int} {q : Nat} (h : ∀ c, c ≤ q → ho c = ho' c) : tCq t byp start ho q = tCq t byp start ho' q := by
  unfold tCq tMore
  rw [h q (Nat.le_refl _), zlpb_cong h]
theorem tC_le {t : ZT} {byp : Int} {start ho : Nat → Int} : ∀ (m k : Nat), zsum (tCq t byp start ho) k 0 ≤ zsum (tCq t byp start ho) (k + m) 0 := by
  intro m
  induction m with
  | zero => intro k; exact Int.le_refl _
  | succ m ih =>
    intro k
    have h1 := ih k
    rw [show k + (m + 1) = k + m + 1 by omega, zsum_sn]
    have := (tMore_rng t byp start ho (0 + (k + m)) (ho (0 + (k + m))).toNat).1
    have h2 : 0 ≤ tCq t byp start ho (0 + (k + m)) := this
    omega
def RB (byp np : Int) (st : Int × (Nat → Int)) (s : MS3) : Prop :=
  if byp = 0 then (s.1 = -5 ∧ st.1 = 1000 ∨ (0 ≤ s.1 ∧ s.1 < 1000) ∧ st.1 = s.1)
  else (s.2.1 = -5 ∧ st.1 = 1000 ∨ (0 ≤ s.2.1 ∧ s.2.1 < 1000) ∧ st.1 = s.2.1 ∧ ∀ c : Nat, (c : Int) < np → st.2 c = s.2.2 c)
theorem tC_0 {t : ZT} {start ho : Nat → Int} (hr : ∀ c : Nat, (c : Int) < tnp t → 0 ≤ ho c) (h6 : tnp t ≤ 6) : zsum (tCq t 0 start ho) (tnp t).toNat 0 = mOth (tnp t) ho start := by
  refine zsum_cong (fun j _ hj => ?_)
  have := hr j (by omega)
  show tMore t 0 start ho j (ho j).toNat = _
  unfold tMore
  rw [if_pos rfl, Int.toNat_of_nonneg this]
theorem tC_1 {t : ZT} {byp : Int} (hb : byp ≠ 0) {start ho : Nat → Int} : zsum (tCq t byp start ho) (tnp t).toNat 0 = tlp (tSetH t ho) := by
  have h0 : tCq t byp start ho 0 = 0 := by
    unfold tCq tMore
    rw [if_neg hb]
    have := zlpb_rng (tn t) (tsh t) (tsr t) ho 0
    omega
  rw [zsum_0 h0]
  refine zsum_cong (fun j _ _ => ?_)
  exact if_neg hb
theorem tC_rng {t : ZT} {byp : Int} {start ho : Nat → Int} (h6 : tnp t ≤ 6) : 0 ≤ zsum (tCq t byp start ho) (tnp t).toNat 0 ∧ zsum (tCq t byp start ho) (tnp t).toNat 0 < 1000 := by
  have := zsum_rng (f := tCq t byp start ho) (a := 0) (b := 7) (n := (tnp t).toNat) (k := 0) (fun j _ hj => by
    have : 0 ≤ tCq t byp start ho j ∧ tCq t byp start ho j ≤ j + 1 := tMore_rng t byp start ho j (ho j).toNat
    omega)
  omega
theorem RB_body {t : ZT} {byp : Int} {start ho : Nat → Int} (hr : ∀ c : Nat, (c : Int) < tnp t → 0 ≤ ho c) (h6 : tnp t ≤ 6) {st : Int × (Nat → Int)} {s : MS3} (h : RB byp (tnp t) st s) (hle : ¬ (unl ho (tnp t).toNat 0 0 = true ∧ zsum (tCq t byp start ho) (tnp t).toNat 0 < st.1)) : RB byp (tnp t) st (mBody t start ho s) := by
  unfold mBody
  by_cases hc : unl ho (tnp t).toNat 0 0 = true ∧ tAll (tSetH t ho) = true
  · rw [if_pos hc]
    have hle : st.1 ≤ zsum (tCq t byp start ho) (tnp t).toNat 0 := by
      by_cases z : zsum (tCq t byp start ho) (tnp t).toNat 0 < st.1
      · exact absurd ⟨hc.1, z⟩ hle
      · omega
    have hC := tC_rng (t := t) (byp := byp) (start := start) (ho := ho) h6
    unfold RB at h ⊢
    by_cases hb : byp = 0
    · subst hb
      rw [if_pos rfl] at h ⊢
      rw [tC_0 hr h6] at hle hC
      rcases h with ⟨h1, h2⟩ | ⟨h1, h2⟩
      · omega
      · refine Or.inr ?_
        have e : (mTake t start ho s).1 = s.1 := by
          unfold mTake
          exact if_neg (by omega)
        rw [e]; exact ⟨h1, h2⟩
    · rw [if_neg hb] at h ⊢
      rw [tC_1 hb] at hle hC
      rcases h with ⟨h1, h2⟩ | ⟨h1, h2, h3⟩
      · omega
      · refine Or.inr ?_
        have e : (mTake t start ho s).2 = s.2 := by
          unfold mTake
          exact if_neg (by omega)
        rw [e]; exact ⟨h1, h2, h3⟩
  · rw [if_neg hc]; exact h
theorem RB_leaf {t : ZT} {byp : Int} {start ho : Nat → Int} (hr : ∀ c : Nat, (c : Int) < tnp t → 0 ≤ ho c) (h6 : tnp t ≤ 6) {st : Int × (Nat → Int)} {s : MS3} (h : RB byp (tnp t) st s) (hu : unl ho (tnp t).toNat 0 0 = true) (hl : zsum (tCq t byp start ho) (tnp t).toNat 0 < st.1) (ha : tAll (tSetH t ho) = true) : RB byp (tnp t) (zsum (tCq t byp start ho) (tnp t).toNat 0, tCut (tnp t) ho) (mBody t start ho s) := by
  unfold mBody
  rw [if_pos ⟨hu, ha⟩]
  have hC := tC_rng (t := t) (byp := byp) (start := start) (ho := ho) h6
  unfold RB at h ⊢
  by_cases hb : byp = 0
  · subst hb
    rw [if_pos rfl] at h ⊢
    rw [tC_0 hr h6] at hl hC ⊢
    refine Or.inr ?_
    have e : (mTake t start ho s).1 = mOth (tnp t) ho start := by
      unfold mTake
      exact if_pos (by omega)
    rw [e]; exact ⟨hC, rfl⟩
  · rw [if_neg hb] at h ⊢
    rw [tC_1 hb] at hl hC ⊢
    refine Or.inr ?_
    have e : (mTake t start ho s).2 = (tlp (tSetH t ho), ho) := by
      unfold mTake
      exact if_pos (by omega)
    rw [e]
    refine ⟨hC, rfl, fun c hc => ?_⟩
    show tCut (tnp t) ho c = ho c
    unfold tCut
    rw [if_pos hc]
theorem way_keep {t : ZT} {byp : Int} {start : Nat → Int} (h6 : tnp t ≤ 6) {st : Int × (Nat → Int)} : ∀ (rem p : Nat) (ho : Nat → Int) (s : MS3), p + rem = (tnp t).toNat → (∀ c, c < p → 0 ≤ ho c) → (∀ ho' : Nat → Int, (∀ c, c < p → ho' c = ho c) → ¬ (unl ho' (tnp t).toNat 0 0 = true ∧ zsum (tCq t byp start ho') (tnp t).toNat 0 < st.1)) → RB byp (tnp t) st s → RB byp (tnp t) st (mWay (mBody t start) (tn t).toNat rem p ho s) := by
  intro rem
  induction rem with
  | zero =>
    intro p ho s hp hr hx h
    exact RB_body (fun c hc => hr c (by omega)) h6 h (hx ho (fun _ _ => rfl))
  | succ rem ih =>
    intro p ho s hp hr hx h
    refine zfold_inv (R := RB byp (tnp t) st) _ _ _ (fun j b _ _ hb => ?_) h
    refine ih (p + 1) (rset ho p (j : Int)) b (by omega) (fun c hc => ?_) (fun ho' he => hx ho' (fun c hc => ?_)) hb
    · unfold rset
      split
      · omega
      · exact hr c (by omega)
    · rw [he c (by omega)]; unfold rset; exact if_neg (by omega)
theorem way_try {t : ZT} {byp : Int} {start : Nat → Int} (h6 : tnp t ≤ 6) : ∀ (rem p : Nat) (ho : Nat → Int) (lv : Nat) (sf : Int) (st : Int × (Nat → Int)) (s : MS3), p + rem = (tnp t).toNat → (∀ c, c < p → 0 ≤ ho c) → sf = zsum (tCq t byp start ho) p 0 → (∀ ho' : Nat → Int, (∀ c, c < p → ho' c = ho c) → unl ho' (tnp t).toNat 0 0 = unl ho' rem p lv) → RB byp (tnp t) st s → RB byp (tnp t) (tTry t byp start rem p ho lv sf st) (mWay (mBody t start) (tn t).toNat rem p ho s) := by
  intro rem
  induction rem with
  | zero =>
    intro p ho lv sf st s hp hr hsf hu h
    have hr2 : ∀ c : Nat, (c : Int) < tnp t → 0 ≤ ho c := fun c hc => hr c (by omega)
    have hpn : p = (tnp t).toNat := by omega
    have hu1 : unl ho (tnp t).toNat 0 0 = true := hu ho (fun _ _ => rfl)
    subst hpn
    unfold tTry
    by_cases hc : st.1 ≤ sf
    · rw [if_pos hc]
      exact RB_body hr2 h6 h (fun z => by omega)
    · rw [if_neg hc]
      by_cases ha : tAll (tSetH t ho) = true
      · rw [if_pos ha, hsf]
        exact RB_leaf hr2 h6 h hu1 (by omega) ha
      · rw [if_neg ha]
        show RB byp (tnp t) st (mBody t start ho s)
        unfold mBody
        rw [if_neg (fun z => ha z.2)]
        exact h
  | succ rem ih =>
    intro p ho lv sf st s hp hr hsf hu h
    rw [tTry_s]
    by_cases hc : st.1 ≤ sf
    · rw [if_pos hc]
      refine way_keep h6 (rem + 1) p ho s hp hr (fun ho' he z => ?_) h
      have h1 := tC_le (t := t) (byp := byp) (start := start) (ho := ho') (rem + 1) p
      rw [hp] at h1
      have h2 : zsum (tCq t byp start ho') p 0 = zsum (tCq t byp start ho) p 0 := zsum_cong (fun j _ hj => tCq_cong (fun c hc => he c (by omega)))
      omega
    · rw [if_neg hc]
      refine zfold_rel (R := RB byp (tnp t)) _ _ _ _ (fun j a b _ _ hab => ?_) h
      have hr3 : ∀ c, c < p + 1 → 0 ≤ rset ho p (j : Int) c := fun c hc => by
        unfold rset
        split
        · omega
        · exact hr c (by omega)
      have hlow : ∀ ho' : Nat → Int, (∀ c, c < p + 1 → ho' c = rset ho p (j : Int) c) → (∀ c, c < p → ho' c = ho c) ∧ ho' p = (j : Int) := fun ho' he => ⟨fun c hc => by rw [he c (by omega)]; unfold rset; exact if_neg (by omega), by rw [he p (by omega)]; unfold rset; exact if_pos rfl⟩
      by_cases hb : lv.testBit j = true
      · rw [if_pos hb]
        refine way_keep h6 rem (p + 1) (rset ho p (j : Int)) b (by omega) hr3 (fun ho' he z => ?_) hab
        have hh := hlow ho' he
        have h1 := hu ho' hh.1
        have h2 : unl ho' (rem + 1) p lv = false := by
          unfold unl
          rw [hh.2]
          exact if_pos hb
        rw [h1, h2] at z
        exact absurd z.1 (by decide)
      · rw [if_neg hb]
        refine ih (p + 1) (rset ho p (j : Int)) (lv ||| 1 <<< j) _ a b (by omega) hr3 ?_ (fun ho' he => ?_) hab
        · rw [zsum_sn, Nat.zero_add, hsf]
          have h2 : zsum (tCq t byp start (rset ho p (j : Int))) p 0 = zsum (tCq t byp start ho) p 0 := zsum_cong (fun q _ hq => tCq_cong (fun c hc => by unfold rset; exact if_neg (by omega)))
          have h3 : tCq t byp start (rset ho p (j : Int)) p = tMore t byp start (rset ho p (j : Int)) p j := by
            unfold tCq
            rw [show rset ho p (j : Int) p = (j : Int) from if_pos rfl]
            rfl
          rw [h2, h3]
          rfl
        · have hh := hlow ho' he
          rw [hu ho' hh.1]
          show (if lv.testBit (ho' p).toNat = true then false else unl ho' rem (p + 1) (lv ||| 1 <<< (ho' p).toNat)) = _
          rw [hh.2]
          exact if_neg hb
theorem find_res {t : ZT} {byp : Int} {start s2 : Nat → Int} (h6 : 0 ≤ tnp t ∧ tnp t ≤ 6) (hs : ∀ c : Nat, (c : Int) < tnp t → start c = s2 c) (ho f : Nat → Int) : RB byp (tnp t) (tTry t byp start (tnp t).toNat 0 ho 0 0 (1000, f)) (mRes t s2) := by
  rw [tTry_st (s2 := s2) _ _ _ _ _ _ (fun c hc => hs c (by omega)), tTry_cong (tnp t).toNat 0 ho (mRow0 (tnp t) s2) 0 0 _ (by omega) (fun c hc => absurd hc (Nat.not_lt_zero _))]
  refine way_try h6.2 (tnp t).toNat 0 _ 0 0 _ _ (Nat.zero_add _) (fun c hc => absurd hc (Nat.not_lt_zero _)) rfl (fun _ _ => rfl) ?_
  unfold RB
  split
  · exact Or.inl ⟨rfl, rfl⟩
  · exact Or.inl ⟨rfl, rfl⟩
theorem few_eq {g : ZG} (h : cT g = mT g) (h6 : 0 ≤ g 2 0 3 ∧ g 2 0 3 ≤ 6) : cFew g = (mRes (mT g) (g 33 0)).1 := by
  have hn : tnp (mT g) = g 2 0 3 := by rw [← h]; rfl
  have hh : g 18 0 = g 33 0 := by
    have := congrArg tho h
    exact this
  have := find_res (t := mT g) (byp := 0) (start := g 18 0) (s2 := g 33 0) (by rw [hn]; exact h6) (fun c _ => by rw [hh]) (g 18 0) (tCut (g 2 0 3) (g 23 0))
  rw [hn] at this
  unfold cFew cFind
  rw [h]
  unfold RB at this
  rw [if_pos rfl] at this
  rcases this with ⟨h1, h2⟩ | ⟨h1, h2⟩
  · rw [if_pos h2, h1]
  · rw [if_neg (by omega), h2]
theorem mixed_eq {g : ZG} (h : cT g = mT g) (h6 : 0 ≤ g 2 0 3 ∧ g 2 0 3 ≤ 6) (p : Int) : cMixed g p = mMixed g p := by
  have hn : tnp (mT g) = g 2 0 3 := by rw [← h]; rfl
  have hh : g 18 0 = g 33 0 := by
    have := congrArg tho h
    exact this
  have hq : g 8 0 2 = g 2 0 3 := hn
  have := find_res (t := mT g) (byp := 1) (start := g 18 0) (s2 := g 33 0) (by rw [hn]; exact h6) (fun c _ => by rw [hh]) (g 18 0) (tCut (g 2 0 3) (g 23 0))
  rw [hn] at this
  unfold cMixed cFind mMixed
  rw [h, hq]
  unfold RB at this
  rw [if_neg (by decide)] at this
  generalize tTry (mT g) 1 (g 18 0) (g 2 0 3).toNat 0 (g 18 0) 0 0 (1000, tCut (g 2 0 3) (g 23 0)) = A at this
  generalize mRes (mT g) (g 33 0) = B at this
  by_cases hp : p ≠ -1 ∧ ¬ (0 ≤ p ∧ p < g 2 0 3)
  · rw [if_pos hp, if_pos (by omega)]
  · rw [if_neg hp, if_neg (show ¬ ¬ (-1 ≤ p ∧ p ≤ g 2 0 3 - 1) by omega)]
    rcases this with ⟨h1, h2⟩ | ⟨h1, h2, h3⟩
    · rw [if_pos h2, if_pos (by omega), h1]
    · rw [if_neg (show ¬ A.1 = 1000 by omega)]
      by_cases hp1 : p = -1
      · rw [if_pos hp1, if_pos (by omega), h2]
      · rw [if_neg hp1, if_neg (by omega), h3 p.toNat (by omega)]
