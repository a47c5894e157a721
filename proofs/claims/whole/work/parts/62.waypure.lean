def mWay {S : Type} (f : (Nat → Int) → S → S) (n : Nat) (rem p : Nat) (ho : Nat → Int) (s : S) : S := match rem with
  | 0 => f ho s
  | rem + 1 => zfold (fun h s => mWay f n rem (p + 1) (rset ho p (h : Int)) s) n 0 s
theorem mWay_0 {S : Type} (f : (Nat → Int) → S → S) (n p : Nat) (ho : Nat → Int) (s : S) : mWay f n 0 p ho s = f ho s := rfl
/-- going through the rows one by one is going through them place by place -/
theorem way_loop (t : ZT) (st : Nat → Int) (hn : 3 ≤ tn t) : ∀ (rem p : Nat) (ho : Nat → Int) (s res : MS3), p + rem = (tnp t).toNat → (∀ c, p ≤ c → c < (tnp t).toNat → ho c = 0) →
    ((nxtF (tn t) p ho).1 = false ∧ res = mWay (mBody t st) (tn t).toNat rem p ho s ∨ (nxtF (tn t) p ho).1 = true ∧ ∃ N, mLoop t st N (nxtF (tn t) p ho).2 (mWay (mBody t st) (tn t).toNat rem p ho s) = some res) →
    ∃ N, mLoop t st N ho s = some res := by
  intro rem
  induction rem with
  | zero =>
    intro p ho s res hp hz h
    rw [Nat.add_zero] at hp
    subst hp
    rcases h with ⟨h1, h2⟩ | ⟨h1, N, h2⟩
    · exact ⟨1, by unfold mLoop; rw [if_neg (by rw [h1]; decide), h2, mWay_0]⟩
    · exact ⟨N + 1, by unfold mLoop; rw [if_pos h1]; exact h2⟩
  | succ rem ih =>
    intro p ho s res hp hz h
    have key : ∀ (m k : Nat) (s : MS3), k + (m + 1) = (tn t).toNat →
        ((nxtF (tn t) p ho).1 = false ∧ res = zfold (fun h s => mWay (mBody t st) (tn t).toNat rem (p + 1) (rset ho p (h : Int)) s) (m + 1) k s ∨ (nxtF (tn t) p ho).1 = true ∧ ∃ N, mLoop t st N (nxtF (tn t) p ho).2 (zfold (fun h s => mWay (mBody t st) (tn t).toNat rem (p + 1) (rset ho p (h : Int)) s) (m + 1) k s) = some res) →
        ∃ N, mLoop t st N (rset ho p (k : Int)) s = some res := by
      intro m
      induction m with
      | zero =>
        intro k s hk h
        have hz0 : rset (rset ho p (k : Int)) p 0 = ho := by
          rw [rset_rset]; funext c; unfold rset
          by_cases hc : c = p
          · rw [if_pos hc, hc, hz p (Nat.le_refl _) (by omega)]
          · rw [if_neg hc]
        have hnx : nxtF (tn t) (p + 1) (rset ho p (k : Int)) = nxtF (tn t) p ho := by
          show (if rset ho p (k : Int) p + 1 < tn t then _ else nxtF (tn t) p (rset (rset ho p (k : Int)) p 0)) = _
          rw [if_neg (by unfold rset; rw [if_pos rfl]; omega), hz0]
        refine ih (p + 1) (rset ho p (k : Int)) s res (by omega) (fun c h1 h2 => by unfold rset; rw [if_neg (by omega)]; exact hz c (by omega) h2) ?_
        rw [hnx]
        exact h
      | succ m ihm =>
        intro k s hk h
        have hnx : nxtF (tn t) (p + 1) (rset ho p (k : Int)) = (true, rset ho p ((k + 1 : Nat) : Int)) := by
          show (if rset ho p (k : Int) p + 1 < tn t then (true, rset (rset ho p (k : Int)) p (rset ho p (k : Int) p + 1)) else _) = _
          have e : rset ho p (k : Int) p = (k : Int) := by unfold rset; rw [if_pos rfl]
          rw [e, if_pos (by omega), rset_rset]
          rfl
        refine ih (p + 1) (rset ho p (k : Int)) s res (by omega) (fun c h1 h2 => by unfold rset; rw [if_neg (by omega)]; exact hz c (by omega) h2) ?_
        rw [hnx]
        exact Or.inr ⟨rfl, ihm (k + 1) _ (by omega) h⟩
    have e0 : rset ho p ((0 : Nat) : Int) = ho := by
      funext c; unfold rset
      by_cases hc : c = p
      · rw [if_pos hc, hc, hz p (Nat.le_refl _) (by omega)]; rfl
      · rw [if_neg hc]
    have hk := key ((tn t).toNat - 1) 0 s (by omega)
    rw [e0, show (tn t).toNat - 1 + 1 = (tn t).toNat by omega] at hk
    exact hk h
def mRow0 (np : Int) (st : Nat → Int) : Nat → Int := fun c => if (c : Int) < np then 0 else st c
def mRes (t : ZT) (st : Nat → Int) : MS3 := mWay (mBody t st) (tn t).toNat (tnp t).toNat 0 (mRow0 (tnp t) st) (-5, -5, fun _ => 0)
theorem way_all (t : ZT) (st : Nat → Int) (hn : 3 ≤ tn t) : ∃ N, mLoop t st N (mRow0 (tnp t) st) (-5, -5, fun _ => 0) = some (mRes t st) :=
  way_loop t st hn (tnp t).toNat 0 _ _ _ (Nat.zero_add _) (fun c h1 h2 => if_pos (by omega)) (Or.inl ⟨rfl, rfl⟩)
