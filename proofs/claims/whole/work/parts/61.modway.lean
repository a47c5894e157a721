def rset (ho : Nat → Int) (k : Nat) (v : Int) : Nat → Int := fun c => if c = k then v else ho c
def nxtF (n : Int) (k : Nat) (ho : Nat → Int) : Bool × (Nat → Int) := match k with
  | 0 => (false, ho)
  | k + 1 => if ho k + 1 < n then (true, rset ho k (ho k + 1)) else nxtF n k (rset ho k 0)
def unl (ho : Nat → Int) (m k lv : Nat) : Bool := match m with
  | 0 => true
  | m + 1 => if lv.testBit (ho k).toNat = true then false else unl ho m (k + 1) (lv ||| 1 <<< (ho k).toNat)
abbrev MS3 : Type := Int × Int × (Nat → Int)
def mOth (np : Int) (ho st : Nat → Int) : Int := zsum (fun p => if ho p = st p then 0 else 1) np.toNat 0
def mTake (t : ZT) (st ho : Nat → Int) (s : MS3) : MS3 := (if s.1 < 0 ∨ mOth (tnp t) ho st < s.1 then mOth (tnp t) ho st else s.1, if s.2.1 < 0 ∨ tlp (tSetH t ho) < s.2.1 then (tlp (tSetH t ho), ho) else s.2)
def mBody (t : ZT) (st ho : Nat → Int) (s : MS3) : MS3 := if unl ho (tnp t).toNat 0 0 = true ∧ tAll (tSetH t ho) = true then mTake t st ho s else s
def mLoop (t : ZT) (st : Nat → Int) (N : Nat) (ho : Nat → Int) (s : MS3) : Option MS3 := match N with
  | 0 => none
  | N + 1 => if (nxtF (tn t) (tnp t).toNat ho).1 = true then mLoop t st N (nxtF (tn t) (tnp t).toNat ho).2 (mBody t st ho s) else some (mBody t st ho s)
def mrow (g : ZG) (R : Nat → Int) : ZG := fun f i c => if f = 33 ∧ i = 0 then R c else g f i c
theorem mrow_self (g : ZG) : mrow g (g 33 0) = g := by
  funext f i c
  unfold mrow
  by_cases h : f = 33 ∧ i = 0
  · rw [if_pos h, h.1, h.2]
  · rw [if_neg h]
theorem mrow_up (g : ZG) (R : Nat → Int) (k : Nat) (v : Int) : zup (mrow g R) 33 0 k v = mrow g (rset R k v) := by
  funext f i c
  unfold zup mrow rset
  by_cases h : f = 33 ∧ i = 0
  · by_cases hc : c = k
    · rw [if_pos ⟨h.1, hc, h.2⟩, if_pos h, if_pos hc]
    · rw [if_neg (fun z => hc z.2.1), if_pos h, if_pos h, if_neg hc]
  · rw [if_neg (fun z => h ⟨z.1, z.2.2⟩), if_neg h, if_neg h]
theorem rset_rset (R : Nat → Int) (k : Nat) (u v : Int) : rset (rset R k u) k v = rset R k v := by
  funext c; unfold rset; by_cases h : c = k <;> simp [h]
theorem nxtF_r {n : Int} (hn : 3 ≤ n) : ∀ (k : Nat) (ho : Nat → Int) (P : Nat → Prop), (∀ c, P c → 0 ≤ ho c ∧ ho c < n) → ∀ c, P c → 0 ≤ (nxtF n k ho).2 c ∧ (nxtF n k ho).2 c < n := by
  intro k
  induction k with
  | zero => intro ho P h; exact h
  | succ k ih =>
    intro ho P h
    unfold nxtF
    by_cases hb : ho k + 1 < n
    · rw [if_pos hb]
      intro c hc
      have := h c hc
      show 0 ≤ rset ho k (ho k + 1) c ∧ rset ho k (ho k + 1) c < n
      unfold rset
      by_cases hck : c = k
      · rw [if_pos hck]; subst hck; omega
      · rw [if_neg hck]; exact this
    · rw [if_neg hb]
      exact ih (rset ho k 0) P (fun c hc => by
        have := h c hc
        unfold rset
        by_cases hck : c = k
        · rw [if_pos hck]; omega
        · rw [if_neg hck]; exact this)
theorem nxtF_o {n : Int} : ∀ (k : Nat) (ho : Nat → Int) (c : Nat), k ≤ c → (nxtF n k ho).2 c = ho c := by
  intro k
  induction k with
  | zero => intro ho c _; rfl
  | succ k ih =>
    intro ho c hc
    unfold nxtF
    split
    · show rset ho k _ c = ho c; unfold rset; rw [if_neg (by omega)]
    · rw [ih _ c (by omega)]; unfold rset; rw [if_neg (by omega)]
theorem l_X8_nextWay {Y : ZW} {Q : Option ZV → ZG → Prop} {g : ZG} (h8 : 3 ≤ g 8 0 0 ∧ g 8 0 0 ≤ 8) : ∀ (k : Nat) (ho : Nat → Int), k ≤ 6 → (∀ c, c < k → -1000 ≤ ho c ∧ ho c < 1000) → Q (some (ZI (if (nxtF (g 8 0 0) k ho).1 = true then 1 else 0))) (mrow g (nxtF (g 8 0 0) k ho).2) → ZVV Y mX8_nextWay (zcx Y 1 Q) 7 [ZR 8 0, ZI ((k : Int) - 1)] [] (mrow g ho) := by
  intro k
  induction k with
  | zero =>
    intro ho hk hr hq
    refine zs_iload_n (j := 1) (i := 1) rfl rfl rfl ?_
    refine zs_if_lt 49 rfl (by omega) (fun hc_8 => ?_) (fun hc_8 => ?_)
    · refine zs_iconst (n := 0) rfl ⟨by omega, by omega⟩ ?_
      exact zs_zreturn rfl rfl (by omega) (hq)
    · exfalso; omega
  | succ k ih =>
    intro ho hk hr hq
    rw [show ((k + 1 : Nat) : Int) - 1 = (k : Int) by omega]
    refine zs_iload_n (j := 1) (i := 1) rfl rfl rfl ?_
    refine zs_if_lt 49 rfl (by omega) (fun hc_8 => ?_) (fun hc_8 => ?_)
    · exfalso; omega
    · refine zs_aload_n (j := 0) (i := 0) rfl rfl rfl ?_
      refine zs_getfield (f := 8) (k := 7) rfl rfl (trivial) ?_
      show ZVV _ _ _ _ _ (ZR 33 0 :: _) _
      refine zs_iload_n (j := 1) (i := 1) rfl rfl rfl ?_
      refine zs_dup2 rfl (by intro x z; cases z) (by intro x z; cases z) ?_
      have hrk := hr k (by omega)
      refine zs_iald (n := 6) rfl rfl (by omega) (by omega) ?_
      show ZVV _ _ _ _ _ (ZI (ho k) :: _) _
      refine zs_iconst (n := 1) rfl ⟨by omega, by omega⟩ ?_
      refine zs_iadd_r rfl ⟨by omega, by omega⟩ ?_
      show ZVV _ _ _ 20 _ _ _
      refine zs_iast (n := 6) rfl rfl (by omega) (by omega) ?_
      show ZVV _ _ _ _ _ _ (zup (mrow g ho) 33 0 k ((ho k) + 1))
      rw [mrow_up]
      refine zs_aload_n (j := 0) (i := 0) rfl rfl rfl ?_
      refine zs_getfield (f := 8) (k := 7) rfl rfl (trivial) ?_
      show ZVV _ _ _ _ _ (ZR 33 0 :: _) _
      refine zs_iload_n (j := 1) (i := 1) rfl rfl rfl ?_
      refine zs_iald (n := 6) rfl rfl (by omega) (by omega) ?_
      show ZVV _ _ _ _ _ (ZI ((rset ho k (ho k + 1)) k) :: _) _
      rw [show (rset ho k (ho k + 1)) k = ho k + 1 from by unfold rset; rw [if_pos rfl]]
      refine zs_aload_n (j := 0) (i := 0) rfl rfl rfl ?_
      refine zs_getfield (f := 8) (k := 0) rfl rfl (trivial) ?_
      show ZVV _ _ _ _ _ (ZI (g 8 0 0) :: _) _
      refine zs_icmp_ge 36 rfl (by omega) (fun hc_31 => ?_) (fun hc_31 => ?_)
      · refine zs_aload_n (j := 0) (i := 0) rfl rfl rfl ?_
        refine zs_getfield (f := 8) (k := 7) rfl rfl (trivial) ?_
        show ZVV _ _ _ _ _ (ZR 33 0 :: _) _
        refine zs_iload_n (j := 1) (i := 1) rfl rfl rfl ?_
        refine zs_iconst (n := 0) rfl ⟨by omega, by omega⟩ ?_
        refine zs_iast (n := 6) rfl rfl (by omega) (by omega) ?_
        show ZVV _ _ _ _ _ _ (zup (mrow g (rset ho k (ho k + 1))) 33 0 k 0)
        refine zs_iinc_r (i := 1) rfl rfl (by intro r x hr; have hr2 : r = 0 := (by omega); subst hr2; intro z; cases z) ⟨by omega, by omega⟩ ?_
        show ZVV _ _ _ _ [ZR 8 0, ZI ((k : Int) + (-1))] _ _
        refine zs_goto 7 rfl (by omega) ?_
        rw [mrow_up, rset_rset, show (k : Int) + (-1) = (k : Int) - 1 from rfl]
        refine ih (rset ho k 0) (by omega) (fun c hc => ?_) ?_
        · have := hr c (by omega)
          unfold rset
          split <;> omega
        have hx := hq
        rw [show nxtF (g 8 0 0) (k + 1) ho = nxtF (g 8 0 0) k (rset ho k 0) from if_neg (by omega)] at hx
        exact hx
      · refine zs_iconst (n := 1) rfl ⟨by omega, by omega⟩ ?_
        exact zs_zreturn rfl rfl (by omega) (by have hx := hq; rw [show nxtF (g 8 0 0) (k + 1) ho = (true, rset ho k (ho k + 1)) from if_pos (by omega)] at hx; exact hx)
theorem c_X8_nextWay  : ZC mX8_nextWay 1 (fun av g => av = [ZR 8 0] ∧ (3 ≤ g 8 0 0 ∧ g 8 0 0 ≤ 8) ∧ (0 ≤ g 8 0 2 ∧ g 8 0 2 ≤ 6) ∧ (∀ c : Nat, (c : Int) < g 8 0 2 → -1000 ≤ g 33 0 c ∧ g 33 0 c < 1000)) (fun _ g r g' => r = some (ZI (if (nxtF (g 8 0 0) (g 8 0 2).toNat (g 33 0)).1 = true then 1 else 0)) ∧ g' = mrow g (nxtF (g 8 0 0) (g 8 0 2).toNat (g 33 0)).2) := by
  refine zc_of gX8_nextWay (fun av g hp => by obtain ⟨rfl, -⟩ := hp; exact Nat.le_of_ble_eq_true rfl) (fun Y av g hwf hrg hp hok => ?_)
  obtain ⟨rfl, hp⟩ := hp
  show ZVV _ _ _ 0 [ZR 8 0, ZX 99] [] _
  refine zs_aload_n (j := 0) (i := 0) rfl rfl rfl ?_
  refine zs_getfield (f := 8) (k := 2) rfl rfl (trivial) ?_
  show ZVV _ _ _ _ _ (ZI (g 8 0 2) :: _) _
  refine zs_iconst (n := 1) rfl ⟨by omega, by omega⟩ ?_
  refine zs_isub_r rfl ⟨by omega, by omega⟩ ?_
  refine zs_istore_n (j := 1) (i := 1) rfl rfl (by decide) (by intro r x hr; have hr2 : r = 0 := (by omega); subst hr2; intro z; cases z) ?_
  show ZVV _ _ _ _ [ZR 8 0, ZI ((g 8 0 2) - 1)] _ _
  have hx := l_X8_nextWay (Y := Y) (Q := fun r g' => r = some (ZI (if (nxtF (g 8 0 0) (g 8 0 2).toNat (g 33 0)).1 = true then 1 else 0)) ∧ g' = mrow g (nxtF (g 8 0 0) (g 8 0 2).toNat (g 33 0)).2) hp.1 (g 8 0 2).toNat (g 33 0) (by omega) (fun c hc => hp.2.2 c (by omega)) ⟨rfl, rfl⟩
  rw [mrow_self, Int.toNat_of_nonneg hp.2.1.1] at hx
  exact hx

theorem lv_or {lv h : Nat} (h1 : lv < 256) (h2 : h < 8) : (lv ||| 1 <<< h) < 256 := Nat.or_lt_two_pow (n := 8) h1 (by
  rw [Nat.shiftLeft_eq, Nat.one_mul]
  exact Nat.pow_lt_pow_right (by decide) h2)
theorem lv_zor {lv : Nat} {h : Int} (h1 : lv < 256) (h2 : 0 ≤ h ∧ h < 8) : zor (lv : Int) (zshl 1 h) = ((lv ||| 1 <<< h.toNat : Nat) : Int) := by
  have hh : h = ((h.toNat : Nat) : Int) := by omega
  rw [hh, zshl_1 (by omega), Int.toNat_natCast]
  exact zor_n (by omega) (zone_lt (by omega))
theorem l_X8_areUnlike {Y : ZW} {Q : Option ZV → ZG → Prop} {g : ZG} (hn6 : 0 ≤ g 8 0 2 ∧ g 8 0 2 ≤ 6) (hr : ∀ c : Nat, (c : Int) < g 8 0 2 → 0 ≤ g 33 0 c ∧ g 33 0 c < 8) : ∀ (m k lv : Nat), (k : Int) + m = g 8 0 2 → lv < 256 → Q (some (ZI (if unl (g 33 0) m k lv = true then 1 else 0))) g → ZVV Y mX8_areUnlike (zcx Y 2 Q) 4 [ZR 8 0, ZI (lv : Int), ZI (k : Int)] [] g := by
  intro m
  induction m with
  | zero =>
    intro k lv hk hlv hq
    refine zs_iload_n (j := 2) (i := 2) rfl rfl rfl ?_
    refine zs_aload_n (j := 0) (i := 0) rfl rfl rfl ?_
    refine zs_getfield (f := 8) (k := 2) rfl rfl (trivial) ?_
    show ZVV _ _ _ _ _ (ZI (g 8 0 2) :: _) _
    refine zs_icmp_ge 45 rfl (by omega) (fun hc_9 => ?_) (fun hc_9 => ?_)
    · refine zs_iconst (n := 1) rfl ⟨by omega, by omega⟩ ?_
      exact zs_zreturn rfl rfl (by omega) (hq)
    · exfalso; omega
  | succ m ih =>
    intro k lv hk hlv hq
    have hrk := hr k (by omega)
    refine zs_iload_n (j := 2) (i := 2) rfl rfl rfl ?_
    refine zs_aload_n (j := 0) (i := 0) rfl rfl rfl ?_
    refine zs_getfield (f := 8) (k := 2) rfl rfl (trivial) ?_
    show ZVV _ _ _ _ _ (ZI (g 8 0 2) :: _) _
    refine zs_icmp_ge 45 rfl (by omega) (fun hc_9 => ?_) (fun hc_9 => ?_)
    · exfalso; omega
    · refine zs_aload_n (j := 0) (i := 0) rfl rfl rfl ?_
      refine zs_iload_n (j := 1) (i := 1) rfl rfl rfl ?_
      refine zs_aload_n (j := 0) (i := 0) rfl rfl rfl ?_
      refine zs_getfield (f := 8) (k := 7) rfl rfl (trivial) ?_
      show ZVV _ _ _ _ _ (ZR 33 0 :: _) _
      refine zs_iload_n (j := 2) (i := 2) rfl rfl rfl ?_
      refine zs_iald (n := 6) rfl rfl (by omega) (by omega) ?_
      show ZVV _ _ _ _ _ (ZI (g 33 0 k) :: _) _
      refine zs_callV (host := "") rfl kX8_271 vX8_has (c_X8_has lv (g 33 0 k)) [ZI (lv : Int), ZI (g 33 0 k)] [] rfl (zroom_of (by omega)) rfl (Nat.le_of_ble_eq_true rfl) (⟨rfl, by omega, by omega, by omega⟩) (fun r_20 g_20 hq_20 => ?_)
      obtain ⟨hr_20, hg_20⟩ := hq_20
      rw [hr_20, hg_20]
      show ZVV _ _ _ 23 _ [ZI (if lv.testBit (g 33 0 k).toNat = true then 1 else 0)] _
      show ZVV _ _ _ 23 _ _ _
      refine zs_if_eq 28 rfl (by omega) (fun hc_23 => ?_) (fun hc_23 => ?_)
      · refine zs_iload_n (j := 1) (i := 1) rfl rfl rfl ?_
        refine zs_iconst (n := 1) rfl ⟨by omega, by omega⟩ ?_
        refine zs_aload_n (j := 0) (i := 0) rfl rfl rfl ?_
        refine zs_getfield (f := 8) (k := 7) rfl rfl (trivial) ?_
        show ZVV _ _ _ _ _ (ZR 33 0 :: _) _
        refine zs_iload_n (j := 2) (i := 2) rfl rfl rfl ?_
        refine zs_iald (n := 6) rfl rfl (by omega) (by omega) ?_
        show ZVV _ _ _ _ _ (ZI (g 33 0 k) :: _) _
        refine zs_ishl rfl ?_
        show ZVV _ _ _ 37 _ _ _
        refine zs_ior rfl ?_
        refine zs_istore_n (j := 1) (i := 1) rfl rfl (by decide) (by intro r x hr; have hr2 : r = 0 := (by omega); subst hr2; intro z; cases z) ?_
        show ZVV _ _ _ _ [ZR 8 0, ZI (zor (lv : Int) (zshl 1 (g 33 0 k))), ZI (k : Int)] _ _
        refine zs_iinc_r (i := 2) rfl rfl (by intro r x hr; have hr2 : r = 1 := (by omega); subst hr2; intro z; cases z) ⟨by omega, by omega⟩ ?_
        show ZVV _ _ _ _ [ZR 8 0, ZI (zor (lv : Int) (zshl 1 (g 33 0 k))), ZI ((k : Int) + 1)] _ _
        refine zs_goto 4 rfl (by omega) ?_
        rw [lv_zor hlv hrk]
        refine ih (k + 1) _ (by omega) (lv_or hlv (by omega)) ?_
        have hx := hq
        rw [show unl (g 33 0) (m + 1) k lv = unl (g 33 0) m (k + 1) (lv ||| 1 <<< (g 33 0 k).toNat) from if_neg (zif0 hc_23)] at hx
        exact hx
      · refine zs_iconst (n := 0) rfl ⟨by omega, by omega⟩ ?_
        exact zs_zreturn rfl rfl (by omega) (by have hx := hq; rw [show unl (g 33 0) (m + 1) k lv = false from if_pos (zif1 hc_23)] at hx; exact hx)
theorem c_X8_areUnlike  : ZC mX8_areUnlike 2 (fun av g => av = [ZR 8 0] ∧ (0 ≤ g 8 0 2 ∧ g 8 0 2 ≤ 6) ∧ (∀ c : Nat, (c : Int) < g 8 0 2 → 0 ≤ g 33 0 c ∧ g 33 0 c < 8)) (fun _ g r g' => r = some (ZI (if unl (g 33 0) (g 8 0 2).toNat 0 0 = true then 1 else 0)) ∧ g' = g) := by
  refine zc_of gX8_areUnlike (fun av g hp => by obtain ⟨rfl, -⟩ := hp; exact Nat.le_of_ble_eq_true rfl) (fun Y av g hwf hrg hp hok => ?_)
  obtain ⟨rfl, hp⟩ := hp
  show ZVV _ _ _ 0 [ZR 8 0, ZX 99, ZX 99] [] _
  refine zs_iconst (n := 0) rfl ⟨by omega, by omega⟩ ?_
  refine zs_istore_n (j := 1) (i := 1) rfl rfl (by decide) (by intro r x hr; have hr2 : r = 0 := (by omega); subst hr2; intro z; cases z) ?_
  show ZVV _ _ _ _ [ZR 8 0, ZI 0, ZX 99] _ _
  refine zs_iconst (n := 0) rfl ⟨by omega, by omega⟩ ?_
  refine zs_istore_n (j := 2) (i := 2) rfl rfl (by decide) (by intro r x hr; have hr2 : r = 1 := (by omega); subst hr2; intro z; cases z) ?_
  show ZVV _ _ _ _ [ZR 8 0, ZI 0, ZI 0] _ _
  exact l_X8_areUnlike hp.1 hp.2 (g 8 0 2).toNat 0 0 (by omega) (by decide) ⟨rfl, rfl⟩

theorem l_X8_takeWay1 {Y : ZW} {Q : Option ZV → ZG → Prop} {g : ZG} (hn6 : 0 ≤ g 8 0 2 ∧ g 8 0 2 ≤ 6) : ∀ (m k : Nat) (s : Int), (k : Int) + m = g 8 0 2 → (0 ≤ s ∧ s ≤ k) → (∀ s2, s2 = s + zsum (fun p => if g 33 0 p = g 44 0 p then 0 else 1) m k → ZVV Y mX8_takeWay (zcx Y 4 Q) 47 [ZR 8 0, ZI (tlp (mT g)), ZI s2, ZI (g 8 0 2)] [] g) → ZVV Y mX8_takeWay (zcx Y 4 Q) 10 [ZR 8 0, ZI (tlp (mT g)), ZI s, ZI (k : Int)] [] g := by
  intro m
  induction m with
  | zero =>
    intro k s hk hs hq
    refine zs_iload_n (j := 3) (i := 3) rfl rfl rfl ?_
    refine zs_aload_n (j := 0) (i := 0) rfl rfl rfl ?_
    refine zs_getfield (f := 8) (k := 2) rfl rfl (trivial) ?_
    show ZVV _ _ _ _ _ (ZI (g 8 0 2) :: _) _
    refine zs_icmp_ge 47 rfl (by omega) (fun hc_15 => ?_) (fun hc_15 => ?_)
    · rw [show (k : Int) = g 8 0 2 by omega]
      exact hq s (by show s = s + 0; omega)
    · exfalso; omega
  | succ m ih =>
    intro k s hk hs hq
    refine zs_iload_n (j := 3) (i := 3) rfl rfl rfl ?_
    refine zs_aload_n (j := 0) (i := 0) rfl rfl rfl ?_
    refine zs_getfield (f := 8) (k := 2) rfl rfl (trivial) ?_
    show ZVV _ _ _ _ _ (ZI (g 8 0 2) :: _) _
    refine zs_icmp_ge 47 rfl (by omega) (fun hc_15 => ?_) (fun hc_15 => ?_)
    · exfalso; omega
    · refine zs_iload_n (j := 2) (i := 2) rfl rfl rfl ?_
      refine zs_aload_n (j := 0) (i := 0) rfl rfl rfl ?_
      refine zs_getfield (f := 8) (k := 7) rfl rfl (trivial) ?_
      show ZVV _ _ _ _ _ (ZR 33 0 :: _) _
      refine zs_iload_n (j := 3) (i := 3) rfl rfl rfl ?_
      refine zs_iald (n := 6) rfl rfl (by omega) (by omega) ?_
      show ZVV _ _ _ _ _ (ZI (g 33 0 k) :: _) _
      refine zs_aload_n (j := 0) (i := 0) rfl rfl rfl ?_
      refine zs_getfield (f := 8) (k := 27) rfl rfl (trivial) ?_
      show ZVV _ _ _ _ _ (ZR 44 0 :: _) _
      show ZVV _ _ _ 29 _ _ _
      refine zs_iload_n (j := 3) (i := 3) rfl rfl rfl ?_
      refine zs_iald (n := 6) rfl rfl (by omega) (by omega) ?_
      show ZVV _ _ _ _ _ (ZI (g 44 0 k) :: _) _
      refine zs_icmp_ne 38 rfl (by omega) (fun hc_31 => ?_) (fun hc_31 => ?_)
      · refine zs_iconst (n := 1) rfl ⟨by omega, by omega⟩ ?_
        refine zs_iadd_r rfl ⟨by omega, by omega⟩ ?_
        refine zs_istore_n (j := 2) (i := 2) rfl rfl (by decide) (by intro r x hr; have hr2 : r = 1 := (by omega); subst hr2; intro z; cases z) ?_
        show ZVV _ _ _ _ [ZR 8 0, ZI (tlp (mT g)), ZI (s + 1), ZI (k : Int)] _ _
        refine zs_iinc_r (i := 3) rfl rfl (by intro r x hr; have hr2 : r = 2 := (by omega); subst hr2; intro z; cases z) ⟨by omega, by omega⟩ ?_
        show ZVV _ _ _ _ [ZR 8 0, ZI (tlp (mT g)), ZI (s + 1), ZI ((k : Int) + 1)] _ _
        refine zs_goto 10 rfl (by omega) ?_
        have he : (fun p => if g 33 0 p = g 44 0 p then 0 else 1) k = (1 : Int) := if_neg (by omega)
        refine ih (k + 1) (s + 1) (by omega) ⟨by omega, by omega⟩ (fun s2 e2 => hq s2 ?_)
        rw [zsum_v he]
        exact e2
      · refine zs_iconst (n := 0) rfl ⟨by omega, by omega⟩ ?_
        refine zs_goto 39 rfl (by omega) ?_
        refine zs_iadd_r rfl ⟨by omega, by omega⟩ ?_
        refine zs_istore_n (j := 2) (i := 2) rfl rfl (by decide) (by intro r x hr; have hr2 : r = 1 := (by omega); subst hr2; intro z; cases z) ?_
        show ZVV _ _ _ _ [ZR 8 0, ZI (tlp (mT g)), ZI (s + 0), ZI (k : Int)] _ _
        refine zs_iinc_r (i := 3) rfl rfl (by intro r x hr; have hr2 : r = 2 := (by omega); subst hr2; intro z; cases z) ⟨by omega, by omega⟩ ?_
        show ZVV _ _ _ _ [ZR 8 0, ZI (tlp (mT g)), ZI (s + 0), ZI ((k : Int) + 1)] _ _
        refine zs_goto 10 rfl (by omega) ?_
        have he : (fun p => if g 33 0 p = g 44 0 p then 0 else 1) k = (0 : Int) := if_pos (by omega)
        refine ih (k + 1) (s + 0) (by omega) ⟨by omega, by omega⟩ (fun s2 e2 => hq s2 ?_)
        rw [zsum_v he]
        exact e2
theorem l_X8_takeWay2 {Y : ZW} {Q : Option ZV → ZG → Prop} {G : ZG} {u w : Int} : ∀ (m k : Nat), (k : Int) + m = 6 → Q none (zcpy G 33 0 45 0 0 0 6) → ZVV Y mX8_takeWay (zcx Y 4 Q) 97 [ZR 8 0, ZI u, ZI w, ZI (k : Int)] [] (zcpy G 33 0 45 0 0 0 k) := by
  intro m
  induction m with
  | zero =>
    intro k hk hq
    have h6 : k = 6 := by omega
    subst h6
    refine zs_iload_n (j := 3) (i := 3) rfl rfl rfl ?_
    refine zs_bipush (n := 6) rfl ⟨by omega, by omega⟩ ?_
    refine zs_icmp_ge 121 rfl (by omega) (fun hc_100 => ?_) (fun hc_100 => ?_)
    · exact zs_return rfl rfl (hq)
    · exfalso; omega
  | succ m ih =>
    intro k hk hq
    have es : (zcpy G 33 0 45 0 0 0 k) 33 = G 33 := by funext b c; unfold zcpy; rw [if_neg (fun z => absurd z.1 (by decide))]
    refine zs_iload_n (j := 3) (i := 3) rfl rfl rfl ?_
    refine zs_bipush (n := 6) rfl ⟨by omega, by omega⟩ ?_
    refine zs_icmp_ge 121 rfl (by omega) (fun hc_100 => ?_) (fun hc_100 => ?_)
    · exfalso; omega
    · refine zs_aload_n (j := 0) (i := 0) rfl rfl rfl ?_
      refine zs_getfield (f := 8) (k := 29) rfl rfl (trivial) ?_
      show ZVV _ _ _ _ _ (ZR 45 0 :: _) _
      refine zs_iload_n (j := 3) (i := 3) rfl rfl rfl ?_
      refine zs_aload_n (j := 0) (i := 0) rfl rfl rfl ?_
      refine zs_getfield (f := 8) (k := 7) rfl rfl (trivial) ?_
      show ZVV _ _ _ _ _ (ZR 33 0 :: _) _
      refine zs_iload_n (j := 3) (i := 3) rfl rfl rfl ?_
      refine zs_iald (n := 6) rfl rfl (by omega) (by omega) ?_
      show ZVV _ _ _ _ _ (ZI ((zcpy G 33 0 45 0 0 0 k) 33 0 k) :: _) _
      rw [es]
      show ZVV _ _ _ 114 _ _ _
      refine zs_iast (n := 6) rfl rfl (by omega) (by omega) ?_
      show ZVV _ _ _ _ _ _ (zup (zcpy G 33 0 45 0 0 0 k) 45 0 k (G 33 0 k))
      refine zs_iinc_r (i := 3) rfl rfl (by intro r x hr; have hr2 : r = 2 := (by omega); subst hr2; intro z; cases z) ⟨by omega, by omega⟩ ?_
      show ZVV _ _ _ _ [ZR 8 0, ZI u, ZI w, ZI ((k : Int) + 1)] _ _
      refine zs_goto 97 rfl (by omega) ?_
      rw [zcpy_s G 33 0 45 0 0 0 k (by omega) (by rw [Nat.zero_add])]
      exact ih (k + 1) (by omega) hq
def mTk (g : ZG) (st : Nat → Int) : ZG := if (g 8 0 31 < 0 ∨ tlp (mT g) < g 8 0 31) then zcpy (zup (zup g 8 0 30 (if g 8 0 30 < 0 ∨ mOth (g 8 0 2) (g 33 0) st < g 8 0 30 then mOth (g 8 0 2) (g 33 0) st else g 8 0 30)) 8 0 31 (tlp (mT g))) 33 0 45 0 0 0 6 else zup g 8 0 30 (if g 8 0 30 < 0 ∨ mOth (g 8 0 2) (g 33 0) st < g 8 0 30 then mOth (g 8 0 2) (g 33 0) st else g 8 0 30)
theorem c_X8_takeWay  : ZC mX8_takeWay 4 (fun av g => av = [ZR 8 0] ∧ MOK g ∧ MHH g) (fun _ g r g' => r = none ∧ g' = mTk g (g 44 0)) := by
  refine zc_of gX8_takeWay (fun av g hp => by obtain ⟨rfl, -⟩ := hp; exact Nat.le_of_ble_eq_true rfl) (fun Y av g hwf hrg hp hok => ?_)
  obtain ⟨rfl, hp⟩ := hp
  show ZVV _ _ _ 0 [ZR 8 0, ZX 99, ZX 99, ZX 99] [] _
  have hn6 := hp.1.2.2.1
  refine zs_aload_n (j := 0) (i := 0) rfl rfl rfl ?_
  refine zs_iconst (n := 1) rfl ⟨by omega, by omega⟩ ?_
  refine zs_callV (host := "") rfl kX8_303 vX8_pairs c_X8_pairs1 [ZI 1] [] rfl (zroom_of (by omega)) rfl (Nat.le_of_ble_eq_true rfl) ⟨rfl, hp.1, hp.2⟩ (fun r_2 g_2 hq_2 => ?_)
  obtain ⟨hr_2, hg_2⟩ := hq_2
  rw [hr_2, hg_2, mPrs_like hp.2]
  show ZVV _ _ _ 5 _ [ZI (tlp (mT g))] g
  refine zs_istore_n (j := 1) (i := 1) rfl rfl (by decide) (by intro r x hr; have hr2 : r = 0 := (by omega); subst hr2; intro z; cases z) ?_
  show ZVV _ _ _ _ [ZR 8 0, ZI (tlp (mT g)), ZX 99, ZX 99] _ _
  refine zs_iconst (n := 0) rfl ⟨by omega, by omega⟩ ?_
  refine zs_istore_n (j := 2) (i := 2) rfl rfl (by decide) (by intro r x hr; have hr2 : r = 1 := (by omega); subst hr2; intro z; cases z) ?_
  show ZVV _ _ _ _ [ZR 8 0, ZI (tlp (mT g)), ZI 0, ZX 99] _ _
  refine zs_iconst (n := 0) rfl ⟨by omega, by omega⟩ ?_
  show ZVV _ _ _ 9 _ _ _
  refine zs_istore_n (j := 3) (i := 3) rfl rfl (by decide) (by intro r x hr; have hr2 : r = 2 := (by omega); subst hr2; intro z; cases z) ?_
  show ZVV _ _ _ _ [ZR 8 0, ZI (tlp (mT g)), ZI 0, ZI 0] _ _
  refine l_X8_takeWay1 hn6 (g 8 0 2).toNat 0 0 (by omega) ⟨by omega, by omega⟩ (fun s2 he => ?_)
  rw [Int.zero_add] at he
  refine zs_aload_n (j := 0) (i := 0) rfl rfl rfl ?_
  refine zs_aload_n (j := 0) (i := 0) rfl rfl rfl ?_
  refine zs_getfield (f := 8) (k := 30) rfl rfl (trivial) ?_
  show ZVV _ _ _ _ _ (ZI (g 8 0 30) :: _) _
  refine zs_if_lt 63 rfl (by omega) (fun hc_52 => ?_) (fun hc_52 => ?_)
  · refine zs_iload_n (j := 2) (i := 2) rfl rfl rfl ?_
    refine zs_goto 71 rfl (by omega) ?_
    refine zs_putfield (f := 8) (k := 30) (x := s2) rfl rfl (rfl) ?_
    refine zs_aload_n (j := 0) (i := 0) rfl rfl rfl ?_
    refine zs_getfield (f := 8) (k := 31) rfl rfl (trivial) ?_
    show ZVV _ _ _ _ _ (ZI (g 8 0 31) :: _) _
    refine zs_if_lt 90 rfl (by omega) (fun hc_78 => ?_) (fun hc_78 => ?_)
    · refine zs_aload_n (j := 0) (i := 0) rfl rfl rfl ?_
      refine zs_iload_n (j := 1) (i := 1) rfl rfl rfl ?_
      refine zs_putfield (f := 8) (k := 31) (x := tlp (mT g)) rfl rfl (rfl) ?_
      refine zs_iconst (n := 0) rfl ⟨by omega, by omega⟩ ?_
      refine zs_istore_n (j := 3) (i := 3) rfl rfl (by decide) (by intro r x hr; have hr2 : r = 2 := (by omega); subst hr2; intro z; cases z) ?_
      show ZVV _ _ _ _ [ZR 8 0, ZI (tlp (mT g)), ZI s2, ZI 0] _ _
      have hx := l_X8_takeWay2 (Y := Y) (Q := fun r g' => r = none ∧ g' = mTk g (g 44 0)) (G := zup (zup g 8 0 30 s2) 8 0 31 (tlp (mT g))) (u := tlp (mT g)) (w := s2) 6 0 (by omega) ⟨rfl, by unfold mTk; rw [if_pos (by omega)]; rw [show mOth (g 8 0 2) (g 33 0) (g 44 0) = s2 from he.symm, show (if g 8 0 30 < 0 ∨ s2 < g 8 0 30 then s2 else g 8 0 30) = s2 from if_pos (by omega)]⟩
      rw [zcpy_0] at hx
      exact hx
    · refine zs_iload_n (j := 1) (i := 1) rfl rfl rfl ?_
      refine zs_aload_n (j := 0) (i := 0) rfl rfl rfl ?_
      refine zs_getfield (f := 8) (k := 31) rfl rfl (trivial) ?_
      show ZVV _ _ _ _ _ (ZI (g 8 0 31) :: _) _
      refine zs_icmp_lt 90 rfl (by omega) (fun hc_86 => ?_) (fun hc_86 => ?_)
      · refine zs_aload_n (j := 0) (i := 0) rfl rfl rfl ?_
        refine zs_iload_n (j := 1) (i := 1) rfl rfl rfl ?_
        refine zs_putfield (f := 8) (k := 31) (x := tlp (mT g)) rfl rfl (rfl) ?_
        refine zs_iconst (n := 0) rfl ⟨by omega, by omega⟩ ?_
        refine zs_istore_n (j := 3) (i := 3) rfl rfl (by decide) (by intro r x hr; have hr2 : r = 2 := (by omega); subst hr2; intro z; cases z) ?_
        show ZVV _ _ _ _ [ZR 8 0, ZI (tlp (mT g)), ZI s2, ZI 0] _ _
        have hx := l_X8_takeWay2 (Y := Y) (Q := fun r g' => r = none ∧ g' = mTk g (g 44 0)) (G := zup (zup g 8 0 30 s2) 8 0 31 (tlp (mT g))) (u := tlp (mT g)) (w := s2) 6 0 (by omega) ⟨rfl, by unfold mTk; rw [if_pos (by omega)]; rw [show mOth (g 8 0 2) (g 33 0) (g 44 0) = s2 from he.symm, show (if g 8 0 30 < 0 ∨ s2 < g 8 0 30 then s2 else g 8 0 30) = s2 from if_pos (by omega)]⟩
        rw [zcpy_0] at hx
        exact hx
      · exact zs_return rfl rfl (⟨rfl, by unfold mTk; rw [if_neg (by omega)]; rw [show mOth (g 8 0 2) (g 33 0) (g 44 0) = s2 from he.symm, show (if g 8 0 30 < 0 ∨ s2 < g 8 0 30 then s2 else g 8 0 30) = s2 from if_pos (by omega)]⟩)
  · refine zs_iload_n (j := 2) (i := 2) rfl rfl rfl ?_
    refine zs_aload_n (j := 0) (i := 0) rfl rfl rfl ?_
    refine zs_getfield (f := 8) (k := 30) rfl rfl (trivial) ?_
    show ZVV _ _ _ _ _ (ZI (g 8 0 30) :: _) _
    refine zs_icmp_ge 67 rfl (by omega) (fun hc_60 => ?_) (fun hc_60 => ?_)
    · refine zs_aload_n (j := 0) (i := 0) rfl rfl rfl ?_
      refine zs_getfield (f := 8) (k := 30) rfl rfl (trivial) ?_
      show ZVV _ _ _ _ _ (ZI (g 8 0 30) :: _) _
      refine zs_putfield (f := 8) (k := 30) (x := g 8 0 30) rfl rfl (rfl) ?_
      refine zs_aload_n (j := 0) (i := 0) rfl rfl rfl ?_
      refine zs_getfield (f := 8) (k := 31) rfl rfl (trivial) ?_
      show ZVV _ _ _ _ _ (ZI (g 8 0 31) :: _) _
      refine zs_if_lt 90 rfl (by omega) (fun hc_78 => ?_) (fun hc_78 => ?_)
      · refine zs_aload_n (j := 0) (i := 0) rfl rfl rfl ?_
        refine zs_iload_n (j := 1) (i := 1) rfl rfl rfl ?_
        refine zs_putfield (f := 8) (k := 31) (x := tlp (mT g)) rfl rfl (rfl) ?_
        refine zs_iconst (n := 0) rfl ⟨by omega, by omega⟩ ?_
        refine zs_istore_n (j := 3) (i := 3) rfl rfl (by decide) (by intro r x hr; have hr2 : r = 2 := (by omega); subst hr2; intro z; cases z) ?_
        show ZVV _ _ _ _ [ZR 8 0, ZI (tlp (mT g)), ZI s2, ZI 0] _ _
        have hx := l_X8_takeWay2 (Y := Y) (Q := fun r g' => r = none ∧ g' = mTk g (g 44 0)) (G := zup (zup g 8 0 30 (g 8 0 30)) 8 0 31 (tlp (mT g))) (u := tlp (mT g)) (w := s2) 6 0 (by omega) ⟨rfl, by unfold mTk; rw [if_pos (by omega)]; rw [show mOth (g 8 0 2) (g 33 0) (g 44 0) = s2 from he.symm, show (if g 8 0 30 < 0 ∨ s2 < g 8 0 30 then s2 else g 8 0 30) = g 8 0 30 from if_neg (by omega)]⟩
        rw [zcpy_0] at hx
        exact hx
      · refine zs_iload_n (j := 1) (i := 1) rfl rfl rfl ?_
        refine zs_aload_n (j := 0) (i := 0) rfl rfl rfl ?_
        refine zs_getfield (f := 8) (k := 31) rfl rfl (trivial) ?_
        show ZVV _ _ _ _ _ (ZI (g 8 0 31) :: _) _
        refine zs_icmp_lt 90 rfl (by omega) (fun hc_86 => ?_) (fun hc_86 => ?_)
        · refine zs_aload_n (j := 0) (i := 0) rfl rfl rfl ?_
          refine zs_iload_n (j := 1) (i := 1) rfl rfl rfl ?_
          refine zs_putfield (f := 8) (k := 31) (x := tlp (mT g)) rfl rfl (rfl) ?_
          refine zs_iconst (n := 0) rfl ⟨by omega, by omega⟩ ?_
          refine zs_istore_n (j := 3) (i := 3) rfl rfl (by decide) (by intro r x hr; have hr2 : r = 2 := (by omega); subst hr2; intro z; cases z) ?_
          show ZVV _ _ _ _ [ZR 8 0, ZI (tlp (mT g)), ZI s2, ZI 0] _ _
          have hx := l_X8_takeWay2 (Y := Y) (Q := fun r g' => r = none ∧ g' = mTk g (g 44 0)) (G := zup (zup g 8 0 30 (g 8 0 30)) 8 0 31 (tlp (mT g))) (u := tlp (mT g)) (w := s2) 6 0 (by omega) ⟨rfl, by unfold mTk; rw [if_pos (by omega)]; rw [show mOth (g 8 0 2) (g 33 0) (g 44 0) = s2 from he.symm, show (if g 8 0 30 < 0 ∨ s2 < g 8 0 30 then s2 else g 8 0 30) = g 8 0 30 from if_neg (by omega)]⟩
          rw [zcpy_0] at hx
          exact hx
        · exact zs_return rfl rfl (⟨rfl, by unfold mTk; rw [if_neg (by omega)]; rw [show mOth (g 8 0 2) (g 33 0) (g 44 0) = s2 from he.symm, show (if g 8 0 30 < 0 ∨ s2 < g 8 0 30 then s2 else g 8 0 30) = g 8 0 30 from if_neg (by omega)]⟩)
    · refine zs_iload_n (j := 2) (i := 2) rfl rfl rfl ?_
      refine zs_goto 71 rfl (by omega) ?_
      refine zs_putfield (f := 8) (k := 30) (x := s2) rfl rfl (rfl) ?_
      refine zs_aload_n (j := 0) (i := 0) rfl rfl rfl ?_
      refine zs_getfield (f := 8) (k := 31) rfl rfl (trivial) ?_
      show ZVV _ _ _ _ _ (ZI (g 8 0 31) :: _) _
      refine zs_if_lt 90 rfl (by omega) (fun hc_78 => ?_) (fun hc_78 => ?_)
      · refine zs_aload_n (j := 0) (i := 0) rfl rfl rfl ?_
        refine zs_iload_n (j := 1) (i := 1) rfl rfl rfl ?_
        refine zs_putfield (f := 8) (k := 31) (x := tlp (mT g)) rfl rfl (rfl) ?_
        refine zs_iconst (n := 0) rfl ⟨by omega, by omega⟩ ?_
        refine zs_istore_n (j := 3) (i := 3) rfl rfl (by decide) (by intro r x hr; have hr2 : r = 2 := (by omega); subst hr2; intro z; cases z) ?_
        show ZVV _ _ _ _ [ZR 8 0, ZI (tlp (mT g)), ZI s2, ZI 0] _ _
        have hx := l_X8_takeWay2 (Y := Y) (Q := fun r g' => r = none ∧ g' = mTk g (g 44 0)) (G := zup (zup g 8 0 30 s2) 8 0 31 (tlp (mT g))) (u := tlp (mT g)) (w := s2) 6 0 (by omega) ⟨rfl, by unfold mTk; rw [if_pos (by omega)]; rw [show mOth (g 8 0 2) (g 33 0) (g 44 0) = s2 from he.symm, show (if g 8 0 30 < 0 ∨ s2 < g 8 0 30 then s2 else g 8 0 30) = s2 from if_pos (by omega)]⟩
        rw [zcpy_0] at hx
        exact hx
      · refine zs_iload_n (j := 1) (i := 1) rfl rfl rfl ?_
        refine zs_aload_n (j := 0) (i := 0) rfl rfl rfl ?_
        refine zs_getfield (f := 8) (k := 31) rfl rfl (trivial) ?_
        show ZVV _ _ _ _ _ (ZI (g 8 0 31) :: _) _
        refine zs_icmp_lt 90 rfl (by omega) (fun hc_86 => ?_) (fun hc_86 => ?_)
        · refine zs_aload_n (j := 0) (i := 0) rfl rfl rfl ?_
          refine zs_iload_n (j := 1) (i := 1) rfl rfl rfl ?_
          refine zs_putfield (f := 8) (k := 31) (x := tlp (mT g)) rfl rfl (rfl) ?_
          refine zs_iconst (n := 0) rfl ⟨by omega, by omega⟩ ?_
          refine zs_istore_n (j := 3) (i := 3) rfl rfl (by decide) (by intro r x hr; have hr2 : r = 2 := (by omega); subst hr2; intro z; cases z) ?_
          show ZVV _ _ _ _ [ZR 8 0, ZI (tlp (mT g)), ZI s2, ZI 0] _ _
          have hx := l_X8_takeWay2 (Y := Y) (Q := fun r g' => r = none ∧ g' = mTk g (g 44 0)) (G := zup (zup g 8 0 30 s2) 8 0 31 (tlp (mT g))) (u := tlp (mT g)) (w := s2) 6 0 (by omega) ⟨rfl, by unfold mTk; rw [if_pos (by omega)]; rw [show mOth (g 8 0 2) (g 33 0) (g 44 0) = s2 from he.symm, show (if g 8 0 30 < 0 ∨ s2 < g 8 0 30 then s2 else g 8 0 30) = s2 from if_pos (by omega)]⟩
          rw [zcpy_0] at hx
          exact hx
        · exact zs_return rfl rfl (⟨rfl, by unfold mTk; rw [if_neg (by omega)]; rw [show mOth (g 8 0 2) (g 33 0) (g 44 0) = s2 from he.symm, show (if g 8 0 30 < 0 ∨ s2 < g 8 0 30 then s2 else g 8 0 30) = s2 from if_pos (by omega)]⟩)

