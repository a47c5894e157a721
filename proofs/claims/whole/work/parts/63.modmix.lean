def LW (g G : ZG) (ho : Nat → Int) (s : MS3) : Prop := zLM g G ∧ G 33 0 = ho ∧ (∀ c : Nat, (c : Int) < g 8 0 2 → 0 ≤ ho c ∧ ho c < g 8 0 0) ∧ G 8 0 3 = g 8 0 3 ∧ G 8 0 30 = s.1 ∧ G 8 0 31 = s.2.1 ∧ (0 ≤ s.2.1 → ∀ c, c < 6 → G 45 0 c = s.2.2 c)
theorem LW.T {g G : ZG} {ho : Nat → Int} {s : MS3} (h : LW g G ho s) : mT G = tSetH (mT g) ho := by
  rw [mT_k h.1.k, h.2.2.2.1, h.1.2.1 0 26 (by decide), h.2.1]; rfl
theorem LW.m {g G : ZG} {ho : Nat → Int} {s : MS3} (h : LW g G ho s) (hm : MOK g) : MOK G := hm.k h.1.k (by rw [h.2.2.2.1]; exact hm.2.2.2.1) (by rw [h.1.2.1 0 26 (by decide)]; exact hm.2.2.2.2.1) (fun p hp => by rw [h.2.1]; have := h.2.2.1 p hp; omega)
theorem LW.h {g G : ZG} {ho : Nat → Int} {s : MS3} (h : LW g G ho s) : MHH G := fun c hc => by rw [h.1.2.1 0 2 (by decide)] at hc; rw [h.2.1]; exact (h.2.2.1 c hc).1
theorem LW.p {g G M : ZG} {ho : Nat → Int} {s : MS3} (h : LW g G ho s) (k : zP G M) : LW g M ho s := ⟨h.1.p k, by rw [k 33 (by decide)]; exact h.2.1, h.2.2.1, by rw [k 8 (by decide)]; exact h.2.2.2.1, by rw [k 8 (by decide)]; exact h.2.2.2.2.1, by rw [k 8 (by decide)]; exact h.2.2.2.2.2.1, by rw [k 45 (by decide)]; exact h.2.2.2.2.2.2⟩
theorem zLM.row {g G : ZG} (h : zLM g G) {R : Nat → Int} (hR : ∀ c, 6 ≤ c → R c = G 33 0 c) : zLM g (mrow G R) := ⟨fun f h1 h2 h3 h4 h5 => by
    funext i c; unfold mrow; rw [if_neg (fun z => h2 z.1), h.1 f h1 h2 h3 h4 h5], fun i k hk => by unfold mrow; rw [if_neg (fun z => absurd z.1 (by decide))]; exact h.2.1 i k hk, fun i k hk => by
    unfold mrow
    by_cases hi : i = 0
    · rw [if_pos ⟨rfl, hi⟩, hR k (by omega), ← hi]; exact h.2.2.1 i k hk
    · rw [if_neg (fun z => hi z.2)]; exact h.2.2.1 i k hk, fun k hk => by unfold mrow; rw [if_neg (fun z => absurd z.1 (by decide))]; exact h.2.2.2.1 k hk, by unfold mrow; rw [if_neg (fun z => absurd z.1 (by decide))]; exact h.2.2.2.2⟩
theorem LW.nx {g G : ZG} {ho : Nat → Int} {s : MS3} (h : LW g G ho s) (hm : MOK g) : LW g (mrow G (nxtF (g 8 0 0) (g 8 0 2).toNat ho).2) (nxtF (g 8 0 0) (g 8 0 2).toNat ho).2 s := by
  have hn6 := hm.2.2.1
  refine ⟨h.1.row (fun c hc => by rw [nxtF_o _ _ _ (by omega), h.2.1]), ?_, nxtF_r hm.1.1 _ ho (fun c => (c : Int) < g 8 0 2) h.2.2.1, ?_, ?_, ?_, ?_⟩
  · funext c; unfold mrow; rw [if_pos ⟨rfl, rfl⟩]
  · unfold mrow; rw [if_neg (fun z => absurd z.1 (by decide))]; exact h.2.2.2.1
  · unfold mrow; rw [if_neg (fun z => absurd z.1 (by decide))]; exact h.2.2.2.2.1
  · unfold mrow; rw [if_neg (fun z => absurd z.1 (by decide))]; exact h.2.2.2.2.2.1
  · intro h0 c hc; unfold mrow; rw [if_neg (fun z => absurd z.1 (by decide))]; exact h.2.2.2.2.2.2 h0 c hc
theorem zLM.fw {g G : ZG} (h : zLM g G) {k : Nat} (hk : k = 30 ∨ k = 31) (v : Int) : zLM g (zup G 8 0 k v) := ⟨fun f h1 h2 h3 h4 h5 => (zup_nf _ _ _ _ h1).trans (h.1 f h1 h2 h3 h4 h5), fun i c hc => by unfold zup; rw [if_neg (fun z => hc ⟨z.2.2, by omega⟩)]; exact h.2.1 i c hc, fun i c hc => by rw [zup_nf _ _ _ _ (by decide)]; exact h.2.2.1 i c hc, fun c hc => by rw [zup_nf _ _ _ _ (by decide)]; exact h.2.2.2.1 c hc, by rw [zup_nk _ _ _ _ _ _ (by omega)]; exact h.2.2.2.2⟩
theorem zLM.be {g G : ZG} (h : zLM g G) : zLM g (zcpy G 33 0 45 0 0 0 6) := by
  have e : ∀ f, f ≠ 45 → (zcpy G 33 0 45 0 0 0 6) f = G f := fun f hf => by funext i c; unfold zcpy; rw [if_neg (fun z => hf z.1)]
  exact ⟨fun f h1 h2 h3 h4 h5 => (e f h5).trans (h.1 f h1 h2 h3 h4 h5), fun i c hc => by rw [e 8 (by decide)]; exact h.2.1 i c hc, fun i c hc => by rw [e 33 (by decide)]; exact h.2.2.1 i c hc, fun c hc => by rw [e 44 (by decide)]; exact h.2.2.2.1 c hc, by rw [e 8 (by decide)]; exact h.2.2.2.2⟩
theorem LW.tk {g G : ZG} {ho : Nat → Int} {s : MS3} (h : LW g G ho s) (hm : MOK g) : LW g (mTk G (G 44 0)) ho (mTake (mT g) (g 33 0) ho s) := by
  have hn6 := hm.2.2.1
  have e0 : mOth (G 8 0 2) (G 33 0) (G 44 0) = mOth (tnp (mT g)) ho (g 33 0) := by
    rw [h.1.2.1 0 2 (by decide), h.2.1]
    exact zsum_cong (fun j h1 h2 => by rw [h.1.2.2.2.1 j (by omega)])
  have e1 : tlp (mT G) = tlp (tSetH (mT g) ho) := by rw [h.T]
  unfold mTk mTake
  rw [e0, e1, h.2.2.2.2.1, h.2.2.2.2.2.1]
  generalize hv : (if s.1 < 0 ∨ mOth (tnp (mT g)) ho (g 33 0) < s.1 then mOth (tnp (mT g)) ho (g 33 0) else s.1) = v
  by_cases hb : s.2.1 < 0 ∨ tlp (tSetH (mT g) ho) < s.2.1
  · rw [if_pos hb, if_pos hb]
    have e : ∀ f, f ≠ 45 → (zcpy (zup (zup G 8 0 30 v) 8 0 31 (tlp (tSetH (mT g) ho))) 33 0 45 0 0 0 6) f = (zup (zup G 8 0 30 v) 8 0 31 (tlp (tSetH (mT g) ho))) f := fun f hf => by funext i c; unfold zcpy; rw [if_neg (fun z => hf z.1)]
    refine ⟨((h.1.fw (Or.inl rfl) v).fw (Or.inr rfl) _).be, ?_, h.2.2.1, ?_, ?_, ?_, fun _ c hc => ?_⟩
    · rw [e 33 (by decide), zup_nf _ _ _ _ (by decide), zup_nf _ _ _ _ (by decide)]; exact h.2.1
    · rw [e 8 (by decide), zup_nk _ _ _ _ _ _ (by decide), zup_nk _ _ _ _ _ _ (by decide)]; exact h.2.2.2.1
    · rw [e 8 (by decide), zup_nk _ _ _ _ _ _ (by decide), zup_eq]
    · rw [e 8 (by decide), zup_eq]
    · show (zcpy _ 33 0 45 0 0 0 6) 45 0 c = ho c
      unfold zcpy
      rw [if_pos ⟨rfl, rfl, Nat.zero_le _, by omega⟩, zup_nf _ _ _ _ (by decide), zup_nf _ _ _ _ (by decide), h.2.1]
      congr 1
      omega
  · rw [if_neg hb, if_neg hb]
    refine ⟨h.1.fw (Or.inl rfl) v, ?_, h.2.2.1, ?_, ?_, ?_, fun h0 c hc => ?_⟩
    · rw [zup_nf _ _ _ _ (by decide)]; exact h.2.1
    · rw [zup_nk _ _ _ _ _ _ (by decide)]; exact h.2.2.2.1
    · rw [zup_eq]
    · rw [zup_nk _ _ _ _ _ _ (by decide)]; exact h.2.2.2.2.2.1
    · rw [zup_nf _ _ _ _ (by decide)]; exact h.2.2.2.2.2.2 h0 c hc
theorem l_X8_way63 {Y : ZW} {Q : Option ZV → ZG → Prop} {g M : ZG} {ho : Nat → Int} {s : MS3} {b : Int} (hm : MOK g) (hL : LW g M ho s) (hk : ∀ N, LW g N (nxtF (g 8 0 0) (g 8 0 2).toNat ho).2 s → ZVV Y mX8_layWays (zcx Y 9 Q) 41 [ZR 8 0, ZI (if (nxtF (g 8 0 0) (g 8 0 2).toNat ho).1 = true then 1 else 0)] [] N) : ZVV Y mX8_layWays (zcx Y 9 Q) 63 [ZR 8 0, ZI b] [] M := by
  refine zs_aload_n (j := 0) (i := 0) rfl rfl rfl ?_
  refine zs_callV (host := "") rfl kX8_334 vX8_nextWay c_X8_nextWay [] [] rfl (zroom_of (by omega)) rfl (Nat.le_of_ble_eq_true rfl) ⟨rfl, (hL.m hm).1, (hL.m hm).2.2.1, fun c hc => by rw [hL.1.2.1 0 2 (by decide)] at hc; rw [hL.2.1]; have := hL.2.2.1 c hc; have := hm.1; omega⟩ (fun r_64 g_64 hq_64 => ?_)
  obtain ⟨hr_64, hg_64⟩ := hq_64
  rw [hr_64, hL.1.2.1 0 0 (by decide), hL.1.2.1 0 2 (by decide), hL.2.1]
  rw [hL.1.2.1 0 0 (by decide), hL.1.2.1 0 2 (by decide), hL.2.1] at hg_64
  show ZVV _ _ _ 67 _ [ZI (if (nxtF (g 8 0 0) (g 8 0 2).toNat ho).1 = true then 1 else 0)] g_64
  refine zs_istore_n (j := 1) (i := 1) rfl rfl (by decide) (by intro r x hr; have hr2 : r = 0 := (by omega); subst hr2; intro z; cases z) ?_
  show ZVV _ _ _ _ [ZR 8 0, ZI (if (nxtF (g 8 0 0) (g 8 0 2).toNat ho).1 = true then 1 else 0)] _ _
  refine zs_goto 41 rfl (by omega) ?_
  exact hk g_64 (by rw [hg_64]; exact hL.nx hm)
theorem l_X8_ways {Y : ZW} {Q : Option ZV → ZG → Prop} {g : ZG} {res : MS3} (hm : MOK g) (hq : ∀ M ho, LW g M ho res → ZVV Y mX8_layWays (zcx Y 9 Q) 71 [ZR 8 0, ZI 0] [] M) : ∀ (N : Nat) (ho : Nat → Int) (s : MS3) (G : ZG), LW g G ho s → mLoop (mT g) (g 33 0) N ho s = some res → ZVV Y mX8_layWays (zcx Y 9 Q) 41 [ZR 8 0, ZI 1] [] G := by
  intro N
  induction N with
  | zero => intro ho s G hL hres; cases hres
  | succ N ih =>
    intro ho s G hL hres
    replace hq := hq
    refine zs_iload_n (j := 1) (i := 1) rfl rfl rfl ?_
    refine zs_if_eq 71 rfl (by omega) (fun hc_42 => ?_) (fun hc_42 => ?_)
    · exfalso; omega
    · refine zs_aload_n (j := 0) (i := 0) rfl rfl rfl ?_
      refine zs_callV (host := "") rfl kX8_325 vX8_areUnlike c_X8_areUnlike [] [] rfl (zroom_of (by omega)) rfl (Nat.le_of_ble_eq_true rfl) ⟨rfl, (hL.m hm).2.2.1, fun c hc => by rw [hL.1.2.1 0 2 (by decide)] at hc; rw [hL.2.1]; have := hL.2.2.1 c hc; have := hm.1; omega⟩ (fun r_46 g_46 hq_46 => ?_)
      obtain ⟨hr_46, hg_46⟩ := hq_46
      rw [hr_46, hg_46, hL.2.1, hL.1.2.1 0 2 (by decide)]
      show ZVV _ _ _ 49 _ [ZI (if unl ho (g 8 0 2).toNat 0 0 = true then 1 else 0)] G
      refine zs_if_eq 63 rfl (by omega) (fun hc_49 => ?_) (fun hc_49 => ?_)
      · have hbd : mBody (mT g) (g 33 0) ho s = s := if_neg (fun z => zif0 hc_49 z.1)
        refine l_X8_way63 hm hL (fun M hM => ?_)
        have hres2 : (if (nxtF (g 8 0 0) (g 8 0 2).toNat ho).1 = true then mLoop (mT g) (g 33 0) N (nxtF (g 8 0 0) (g 8 0 2).toNat ho).2 (mBody (mT g) (g 33 0) ho s) else some (mBody (mT g) (g 33 0) ho s)) = some res := hres
        rw [hbd] at hres2
        by_cases hb : (nxtF (g 8 0 0) (g 8 0 2).toNat ho).1 = true
        · rw [if_pos hb]
          rw [if_pos hb] at hres2
          exact ih _ _ M hM hres2
        · rw [if_neg hb]
          rw [if_neg hb] at hres2
          have he := Option.some.inj hres2
          rw [he] at hM
          refine zs_iload_n (j := 1) (i := 1) rfl rfl rfl ?_
          refine zs_if_eq 71 rfl (by omega) (fun hc_42 => ?_) (fun hc_42 => ?_)
          · exact hq M _ hM
          · exfalso; omega
      · refine zs_aload_n (j := 0) (i := 0) rfl rfl rfl ?_
        refine zs_callV (host := "") rfl kX8_328 vX8_areAll c_X8_areAll [] [] rfl (zroom_of (by omega)) rfl (Nat.le_of_ble_eq_true rfl) ⟨rfl, hL.m hm, hL.h⟩ (fun r_53 g_53 hq_53 => ?_)
        obtain ⟨hr_53, hz_53⟩ := hq_53
        rw [hr_53, hL.T]
        have hL_53 := hL.p hz_53
        show ZVV _ _ _ 56 _ [ZI (if tAll (tSetH (mT g) ho) = true then 1 else 0)] g_53
        refine zs_if_eq 63 rfl (by omega) (fun hc_56 => ?_) (fun hc_56 => ?_)
        · have hbd : mBody (mT g) (g 33 0) ho s = s := if_neg (fun z => zif0 hc_56 z.2)
          refine l_X8_way63 hm hL_53 (fun M hM => ?_)
          have hres2 : (if (nxtF (g 8 0 0) (g 8 0 2).toNat ho).1 = true then mLoop (mT g) (g 33 0) N (nxtF (g 8 0 0) (g 8 0 2).toNat ho).2 (mBody (mT g) (g 33 0) ho s) else some (mBody (mT g) (g 33 0) ho s)) = some res := hres
          rw [hbd] at hres2
          by_cases hb : (nxtF (g 8 0 0) (g 8 0 2).toNat ho).1 = true
          · rw [if_pos hb]
            rw [if_pos hb] at hres2
            exact ih _ _ M hM hres2
          · rw [if_neg hb]
            rw [if_neg hb] at hres2
            have he := Option.some.inj hres2
            rw [he] at hM
            refine zs_iload_n (j := 1) (i := 1) rfl rfl rfl ?_
            refine zs_if_eq 71 rfl (by omega) (fun hc_42 => ?_) (fun hc_42 => ?_)
            · exact hq M _ hM
            · exfalso; omega
        · refine zs_aload_n (j := 0) (i := 0) rfl rfl rfl ?_
          refine zs_callV (host := "") rfl kX8_331 vX8_takeWay c_X8_takeWay [] [] rfl (zroom_of (by omega)) rfl (Nat.le_of_ble_eq_true rfl) ⟨rfl, hL_53.m hm, hL_53.h⟩ (fun r_60 g_60 hq_60 => ?_)
          obtain ⟨hr_60, hg_60⟩ := hq_60
          rw [hr_60]
          have hL_60 : LW g g_60 ho (mTake (mT g) (g 33 0) ho s) := by rw [hg_60]; exact hL_53.tk hm
          show ZVV _ _ _ 63 _ [] g_60
          have hbd : mBody (mT g) (g 33 0) ho s = mTake (mT g) (g 33 0) ho s := if_pos ⟨zif1 hc_49, zif1 hc_56⟩
          refine l_X8_way63 hm hL_60 (fun M hM => ?_)
          have hres2 : (if (nxtF (g 8 0 0) (g 8 0 2).toNat ho).1 = true then mLoop (mT g) (g 33 0) N (nxtF (g 8 0 0) (g 8 0 2).toNat ho).2 (mBody (mT g) (g 33 0) ho s) else some (mBody (mT g) (g 33 0) ho s)) = some res := hres
          rw [hbd] at hres2
          by_cases hb : (nxtF (g 8 0 0) (g 8 0 2).toNat ho).1 = true
          · rw [if_pos hb]
            rw [if_pos hb] at hres2
            exact ih _ _ M hM hres2
          · rw [if_neg hb]
            rw [if_neg hb] at hres2
            have he := Option.some.inj hres2
            rw [he] at hM
            refine zs_iload_n (j := 1) (i := 1) rfl rfl rfl ?_
            refine zs_if_eq 71 rfl (by omega) (fun hc_42 => ?_) (fun hc_42 => ?_)
            · exact hq M _ hM
            · exfalso; omega
theorem l_X8_ways0 {Y : ZW} {Q : Option ZV → ZG → Prop} {g G : ZG} (hn6 : 0 ≤ g 8 0 2 ∧ g 8 0 2 ≤ 6) (h2 : G 8 0 2 = g 8 0 2) : ∀ (m k : Nat), (k : Int) + m = g 8 0 2 → ZVV Y mX8_layWays (zcx Y 9 Q) 39 [ZR 8 0, ZI (g 8 0 2)] [] (mrow G (fun c => if c < (g 8 0 2).toNat then 0 else G 33 0 c)) → ZVV Y mX8_layWays (zcx Y 9 Q) 18 [ZR 8 0, ZI (k : Int)] [] (mrow G (fun c => if c < k then 0 else G 33 0 c)) := by
  intro m
  induction m with
  | zero =>
    intro k hk hq
    refine zs_iload_n (j := 1) (i := 1) rfl rfl rfl ?_
    refine zs_aload_n (j := 0) (i := 0) rfl rfl rfl ?_
    refine zs_getfield (f := 8) (k := 2) rfl rfl (trivial) ?_
    show ZVV _ _ _ _ _ (ZI (G 8 0 2) :: _) _
    rw [show G 8 0 2 = g 8 0 2 from h2]
    refine zs_icmp_ge 39 rfl (by omega) (fun hc_23 => ?_) (fun hc_23 => ?_)
    · rw [show (k : Int) = g 8 0 2 by omega, show k = (g 8 0 2).toNat by omega]
      exact hq
    · exfalso; omega
  | succ m ih =>
    intro k hk hq
    refine zs_iload_n (j := 1) (i := 1) rfl rfl rfl ?_
    refine zs_aload_n (j := 0) (i := 0) rfl rfl rfl ?_
    refine zs_getfield (f := 8) (k := 2) rfl rfl (trivial) ?_
    show ZVV _ _ _ _ _ (ZI (G 8 0 2) :: _) _
    rw [show G 8 0 2 = g 8 0 2 from h2]
    refine zs_icmp_ge 39 rfl (by omega) (fun hc_23 => ?_) (fun hc_23 => ?_)
    · exfalso; omega
    · refine zs_aload_n (j := 0) (i := 0) rfl rfl rfl ?_
      refine zs_getfield (f := 8) (k := 7) rfl rfl (trivial) ?_
      show ZVV _ _ _ _ _ (ZR 33 0 :: _) _
      refine zs_iload_n (j := 1) (i := 1) rfl rfl rfl ?_
      refine zs_iconst (n := 0) rfl ⟨by omega, by omega⟩ ?_
      refine zs_iast (n := 6) rfl rfl (by omega) (by omega) ?_
      show ZVV _ _ _ _ _ _ (zup (mrow G (fun c => if c < k then 0 else G 33 0 c)) 33 0 k 0)
      refine zs_iinc_r (i := 1) rfl rfl (by intro r x hr; have hr2 : r = 0 := (by omega); subst hr2; intro z; cases z) ⟨by omega, by omega⟩ ?_
      show ZVV _ _ _ _ [ZR 8 0, ZI ((k : Int) + 1)] _ _
      refine zs_goto 18 rfl (by omega) ?_
      rw [mrow_up]
      have er : rset (fun c => if c < k then 0 else G 33 0 c) k 0 = (fun c => if c < k + 1 then 0 else G 33 0 c) := by
        funext c
        unfold rset
        by_cases hc : c = k
        · rw [if_pos hc, if_pos (by omega)]
        · rw [if_neg hc]
          dsimp only
          by_cases h9 : c < k
          · rw [if_pos h9, if_pos (by omega)]
          · rw [if_neg h9, if_neg (by omega)]
      rw [er]
      exact ih (k + 1) (by omega) hq
theorem c_X8_layWays  : ZC mX8_layWays 9 (fun av g => av = [ZR 8 0] ∧ MPI g) (fun _ g r g' => r = none ∧ zA g g' ∧ g' 8 0 30 = (mRes (mT g) (g 33 0)).1 ∧ g' 8 0 31 = (mRes (mT g) (g 33 0)).2.1 ∧ (0 ≤ (mRes (mT g) (g 33 0)).2.1 → ∀ c, c < 6 → g' 45 0 c = (mRes (mT g) (g 33 0)).2.2 c)) := by
  refine zc_of gX8_layWays (fun av g hp => by obtain ⟨rfl, -⟩ := hp; exact Nat.le_of_ble_eq_true rfl) (fun Y av g hwf hrg hp hok => ?_)
  obtain ⟨rfl, hp⟩ := hp
  show ZVV _ _ _ 0 [ZR 8 0, ZX 99] [] _
  obtain ⟨hm, hh, h3, h26⟩ := hp
  have hn8 := hm.1
  have hn6 := hm.2.2.1
  refine zs_aload_n (j := 0) (i := 0) rfl rfl rfl ?_
  refine zs_callV (host := "") rfl kX8_313 vX8_keep c_X8_keep [] [] rfl (zroom_of (by omega)) rfl (Nat.le_of_ble_eq_true rfl) ⟨rfl, trivial⟩ (fun r_1 g_1 hq_1 => ?_)
  obtain ⟨hr_1, hg_1⟩ := hq_1
  rw [hr_1]
  have hLM_1 : zLM g g_1 := by rw [hg_1]; exact zLM.start g
  have hM_1 : MOK g_1 := by rw [hg_1]; exact mkeep_ok hm
  have hH_1 : MHH g_1 := by rw [hg_1]; exact mkeep_hh hh
  have hT_1 : mT g_1 = mT g := by rw [hg_1]; exact mkeep_T g
  have h3_1 : g_1 8 0 3 = g 8 0 3 := by rw [hg_1]; exact mkeep_8 g 0 3 (by decide)
  show ZVV _ _ _ 4 _ [] g_1
  refine zs_aload_n (j := 0) (i := 0) rfl rfl rfl ?_
  refine zs_bipush (n := (-5)) rfl ⟨by omega, by omega⟩ ?_
  refine zs_putfield (f := 8) (k := 30) (x := -5) rfl rfl (rfl) ?_
  refine zs_aload_n (j := 0) (i := 0) rfl rfl rfl ?_
  refine zs_bipush (n := (-5)) rfl ⟨by omega, by omega⟩ ?_
  show ZVV _ _ _ 13 _ _ _
  refine zs_putfield (f := 8) (k := 31) (x := -5) rfl rfl (rfl) ?_
  refine zs_iconst (n := 0) rfl ⟨by omega, by omega⟩ ?_
  refine zs_istore_n (j := 1) (i := 1) rfl rfl (by decide) (by intro r x hr; have hr2 : r = 0 := (by omega); subst hr2; intro z; cases z) ?_
  show ZVV _ _ _ _ [ZR 8 0, ZI 0] _ _
  have h33 : (zup (zup g_1 8 0 30 (-5)) 8 0 31 (-5)) 33 0 = g 33 0 := by rw [zup_nf _ _ _ _ (by decide), zup_nf _ _ _ _ (by decide), hg_1, mkeep_f g (by decide) (by decide)]
  have hLW : LW g (mrow (zup (zup g_1 8 0 30 (-5)) 8 0 31 (-5)) (fun c => if c < (g 8 0 2).toNat then 0 else (zup (zup g_1 8 0 30 (-5)) 8 0 31 (-5)) 33 0 c)) (mRow0 (tnp (mT g)) (g 33 0)) (-5, -5, fun _ => 0) := by
    refine ⟨((hLM_1.fw (Or.inl rfl) _).fw (Or.inr rfl) _).row (fun c hc => if_neg (by omega)), ?_, fun c hc => ?_, ?_, ?_, ?_, fun h0 => absurd h0 (by decide)⟩
    · funext c
      unfold mrow mRow0
      rw [if_pos ⟨rfl, rfl⟩, h33]
      show (if c < (g 8 0 2).toNat then 0 else g 33 0 c) = if (c : Int) < g 8 0 2 then 0 else g 33 0 c
      by_cases hc : (c : Int) < g 8 0 2
      · rw [if_pos hc, if_pos (by omega)]
      · rw [if_neg hc, if_neg (by omega)]
    · rw [show mRow0 (tnp (mT g)) (g 33 0) c = 0 from if_pos hc]; omega
    · unfold mrow; rw [if_neg (fun z => absurd z.1 (by decide)), zup_nk _ _ _ _ _ _ (by decide), zup_nk _ _ _ _ _ _ (by decide)]; exact h3_1
    · unfold mrow; rw [if_neg (fun z => absurd z.1 (by decide)), zup_nk _ _ _ _ _ _ (by decide), zup_eq]
    · unfold mrow; rw [if_neg (fun z => absurd z.1 (by decide)), zup_eq]
  have hx := fun hq => l_X8_ways0 (Y := Y) (Q := fun r g' => r = none ∧ zA g g' ∧ g' 8 0 30 = (mRes (mT g) (g 33 0)).1 ∧ g' 8 0 31 = (mRes (mT g) (g 33 0)).2.1 ∧ (0 ≤ (mRes (mT g) (g 33 0)).2.1 → ∀ c, c < 6 → g' 45 0 c = (mRes (mT g) (g 33 0)).2.2 c)) (g := g) (G := zup (zup g_1 8 0 30 (-5)) 8 0 31 (-5)) hn6 (by rw [zup_nk _ _ _ _ _ _ (by decide), zup_nk _ _ _ _ _ _ (by decide)]; exact hLM_1.2.1 0 2 (by decide)) (g 8 0 2).toNat 0 (by omega) hq
  rw [show (fun c => if c < 0 then 0 else (zup (zup g_1 8 0 30 (-5)) 8 0 31 (-5)) 33 0 c) = (zup (zup g_1 8 0 30 (-5)) 8 0 31 (-5)) 33 0 from by funext c; rw [if_neg (by omega)], mrow_self] at hx
  refine hx ?_
  refine zs_iconst (n := 1) rfl ⟨by omega, by omega⟩ ?_
  refine zs_istore_n (j := 1) (i := 1) rfl rfl (by decide) (by intro r x hr; have hr2 : r = 0 := (by omega); subst hr2; intro z; cases z) ?_
  show ZVV _ _ _ _ [ZR 8 0, ZI 1] _ _
  obtain ⟨N, hN⟩ := way_all (mT g) (g 33 0) hm.1.1
  refine l_X8_ways hm (fun M ho hL => ?_) N _ _ _ hLW hN
  refine zs_aload_n (j := 0) (i := 0) rfl rfl rfl ?_
  refine zs_callV (host := "") rfl kX8_319 vX8_putBack c_X8_putBack [] [] rfl (zroom_of (by omega)) rfl (Nat.le_of_ble_eq_true rfl) ⟨rfl, trivial⟩ (fun r_72 g_72 hq_72 => ?_)
  obtain ⟨hr_72, hg_72⟩ := hq_72
  rw [hr_72]
  have hA_72 : zA g g_72 := by rw [hg_72]; exact (hL.1).back
  show ZVV _ _ _ 75 _ [] g_72
  exact zs_return rfl rfl (⟨rfl, hA_72, (by rw [hg_72]; exact (mback_8 M 0 30 (by decide)).trans hL.2.2.2.2.1), (by rw [hg_72]; exact (mback_8 M 0 31 (by decide)).trans hL.2.2.2.2.2.1), fun h0 c hc => by rw [hg_72, mback_f M (by decide) (by decide)]; exact hL.2.2.2.2.2.2 h0 c hc⟩)

def mMixed (g : ZG) (p : Int) : Int := if ¬ (-1 ≤ p ∧ p ≤ g 8 0 2 - 1) then -10001 else if p < 0 ∨ (mRes (mT g) (g 33 0)).2.1 < 0 then (mRes (mT g) (g 33 0)).2.1 else (mRes (mT g) (g 33 0)).2.2 p.toNat
theorem c_X8_few  : ZC mX8_few 10 (fun av g => av = [ZR 8 0] ∧ MPI g) (fun _ g r g' => r = some (ZI (mRes (mT g) (g 33 0)).1) ∧ zA g g') := by
  refine zc_of gX8_few (fun av g hp => by obtain ⟨rfl, -⟩ := hp; exact Nat.le_of_ble_eq_true rfl) (fun Y av g hwf hrg hp hok => ?_)
  obtain ⟨rfl, hp⟩ := hp
  show ZVV _ _ _ 0 [ZR 8 0] [] _
  refine zs_aload_n (j := 0) (i := 0) rfl rfl rfl ?_
  refine zs_callV (host := "") rfl kX8_337 vX8_layWays c_X8_layWays [] [] rfl (zroom_of (by omega)) rfl (Nat.le_of_ble_eq_true rfl) ⟨rfl, hp⟩ (fun r_1 g_1 hq_1 => ?_)
  obtain ⟨hr_1, hA_1, hf_1, hl_1, hb_1⟩ := hq_1
  rw [hr_1]
  show ZVV _ _ _ 4 _ [] g_1
  refine zs_aload_n (j := 0) (i := 0) rfl rfl rfl ?_
  refine zs_getfield (f := 8) (k := 30) rfl rfl (trivial) ?_
  show ZVV _ _ _ _ _ (ZI (g_1 8 0 30) :: _) _
  exact zs_ireturn rfl rfl (⟨by rw [hf_1], hA_1⟩)

theorem c_X8_mixed (p : Int) : ZC mX8_mixed 10 (fun av g => av = [ZR 8 0, ZI p] ∧ MPI g) (fun _ g r g' => r = some (ZI (mMixed g p)) ∧ zA g g') := by
  refine zc_of gX8_mixed (fun av g hp => by obtain ⟨rfl, -⟩ := hp; exact Nat.le_of_ble_eq_true rfl) (fun Y av g hwf hrg hp hok => ?_)
  obtain ⟨rfl, hp⟩ := hp
  show ZVV _ _ _ 0 [ZR 8 0, ZI p] [] _
  have hn6 := hp.1.2.2.1
  refine zs_aload_n (j := 0) (i := 0) rfl rfl rfl ?_
  refine zs_iload_n (j := 1) (i := 1) rfl rfl rfl ?_
  refine zs_iconst (n := (-1)) rfl ⟨by omega, by omega⟩ ?_
  refine zs_aload_n (j := 0) (i := 0) rfl rfl rfl ?_
  refine zs_getfield (f := 8) (k := 2) rfl rfl (trivial) ?_
  show ZVV _ _ _ _ _ (ZI (g 8 0 2) :: _) _
  refine zs_iconst (n := 1) rfl ⟨by omega, by omega⟩ ?_
  refine zs_isub_r rfl ⟨by omega, by omega⟩ ?_
  show ZVV _ _ _ 9 _ _ _
  refine zs_callV (host := "") rfl kX8_170 vX8_in (c_X8_in p (-1) ((g 8 0 2) - 1)) [ZI p, ZI (-1), ZI ((g 8 0 2) - 1)] [] rfl (zroom_of (by omega)) rfl (Nat.le_of_ble_eq_true rfl) (⟨rfl, trivial⟩) (fun r_9 g_9 hq_9 => ?_)
  obtain ⟨hr_9, hg_9⟩ := hq_9
  rw [hr_9, hg_9]
  show ZVV _ _ _ 12 _ [ZI (if -1 ≤ p ∧ p ≤ (g 8 0 2) - 1 then 1 else 0)] _
  refine zs_if_ne 19 rfl (by omega) (fun hc_12 => ?_) (fun hc_12 => ?_)
  · refine zs_aload_n (j := 0) (i := 0) rfl rfl rfl ?_
    refine zs_callV (host := "") rfl kX8_337 vX8_layWays c_X8_layWays [] [] rfl (zroom_of (by omega)) rfl (Nat.le_of_ble_eq_true rfl) ⟨rfl, hp⟩ (fun r_20 g_20 hq_20 => ?_)
    obtain ⟨hr_20, hA_20, hf_20, hl_20, hb_20⟩ := hq_20
    rw [hr_20]
    show ZVV _ _ _ 23 _ [] g_20
    refine zs_iload_n (j := 1) (i := 1) rfl rfl rfl ?_
    refine zs_if_lt 34 rfl (by omega) (fun hc_24 => ?_) (fun hc_24 => ?_)
    · refine zs_aload_n (j := 0) (i := 0) rfl rfl rfl ?_
      refine zs_getfield (f := 8) (k := 31) rfl rfl (trivial) ?_
      show ZVV _ _ _ _ _ (ZI (g_20 8 0 31) :: _) _
      refine zs_goto 47 rfl (by omega) ?_
      exact zs_ireturn rfl rfl (⟨by unfold mMixed; rw [if_neg (by omega), hl_20]; rw [hl_20] at *; rw [if_pos (by omega)], hA_20⟩)
    · refine zs_aload_n (j := 0) (i := 0) rfl rfl rfl ?_
      refine zs_getfield (f := 8) (k := 31) rfl rfl (trivial) ?_
      show ZVV _ _ _ _ _ (ZI (g_20 8 0 31) :: _) _
      refine zs_if_ge 41 rfl (by omega) (fun hc_31 => ?_) (fun hc_31 => ?_)
      · refine zs_aload_n (j := 0) (i := 0) rfl rfl rfl ?_
        refine zs_getfield (f := 8) (k := 29) rfl rfl (trivial) ?_
        show ZVV _ _ _ _ _ (ZR 45 0 :: _) _
        refine zs_iload_n (j := 1) (i := 1) rfl rfl rfl ?_
        refine zs_iald (n := 6) rfl rfl (by omega) (by omega) ?_
        exact zs_ireturn rfl rfl (⟨by unfold mMixed; rw [hl_20] at *; rw [if_neg (by omega), if_neg (by omega), hb_20 (by omega) p.toNat (by omega)], hA_20⟩)
      · refine zs_aload_n (j := 0) (i := 0) rfl rfl rfl ?_
        refine zs_getfield (f := 8) (k := 31) rfl rfl (trivial) ?_
        show ZVV _ _ _ _ _ (ZI (g_20 8 0 31) :: _) _
        refine zs_goto 47 rfl (by omega) ?_
        exact zs_ireturn rfl rfl (⟨by unfold mMixed; rw [if_neg (by omega), hl_20]; rw [hl_20] at *; rw [if_pos (by omega)], hA_20⟩)
  · refine zs_sipush (n := (-10001)) rfl ⟨by omega, by omega⟩ ?_
    exact zs_ireturn rfl rfl (⟨by unfold mMixed; rw [if_pos (by omega)], zA.rf g⟩)

