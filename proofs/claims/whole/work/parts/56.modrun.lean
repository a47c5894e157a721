def zLM (g G : ZG) : Prop := (∀ f, f ≠ 8 → f ≠ 33 → f ≠ 43 → f ≠ 44 → f ≠ 45 → G f = g f) ∧ (∀ i k, ¬ (i = 0 ∧ (k = 3 ∨ k = 28 ∨ k = 30 ∨ k = 31)) → G 8 i k = g 8 i k) ∧ (∀ i k, ¬ (i = 0 ∧ k < 6) → G 33 i k = g 33 i k) ∧ (∀ k, k < 6 → G 44 0 k = g 33 0 k) ∧ G 8 0 28 = g 8 0 3
theorem mkeep_f (g : ZG) {f : Nat} (h : f ≠ 8) (h2 : f ≠ 44) : mkeep g f = g f := by
  unfold mkeep; rw [zup_nf _ _ _ _ h]; funext i c; unfold zcpy; rw [if_neg (fun z => h2 z.1)]
theorem mkeep_8 (g : ZG) (i k : Nat) (h : ¬ (i = 0 ∧ k = 28)) : mkeep g 8 i k = g 8 i k := by
  unfold mkeep zup; rw [if_neg (fun z => h ⟨z.2.2, z.2.1⟩)]; unfold zcpy; rw [if_neg (fun z => absurd z.1 (by decide))]
theorem mkeep_28 (g : ZG) : mkeep g 8 0 28 = g 8 0 3 := zup_eq _ _ _ _ _
theorem mkeep_44 (g : ZG) {k : Nat} (h : k < 6) : mkeep g 44 0 k = g 33 0 k := by
  unfold mkeep; rw [zup_nf _ _ _ _ (by decide)]; unfold zcpy; rw [if_pos ⟨rfl, rfl, Nat.zero_le _, by omega⟩, Nat.zero_add, Nat.sub_zero]
theorem zLM.start (g : ZG) : zLM g (mkeep g) := ⟨fun f h1 _ _ h4 _ => mkeep_f g h1 h4, fun i k h => mkeep_8 g i k (by omega), fun i k _ => by rw [mkeep_f g (by decide) (by decide)], fun k h => mkeep_44 g h, mkeep_28 g⟩
theorem zLM.gm {g G M : ZG} (h : zLM g G) (k : zGM G M) : zLM g M := ⟨fun f h1 h2 h3 h4 h5 => (k.1 f h1 h2 h3).trans (h.1 f h1 h2 h3 h4 h5), fun i j hj => (k.2.1 i j (by omega)).trans (h.2.1 i j hj), fun i j hj => (k.2.2 i j hj).trans (h.2.2.1 i j hj), fun j hj => by rw [k.1 44 (by decide) (by decide) (by decide)]; exact h.2.2.2.1 j hj, (k.2.1 0 28 (by decide)).trans h.2.2.2.2⟩
theorem zLM.p {g G M : ZG} (h : zLM g G) (k : zP G M) : zLM g M := h.gm k.gm
theorem mback_f (g : ZG) {f : Nat} (h : f ≠ 8) (h2 : f ≠ 33) : mback g f = g f := by
  unfold mback; rw [zup_nf _ _ _ _ h]; funext i c; unfold zcpy; rw [if_neg (fun z => h2 z.1)]
theorem mback_8 (g : ZG) (i k : Nat) (h : ¬ (i = 0 ∧ k = 3)) : mback g 8 i k = g 8 i k := by
  unfold mback zup; rw [if_neg (fun z => h ⟨z.2.2, z.2.1⟩)]; unfold zcpy; rw [if_neg (fun z => absurd z.1 (by decide))]
theorem mback_33 (g : ZG) (i k : Nat) : mback g 33 i k = if i = 0 ∧ k < 6 then g 44 0 k else g 33 i k := by
  unfold mback; rw [zup_nf _ _ _ _ (by decide)]; unfold zcpy
  by_cases h : i = 0 ∧ k < 6
  · rw [if_pos h, if_pos ⟨rfl, h.1, Nat.zero_le _, by omega⟩, Nat.zero_add, Nat.sub_zero]
  · rw [if_neg h, if_neg (fun z => h ⟨z.2.1, by omega⟩)]
theorem zLM.back {g G : ZG} (h : zLM g G) : zA g (mback G) := by
  refine ⟨fun f h1 h2 h3 h4 => ?_, fun i k hk => ?_⟩
  · by_cases h5 : f = 33
    · subst h5
      funext i k
      rw [mback_33]
      by_cases hi : i = 0 ∧ k < 6
      · rw [if_pos hi, h.2.2.2.1 k hi.2, hi.1]
      · rw [if_neg hi]; exact h.2.2.1 i k hi
    · rw [mback_f G h1 h5]; exact h.1 f h1 h5 h2 h3 h4
  · by_cases h3 : i = 0 ∧ k = 3
    · obtain ⟨rfl, rfl⟩ := h3
      exact (show mback G 8 0 3 = G 8 0 28 from zup_eq _ _ _ _ _).trans h.2.2.2.2
    · rw [mback_8 G i k h3]; exact h.2.1 i k (by omega)
theorem mkeep_k (g : ZG) : zK g (mkeep g) := ⟨fun f hf => mkeep_f g (by omega) (by omega), fun k hk => mkeep_8 g 0 k (by omega)⟩
theorem mkeep_T (g : ZG) : mT (mkeep g) = mT g := by
  rw [mT_k (mkeep_k g), mkeep_8 g 0 3 (by decide), mkeep_8 g 0 26 (by decide), mkeep_f g (f := 33) (by decide) (by decide)]; rfl
theorem mkeep_ok {g : ZG} (h : MOK g) : MOK (mkeep g) := h.k (mkeep_k g) (by rw [mkeep_8 g 0 3 (by decide)]; exact h.2.2.2.1) (by rw [mkeep_8 g 0 26 (by decide)]; exact h.2.2.2.2.1) (fun p hp => by rw [mkeep_f g (f := 33) (by decide) (by decide)]; exact (h.2.2.2.2.2.2 p hp).1)
theorem mkeep_hh {g : ZG} (h : MHH g) : MHH (mkeep g) := by unfold MHH; rw [mkeep_8 g 0 2 (by decide), mkeep_f g (f := 33) (by decide) (by decide)]; exact h
def MPI (g : ZG) : Prop := MOK g ∧ MHH g ∧ g 8 0 3 ≤ 9999 ∧ g 8 0 26 = -1
def mTold (g : ZG) (w : Int) : Int := if w = 0 then g 8 0 0 else if w = 1 then g 8 0 1 else if w = 2 then g 8 0 3 else if w = 3 then tlp (mT g) else if w = 4 then zap (g 8 0 0) (g 8 0 1) (g 8 0 2) (g 33 0) else if w = 5 then (tHap (mT g) : Nat) else if w = 6 then (zfree (g 8 0 0) (g 8 0 2) (g 33 0) : Nat) else -1
def mOf (g : ZG) (p w : Int) : Int := if ¬ (0 ≤ p ∧ p < g 8 0 2) then -10001 else if w = 0 then g 30 0 p.toNat else if w = 1 then g 31 0 p.toNat else if w = 2 then g 32 0 p.toNat else if w = 3 then g 33 0 p.toNat else if w = 4 then (tWt (mT g) p.toNat (g 33 0 p.toNat)).1 else if w = 5 then (tWt (mT g) p.toNat (g 33 0 p.toNat)).2.1 else if w = 6 then (tWt (mT g) p.toNat (g 33 0 p.toNat)).2.2 else if w = 7 then (if tSu (mT g) p.toNat (g 33 0 p.toNat) = true then 1 else 0) else if w = 8 then (if tSu (mT g) p.toNat (g 33 0 p.toNat) = true then -5 else tGoes (mT g) p.toNat) else -10001
theorem c_X8_told (w : Int) : ZC mX8_told 8 (fun av g => av = [ZR 8 0, ZI w] ∧ MPI g) (fun _ g r g' => r = some (ZI (mTold g w)) ∧ zA g g') := by
  refine zc_of gX8_told (fun av g hp => by obtain ⟨rfl, -⟩ := hp; exact Nat.le_of_ble_eq_true rfl) (fun Y av g hwf hrg hp hok => ?_)
  obtain ⟨rfl, hp⟩ := hp
  show ZVV _ _ _ 0 [ZR 8 0, ZI w] [] _
  refine zs_iload_n (j := 1) (i := 1) rfl rfl rfl ?_
  by_cases hs_1_0 : w = 0
  · refine zs_tsIn 44 rfl (by omega) (by omega) (off := 43) (by rw [hs_1_0]; rfl) (by omega) ?_
    refine zs_aload_n (j := 0) (i := 0) rfl rfl rfl ?_
    refine zs_getfield (f := 8) (k := 0) rfl rfl (trivial) ?_
    show ZVV _ _ _ _ _ (ZI (g 8 0 0) :: _) _
    exact zs_ireturn rfl rfl (⟨by unfold mTold; first | (rw [if_pos (by omega)]) | (rw [if_neg (by omega), if_pos (by omega)]) | (rw [if_neg (by omega), if_neg (by omega), if_pos (by omega)]) | (rw [if_neg (by omega), if_neg (by omega), if_neg (by omega), if_pos (by omega)]) | (rw [if_neg (by omega), if_neg (by omega), if_neg (by omega), if_neg (by omega), if_pos (by omega)]) | (rw [if_neg (by omega), if_neg (by omega), if_neg (by omega), if_neg (by omega), if_neg (by omega), if_pos (by omega)]) | (rw [if_neg (by omega), if_neg (by omega), if_neg (by omega), if_neg (by omega), if_neg (by omega), if_neg (by omega), if_pos (by omega)]) | (rw [if_neg (by omega), if_neg (by omega), if_neg (by omega), if_neg (by omega), if_neg (by omega), if_neg (by omega), if_neg (by omega)]), zA.rf g⟩)
  by_cases hs_1_1 : w = 1
  · refine zs_tsIn 49 rfl (by omega) (by omega) (off := 48) (by rw [hs_1_1]; rfl) (by omega) ?_
    refine zs_aload_n (j := 0) (i := 0) rfl rfl rfl ?_
    refine zs_getfield (f := 8) (k := 1) rfl rfl (trivial) ?_
    show ZVV _ _ _ _ _ (ZI (g 8 0 1) :: _) _
    exact zs_ireturn rfl rfl (⟨by unfold mTold; first | (rw [if_pos (by omega)]) | (rw [if_neg (by omega), if_pos (by omega)]) | (rw [if_neg (by omega), if_neg (by omega), if_pos (by omega)]) | (rw [if_neg (by omega), if_neg (by omega), if_neg (by omega), if_pos (by omega)]) | (rw [if_neg (by omega), if_neg (by omega), if_neg (by omega), if_neg (by omega), if_pos (by omega)]) | (rw [if_neg (by omega), if_neg (by omega), if_neg (by omega), if_neg (by omega), if_neg (by omega), if_pos (by omega)]) | (rw [if_neg (by omega), if_neg (by omega), if_neg (by omega), if_neg (by omega), if_neg (by omega), if_neg (by omega), if_pos (by omega)]) | (rw [if_neg (by omega), if_neg (by omega), if_neg (by omega), if_neg (by omega), if_neg (by omega), if_neg (by omega), if_neg (by omega)]), zA.rf g⟩)
  by_cases hs_1_2 : w = 2
  · refine zs_tsIn 54 rfl (by omega) (by omega) (off := 53) (by rw [hs_1_2]; rfl) (by omega) ?_
    refine zs_aload_n (j := 0) (i := 0) rfl rfl rfl ?_
    refine zs_getfield (f := 8) (k := 3) rfl rfl (trivial) ?_
    show ZVV _ _ _ _ _ (ZI (g 8 0 3) :: _) _
    exact zs_ireturn rfl rfl (⟨by unfold mTold; first | (rw [if_pos (by omega)]) | (rw [if_neg (by omega), if_pos (by omega)]) | (rw [if_neg (by omega), if_neg (by omega), if_pos (by omega)]) | (rw [if_neg (by omega), if_neg (by omega), if_neg (by omega), if_pos (by omega)]) | (rw [if_neg (by omega), if_neg (by omega), if_neg (by omega), if_neg (by omega), if_pos (by omega)]) | (rw [if_neg (by omega), if_neg (by omega), if_neg (by omega), if_neg (by omega), if_neg (by omega), if_pos (by omega)]) | (rw [if_neg (by omega), if_neg (by omega), if_neg (by omega), if_neg (by omega), if_neg (by omega), if_neg (by omega), if_pos (by omega)]) | (rw [if_neg (by omega), if_neg (by omega), if_neg (by omega), if_neg (by omega), if_neg (by omega), if_neg (by omega), if_neg (by omega)]), zA.rf g⟩)
  by_cases hs_1_3 : w = 3
  · refine zs_tsIn 59 rfl (by omega) (by omega) (off := 58) (by rw [hs_1_3]; rfl) (by omega) ?_
    refine zs_aload_n (j := 0) (i := 0) rfl rfl rfl ?_
    refine zs_iconst (n := 1) rfl ⟨by omega, by omega⟩ ?_
    refine zs_callV (host := "") rfl kX8_303 vX8_pairs (c_X8_pairs1) [ZI 1] [] rfl (zroom_of (by omega)) rfl (Nat.le_of_ble_eq_true rfl) ⟨rfl, hp.1, hp.2.1⟩ (fun r_61 g_61 hq_61 => ?_)
    obtain ⟨hr_61, hg_61⟩ := hq_61
    rw [hr_61, hg_61, mPrs_like hp.2.1]
    show ZVV _ _ _ 64 _ [ZI (tlp (mT g))] g
    exact zs_ireturn rfl rfl (⟨by unfold mTold; first | (rw [if_pos (by omega)]) | (rw [if_neg (by omega), if_pos (by omega)]) | (rw [if_neg (by omega), if_neg (by omega), if_pos (by omega)]) | (rw [if_neg (by omega), if_neg (by omega), if_neg (by omega), if_pos (by omega)]) | (rw [if_neg (by omega), if_neg (by omega), if_neg (by omega), if_neg (by omega), if_pos (by omega)]) | (rw [if_neg (by omega), if_neg (by omega), if_neg (by omega), if_neg (by omega), if_neg (by omega), if_pos (by omega)]) | (rw [if_neg (by omega), if_neg (by omega), if_neg (by omega), if_neg (by omega), if_neg (by omega), if_neg (by omega), if_pos (by omega)]) | (rw [if_neg (by omega), if_neg (by omega), if_neg (by omega), if_neg (by omega), if_neg (by omega), if_neg (by omega), if_neg (by omega)]), zA.rf g⟩)
  by_cases hs_1_4 : w = 4
  · refine zs_tsIn 65 rfl (by omega) (by omega) (off := 64) (by rw [hs_1_4]; rfl) (by omega) ?_
    refine zs_aload_n (j := 0) (i := 0) rfl rfl rfl ?_
    refine zs_iconst (n := 0) rfl ⟨by omega, by omega⟩ ?_
    refine zs_callV (host := "") rfl kX8_303 vX8_pairs (c_X8_pairs0) [ZI 0] [] rfl (zroom_of (by omega)) rfl (Nat.le_of_ble_eq_true rfl) ⟨rfl, hp.1, hp.2.1⟩ (fun r_67 g_67 hq_67 => ?_)
    obtain ⟨hr_67, hg_67⟩ := hq_67
    rw [hr_67, hg_67, mPrs_all hp.2.1]
    show ZVV _ _ _ 70 _ [ZI (zap (g 8 0 0) (g 8 0 1) (g 8 0 2) (g 33 0))] g
    exact zs_ireturn rfl rfl (⟨by unfold mTold; first | (rw [if_pos (by omega)]) | (rw [if_neg (by omega), if_pos (by omega)]) | (rw [if_neg (by omega), if_neg (by omega), if_pos (by omega)]) | (rw [if_neg (by omega), if_neg (by omega), if_neg (by omega), if_pos (by omega)]) | (rw [if_neg (by omega), if_neg (by omega), if_neg (by omega), if_neg (by omega), if_pos (by omega)]) | (rw [if_neg (by omega), if_neg (by omega), if_neg (by omega), if_neg (by omega), if_neg (by omega), if_pos (by omega)]) | (rw [if_neg (by omega), if_neg (by omega), if_neg (by omega), if_neg (by omega), if_neg (by omega), if_neg (by omega), if_pos (by omega)]) | (rw [if_neg (by omega), if_neg (by omega), if_neg (by omega), if_neg (by omega), if_neg (by omega), if_neg (by omega), if_neg (by omega)]), zA.rf g⟩)
  by_cases hs_1_5 : w = 5
  · refine zs_tsIn 71 rfl (by omega) (by omega) (off := 70) (by rw [hs_1_5]; rfl) (by omega) ?_
    refine zs_aload_n (j := 0) (i := 0) rfl rfl rfl ?_
    refine zs_callV (host := "") rfl kX8_307 vX8_happy (c_X8_happy) [] [] rfl (zroom_of (by omega)) rfl (Nat.le_of_ble_eq_true rfl) ⟨rfl, hp.1, hp.2.1⟩ (fun r_72 g_72 hq_72 => ?_)
    obtain ⟨hr_72, hz1_72⟩ := hq_72
    rw [hr_72]
    have hz_72 := (show zP g g from (zP.rf g)).tr hz1_72
    have e8_72 : g_72 8 = g 8 := hz_72 8 (by decide)
    have e30_72 : g_72 30 = g 30 := hz_72 30 (by decide)
    have e31_72 : g_72 31 = g 31 := hz_72 31 (by decide)
    have e32_72 : g_72 32 = g 32 := hz_72 32 (by decide)
    have e33_72 : g_72 33 = g 33 := hz_72 33 (by decide)
    have e35_72 : g_72 35 = g 35 := hz_72 35 (by decide)
    have e36_72 : g_72 36 = g 36 := hz_72 36 (by decide)
    have e37_72 : g_72 37 = g 37 := hz_72 37 (by decide)
    have e38_72 : g_72 38 = g 38 := hz_72 38 (by decide)
    have e39_72 : g_72 39 = g 39 := hz_72 39 (by decide)
    have e40_72 : g_72 40 = g 40 := hz_72 40 (by decide)
    have e44_72 : g_72 44 = g 44 := hz_72 44 (by decide)
    show ZVV _ _ _ 75 _ [ZI ((tHap (mT g) : Nat) : Int)] g_72
    exact zs_ireturn rfl rfl (⟨by unfold mTold; first | (rw [if_pos (by omega)]) | (rw [if_neg (by omega), if_pos (by omega)]) | (rw [if_neg (by omega), if_neg (by omega), if_pos (by omega)]) | (rw [if_neg (by omega), if_neg (by omega), if_neg (by omega), if_pos (by omega)]) | (rw [if_neg (by omega), if_neg (by omega), if_neg (by omega), if_neg (by omega), if_pos (by omega)]) | (rw [if_neg (by omega), if_neg (by omega), if_neg (by omega), if_neg (by omega), if_neg (by omega), if_pos (by omega)]) | (rw [if_neg (by omega), if_neg (by omega), if_neg (by omega), if_neg (by omega), if_neg (by omega), if_neg (by omega), if_pos (by omega)]) | (rw [if_neg (by omega), if_neg (by omega), if_neg (by omega), if_neg (by omega), if_neg (by omega), if_neg (by omega), if_neg (by omega)]), hz_72.a⟩)
  by_cases hs_1_6 : w = 6
  · refine zs_tsIn 76 rfl (by omega) (by omega) (off := 75) (by rw [hs_1_6]; rfl) (by omega) ?_
    refine zs_aload_n (j := 0) (i := 0) rfl rfl rfl ?_
    refine zs_callV (host := "") rfl kX8_268 vX8_freeOnes (c_X8_freeOnes) [] [] rfl (zroom_of (by omega)) rfl (Nat.le_of_ble_eq_true rfl) ⟨rfl, hp.1.1, hp.1.2.2.1⟩ (fun r_77 g_77 hq_77 => ?_)
    obtain ⟨hr_77, hg_77⟩ := hq_77
    rw [hr_77, hg_77]
    show ZVV _ _ _ 80 _ [ZI ((zfree (g 8 0 0) (g 8 0 2) (g 33 0) : Nat) : Int)] g
    exact zs_ireturn rfl rfl (⟨by unfold mTold; first | (rw [if_pos (by omega)]) | (rw [if_neg (by omega), if_pos (by omega)]) | (rw [if_neg (by omega), if_neg (by omega), if_pos (by omega)]) | (rw [if_neg (by omega), if_neg (by omega), if_neg (by omega), if_pos (by omega)]) | (rw [if_neg (by omega), if_neg (by omega), if_neg (by omega), if_neg (by omega), if_pos (by omega)]) | (rw [if_neg (by omega), if_neg (by omega), if_neg (by omega), if_neg (by omega), if_neg (by omega), if_pos (by omega)]) | (rw [if_neg (by omega), if_neg (by omega), if_neg (by omega), if_neg (by omega), if_neg (by omega), if_neg (by omega), if_pos (by omega)]) | (rw [if_neg (by omega), if_neg (by omega), if_neg (by omega), if_neg (by omega), if_neg (by omega), if_neg (by omega), if_neg (by omega)]), zA.rf g⟩)
  refine zs_tsOut 81 rfl (by omega) (by omega) ?_
  refine zs_iconst (n := (-1)) rfl ⟨by omega, by omega⟩ ?_
  exact zs_ireturn rfl rfl (⟨by unfold mTold; first | (rw [if_pos (by omega)]) | (rw [if_neg (by omega), if_pos (by omega)]) | (rw [if_neg (by omega), if_neg (by omega), if_pos (by omega)]) | (rw [if_neg (by omega), if_neg (by omega), if_neg (by omega), if_pos (by omega)]) | (rw [if_neg (by omega), if_neg (by omega), if_neg (by omega), if_neg (by omega), if_pos (by omega)]) | (rw [if_neg (by omega), if_neg (by omega), if_neg (by omega), if_neg (by omega), if_neg (by omega), if_pos (by omega)]) | (rw [if_neg (by omega), if_neg (by omega), if_neg (by omega), if_neg (by omega), if_neg (by omega), if_neg (by omega), if_pos (by omega)]) | (rw [if_neg (by omega), if_neg (by omega), if_neg (by omega), if_neg (by omega), if_neg (by omega), if_neg (by omega), if_neg (by omega)]), zA.rf g⟩)

theorem c_X8_of (p w : Int) : ZC mX8_of 10 (fun av g => av = [ZR 8 0, ZI p, ZI w] ∧ MPI g) (fun _ g r g' => r = some (ZI (mOf g p w)) ∧ zA g g') := by
  refine zc_of gX8_of (fun av g hp => by obtain ⟨rfl, -⟩ := hp; exact Nat.le_of_ble_eq_true rfl) (fun Y av g hwf hrg hp hok => ?_)
  obtain ⟨rfl, hp⟩ := hp
  show ZVV _ _ _ 0 [ZR 8 0, ZI p, ZI w, ZX 99] [] _
  obtain ⟨hm, hh, h3, h26⟩ := hp
  have hn8 := hm.1
  have hn6 := hm.2.2.1
  refine zs_aload_n (j := 0) (i := 0) rfl rfl rfl ?_
  refine zs_iload_n (j := 1) (i := 1) rfl rfl rfl ?_
  refine zs_callV (host := "") rfl kX8_186 vX8_isPerson (c_X8_isPerson p) [ZI p] [] rfl (zroom_of (by omega)) rfl (Nat.le_of_ble_eq_true rfl) (⟨rfl, by omega⟩) (fun r_2 g_2 hq_2 => ?_)
  obtain ⟨hr_2, hg_2⟩ := hq_2
  rw [hr_2, hg_2]
  show ZVV _ _ _ 5 _ [ZI (if 0 ≤ p ∧ p < g 8 0 2 then 1 else 0)] _
  refine zs_if_ne 12 rfl (by omega) (fun hc_5 => ?_) (fun hc_5 => ?_)
  · have hpp : 0 ≤ p ∧ p < g 8 0 2 := by omega
    have hhp := hh p.toNat (by omega)
    have hhp2 := (hm.2.2.2.2.2.2 p.toNat (by omega)).1.2
    refine zs_aload_n (j := 0) (i := 0) rfl rfl rfl ?_
    refine zs_iload_n (j := 1) (i := 1) rfl rfl rfl ?_
    refine zs_aload_n (j := 0) (i := 0) rfl rfl rfl ?_
    refine zs_getfield (f := 8) (k := 7) rfl rfl (trivial) ?_
    show ZVV _ _ _ _ _ (ZR 33 0 :: _) _
    refine zs_iload_n (j := 1) (i := 1) rfl rfl rfl ?_
    refine zs_iald (n := 6) rfl rfl (by omega) (by omega) ?_
    refine zs_iconst (n := 0) rfl ⟨by omega, by omega⟩ ?_
    show ZVV _ _ _ 21 _ _ _
    refine zs_callV (host := "") rfl kX8_251 vX8_beside (c_X8_beside0 p (g 33 0 p.toNat)) [ZI p, ZI (g 33 0 p.toNat), ZI 0] [] rfl (zroom_of (by omega)) rfl (Nat.le_of_ble_eq_true rfl) ⟨rfl, hm, ⟨by omega, by omega⟩, ⟨by omega, by omega⟩⟩ (fun r_21 g_21 hq_21 => ?_)
    obtain ⟨hr_21, hg_21⟩ := hq_21
    rw [hr_21, hg_21]
    show ZVV _ _ _ 24 _ [ZI (tBes (mT g) p.toNat (g 33 0 p.toNat))] g
    refine zs_istore_n (j := 3) (i := 3) rfl rfl (by decide) (by intro r x hr; have hr2 : r = 2 := (by omega); subst hr2; intro z; cases z) ?_
    show ZVV _ _ _ _ [ZR 8 0, ZI p, ZI w, ZI (tBes (mT g) p.toNat (g 33 0 p.toNat))] _ _
    refine zs_iload_n (j := 2) (i := 2) rfl rfl rfl ?_
    by_cases hs_26_0 : w = 0
    · refine zs_tsIn 76 rfl (by omega) (by omega) (off := 50) (by rw [hs_26_0]; rfl) (by omega) ?_
      refine zs_aload_n (j := 0) (i := 0) rfl rfl rfl ?_
      refine zs_getfield (f := 8) (k := 4) rfl rfl (trivial) ?_
      show ZVV _ _ _ _ _ (ZR 30 0 :: _) _
      refine zs_iload_n (j := 1) (i := 1) rfl rfl rfl ?_
      refine zs_iald (n := 6) rfl rfl (by omega) (by omega) ?_
      exact zs_ireturn rfl rfl (⟨by unfold mOf; rw [if_neg (by omega), if_pos (by omega)], zA.rf g⟩)
    by_cases hs_26_1 : w = 1
    · refine zs_tsIn 83 rfl (by omega) (by omega) (off := 57) (by rw [hs_26_1]; rfl) (by omega) ?_
      refine zs_aload_n (j := 0) (i := 0) rfl rfl rfl ?_
      refine zs_getfield (f := 8) (k := 5) rfl rfl (trivial) ?_
      show ZVV _ _ _ _ _ (ZR 31 0 :: _) _
      refine zs_iload_n (j := 1) (i := 1) rfl rfl rfl ?_
      refine zs_iald (n := 6) rfl rfl (by omega) (by omega) ?_
      exact zs_ireturn rfl rfl (⟨by unfold mOf; rw [if_neg (by omega), if_neg (by omega), if_pos (by omega)], zA.rf g⟩)
    by_cases hs_26_2 : w = 2
    · refine zs_tsIn 90 rfl (by omega) (by omega) (off := 64) (by rw [hs_26_2]; rfl) (by omega) ?_
      refine zs_aload_n (j := 0) (i := 0) rfl rfl rfl ?_
      refine zs_getfield (f := 8) (k := 6) rfl rfl (trivial) ?_
      show ZVV _ _ _ _ _ (ZR 32 0 :: _) _
      refine zs_iload_n (j := 1) (i := 1) rfl rfl rfl ?_
      refine zs_iald (n := 6) rfl rfl (by omega) (by omega) ?_
      exact zs_ireturn rfl rfl (⟨by unfold mOf; rw [if_neg (by omega), if_neg (by omega), if_neg (by omega), if_pos (by omega)], zA.rf g⟩)
    by_cases hs_26_3 : w = 3
    · refine zs_tsIn 97 rfl (by omega) (by omega) (off := 71) (by rw [hs_26_3]; rfl) (by omega) ?_
      refine zs_aload_n (j := 0) (i := 0) rfl rfl rfl ?_
      refine zs_getfield (f := 8) (k := 7) rfl rfl (trivial) ?_
      show ZVV _ _ _ _ _ (ZR 33 0 :: _) _
      refine zs_iload_n (j := 1) (i := 1) rfl rfl rfl ?_
      refine zs_iald (n := 6) rfl rfl (by omega) (by omega) ?_
      exact zs_ireturn rfl rfl (⟨by unfold mOf; rw [if_neg (by omega), if_neg (by omega), if_neg (by omega), if_neg (by omega), if_pos (by omega)], zA.rf g⟩)
    by_cases hs_26_4 : w = 4
    · refine zs_tsIn 104 rfl (by omega) (by omega) (off := 78) (by rw [hs_26_4]; rfl) (by omega) ?_
      refine zs_aload_n (j := 0) (i := 0) rfl rfl rfl ?_
      refine zs_iload_n (j := 1) (i := 1) rfl rfl rfl ?_
      refine zs_aload_n (j := 0) (i := 0) rfl rfl rfl ?_
      refine zs_getfield (f := 8) (k := 7) rfl rfl (trivial) ?_
      show ZVV _ _ _ _ _ (ZR 33 0 :: _) _
      refine zs_iload_n (j := 1) (i := 1) rfl rfl rfl ?_
      refine zs_iald (n := 6) rfl rfl (by omega) (by omega) ?_
      refine zs_iload_n (j := 3) (i := 3) rfl rfl rfl ?_
      show ZVV _ _ _ 113 _ _ _
      refine zs_callV (host := "") rfl kX8_255 vX8_wishOf (c_X8_wishOf p (g 33 0 p.toNat) (tBes (mT g) p.toNat (g 33 0 p.toNat))) [ZI p, ZI (g 33 0 p.toNat), ZI (tBes (mT g) p.toNat (g 33 0 p.toNat))] [] rfl (zroom_of (by omega)) rfl (Nat.le_of_ble_eq_true rfl) ⟨rfl, hm, ⟨by omega, by omega⟩⟩ (fun r_113 g_113 hq_113 => ?_)
      obtain ⟨hr_113, hz1_113⟩ := hq_113
      rw [hr_113, mT_wt g hpp.1, if_neg (show ¬ 0 ≤ g 8 0 26 by omega)]
      have hz_113 := (show zP g g from (zP.rf g)).tr hz1_113
      have e8_113 : g_113 8 = g 8 := hz_113 8 (by decide)
      have e30_113 : g_113 30 = g 30 := hz_113 30 (by decide)
      have e31_113 : g_113 31 = g 31 := hz_113 31 (by decide)
      have e32_113 : g_113 32 = g 32 := hz_113 32 (by decide)
      have e33_113 : g_113 33 = g 33 := hz_113 33 (by decide)
      have e35_113 : g_113 35 = g 35 := hz_113 35 (by decide)
      have e36_113 : g_113 36 = g 36 := hz_113 36 (by decide)
      have e37_113 : g_113 37 = g 37 := hz_113 37 (by decide)
      have e38_113 : g_113 38 = g 38 := hz_113 38 (by decide)
      have e39_113 : g_113 39 = g 39 := hz_113 39 (by decide)
      have e40_113 : g_113 40 = g 40 := hz_113 40 (by decide)
      have e44_113 : g_113 44 = g 44 := hz_113 44 (by decide)
      show ZVV _ _ _ 116 _ [ZI ((tWt (mT g) p.toNat (g 33 0 p.toNat)).1)] g_113
      exact zs_ireturn rfl rfl (⟨by unfold mOf; rw [if_neg (by omega), if_neg (by omega), if_neg (by omega), if_neg (by omega), if_neg (by omega), if_pos (by omega)], hz_113.a⟩)
    by_cases hs_26_5 : w = 5
    · refine zs_tsIn 117 rfl (by omega) (by omega) (off := 91) (by rw [hs_26_5]; rfl) (by omega) ?_
      refine zs_aload_n (j := 0) (i := 0) rfl rfl rfl ?_
      refine zs_iload_n (j := 1) (i := 1) rfl rfl rfl ?_
      refine zs_aload_n (j := 0) (i := 0) rfl rfl rfl ?_
      refine zs_getfield (f := 8) (k := 7) rfl rfl (trivial) ?_
      show ZVV _ _ _ _ _ (ZR 33 0 :: _) _
      refine zs_iload_n (j := 1) (i := 1) rfl rfl rfl ?_
      refine zs_iald (n := 6) rfl rfl (by omega) (by omega) ?_
      refine zs_iload_n (j := 3) (i := 3) rfl rfl rfl ?_
      show ZVV _ _ _ 126 _ _ _
      refine zs_callV (host := "") rfl kX8_259 vX8_mostOf (c_X8_mostOf p (g 33 0 p.toNat) (tBes (mT g) p.toNat (g 33 0 p.toNat))) [ZI p, ZI (g 33 0 p.toNat), ZI (tBes (mT g) p.toNat (g 33 0 p.toNat))] [] rfl (zroom_of (by omega)) rfl (Nat.le_of_ble_eq_true rfl) ⟨rfl, hm, ⟨by omega, by omega⟩⟩ (fun r_126 g_126 hq_126 => ?_)
      obtain ⟨hr_126, hz1_126⟩ := hq_126
      rw [hr_126, mT_wt g hpp.1]
      have hz_126 := (show zP g g from (zP.rf g)).tr hz1_126
      have e8_126 : g_126 8 = g 8 := hz_126 8 (by decide)
      have e30_126 : g_126 30 = g 30 := hz_126 30 (by decide)
      have e31_126 : g_126 31 = g 31 := hz_126 31 (by decide)
      have e32_126 : g_126 32 = g 32 := hz_126 32 (by decide)
      have e33_126 : g_126 33 = g 33 := hz_126 33 (by decide)
      have e35_126 : g_126 35 = g 35 := hz_126 35 (by decide)
      have e36_126 : g_126 36 = g 36 := hz_126 36 (by decide)
      have e37_126 : g_126 37 = g 37 := hz_126 37 (by decide)
      have e38_126 : g_126 38 = g 38 := hz_126 38 (by decide)
      have e39_126 : g_126 39 = g 39 := hz_126 39 (by decide)
      have e40_126 : g_126 40 = g 40 := hz_126 40 (by decide)
      have e44_126 : g_126 44 = g 44 := hz_126 44 (by decide)
      show ZVV _ _ _ 129 _ [ZI ((tWt (mT g) p.toNat (g 33 0 p.toNat)).2.1)] g_126
      exact zs_ireturn rfl rfl (⟨by unfold mOf; rw [if_neg (by omega), if_neg (by omega), if_neg (by omega), if_neg (by omega), if_neg (by omega), if_neg (by omega), if_pos (by omega)], hz_126.a⟩)
    by_cases hs_26_6 : w = 6
    · refine zs_tsIn 130 rfl (by omega) (by omega) (off := 104) (by rw [hs_26_6]; rfl) (by omega) ?_
      refine zs_aload_n (j := 0) (i := 0) rfl rfl rfl ?_
      refine zs_iconst (n := 2) rfl ⟨by omega, by omega⟩ ?_
      refine zs_iload_n (j := 1) (i := 1) rfl rfl rfl ?_
      refine zs_aload_n (j := 0) (i := 0) rfl rfl rfl ?_
      refine zs_getfield (f := 8) (k := 7) rfl rfl (trivial) ?_
      show ZVV _ _ _ _ _ (ZR 33 0 :: _) _
      refine zs_iload_n (j := 1) (i := 1) rfl rfl rfl ?_
      refine zs_iald (n := 6) rfl rfl (by omega) (by omega) ?_
      show ZVV _ _ _ 139 _ _ _
      refine zs_iload_n (j := 3) (i := 3) rfl rfl rfl ?_
      refine zs_callV (host := "") rfl kX8_248 vX8_sumOf (c_X8_sumOf 2 p (g 33 0 p.toNat) (tBes (mT g) p.toNat (g 33 0 p.toNat))) [ZI 2, ZI p, ZI (g 33 0 p.toNat), ZI (tBes (mT g) p.toNat (g 33 0 p.toNat))] [] rfl (zroom_of (by omega)) rfl (Nat.le_of_ble_eq_true rfl) ⟨rfl, hm, ⟨by omega, by omega⟩⟩ (fun r_140 g_140 hq_140 => ?_)
      obtain ⟨hr_140, hz1_140⟩ := hq_140
      rw [hr_140, show mWs g 2 (zfa p (g 32 0 p.toNat) (g 30 0 p.toNat) (g 33 0 p.toNat) (tBes (mT g) p.toNat (g 33 0 p.toNat)) (g 8 0 3 % 60)) = (tWt (mT g) p.toNat (g 33 0 p.toNat)).2.2 from by rw [← mT_wt g hpp.1]; rfl]
      have hz_140 := (show zP g g from (zP.rf g)).tr hz1_140
      have e8_140 : g_140 8 = g 8 := hz_140 8 (by decide)
      have e30_140 : g_140 30 = g 30 := hz_140 30 (by decide)
      have e31_140 : g_140 31 = g 31 := hz_140 31 (by decide)
      have e32_140 : g_140 32 = g 32 := hz_140 32 (by decide)
      have e33_140 : g_140 33 = g 33 := hz_140 33 (by decide)
      have e35_140 : g_140 35 = g 35 := hz_140 35 (by decide)
      have e36_140 : g_140 36 = g 36 := hz_140 36 (by decide)
      have e37_140 : g_140 37 = g 37 := hz_140 37 (by decide)
      have e38_140 : g_140 38 = g 38 := hz_140 38 (by decide)
      have e39_140 : g_140 39 = g 39 := hz_140 39 (by decide)
      have e40_140 : g_140 40 = g 40 := hz_140 40 (by decide)
      have e44_140 : g_140 44 = g 44 := hz_140 44 (by decide)
      show ZVV _ _ _ 143 _ [ZI ((tWt (mT g) p.toNat (g 33 0 p.toNat)).2.2)] g_140
      exact zs_ireturn rfl rfl (⟨by unfold mOf; rw [if_neg (by omega), if_neg (by omega), if_neg (by omega), if_neg (by omega), if_neg (by omega), if_neg (by omega), if_neg (by omega), if_pos (by omega)], hz_140.a⟩)
    by_cases hs_26_7 : w = 7
    · refine zs_tsIn 144 rfl (by omega) (by omega) (off := 118) (by rw [hs_26_7]; rfl) (by omega) ?_
      refine zs_aload_n (j := 0) (i := 0) rfl rfl rfl ?_
      refine zs_iload_n (j := 1) (i := 1) rfl rfl rfl ?_
      refine zs_callV (host := "") rfl kX8_265 vX8_isContent (c_X8_isContent p) [ZI p] [] rfl (zroom_of (by omega)) rfl (Nat.le_of_ble_eq_true rfl) ⟨rfl, hm, hpp, hhp⟩ (fun r_146 g_146 hq_146 => ?_)
      obtain ⟨hr_146, hz1_146⟩ := hq_146
      rw [hr_146]
      have hz_146 := (show zP g g from (zP.rf g)).tr hz1_146
      have e8_146 : g_146 8 = g 8 := hz_146 8 (by decide)
      have e30_146 : g_146 30 = g 30 := hz_146 30 (by decide)
      have e31_146 : g_146 31 = g 31 := hz_146 31 (by decide)
      have e32_146 : g_146 32 = g 32 := hz_146 32 (by decide)
      have e33_146 : g_146 33 = g 33 := hz_146 33 (by decide)
      have e35_146 : g_146 35 = g 35 := hz_146 35 (by decide)
      have e36_146 : g_146 36 = g 36 := hz_146 36 (by decide)
      have e37_146 : g_146 37 = g 37 := hz_146 37 (by decide)
      have e38_146 : g_146 38 = g 38 := hz_146 38 (by decide)
      have e39_146 : g_146 39 = g 39 := hz_146 39 (by decide)
      have e40_146 : g_146 40 = g 40 := hz_146 40 (by decide)
      have e44_146 : g_146 44 = g 44 := hz_146 44 (by decide)
      show ZVV _ _ _ 149 _ [ZI (if tSu (mT g) p.toNat (g 33 0 p.toNat) = true then 1 else 0)] g_146
      refine zs_if_eq 156 rfl (by omega) (fun hc_149 => ?_) (fun hc_149 => ?_)
      · refine zs_iconst (n := 0) rfl ⟨by omega, by omega⟩ ?_
        exact zs_ireturn rfl rfl (⟨by unfold mOf; rw [if_neg (by omega), if_neg (by omega), if_neg (by omega), if_neg (by omega), if_neg (by omega), if_neg (by omega), if_neg (by omega), if_neg (by omega), if_pos (by omega)]; rw [if_neg (zif0 hc_149)], hz_146.a⟩)
      · refine zs_iconst (n := 1) rfl ⟨by omega, by omega⟩ ?_
        refine zs_goto 157 rfl (by omega) ?_
        exact zs_ireturn rfl rfl (⟨by unfold mOf; rw [if_neg (by omega), if_neg (by omega), if_neg (by omega), if_neg (by omega), if_neg (by omega), if_neg (by omega), if_neg (by omega), if_neg (by omega), if_pos (by omega)]; rw [if_pos (zif1 hc_149)], hz_146.a⟩)
    by_cases hs_26_8 : w = 8
    · refine zs_tsIn 158 rfl (by omega) (by omega) (off := 132) (by rw [hs_26_8]; rfl) (by omega) ?_
      refine zs_aload_n (j := 0) (i := 0) rfl rfl rfl ?_
      refine zs_iload_n (j := 1) (i := 1) rfl rfl rfl ?_
      refine zs_callV (host := "") rfl kX8_265 vX8_isContent (c_X8_isContent p) [ZI p] [] rfl (zroom_of (by omega)) rfl (Nat.le_of_ble_eq_true rfl) ⟨rfl, hm, hpp, hhp⟩ (fun r_160 g_160 hq_160 => ?_)
      obtain ⟨hr_160, hz1_160⟩ := hq_160
      rw [hr_160]
      have hz_160 := (show zP g g from (zP.rf g)).tr hz1_160
      have e8_160 : g_160 8 = g 8 := hz_160 8 (by decide)
      have e30_160 : g_160 30 = g 30 := hz_160 30 (by decide)
      have e31_160 : g_160 31 = g 31 := hz_160 31 (by decide)
      have e32_160 : g_160 32 = g 32 := hz_160 32 (by decide)
      have e33_160 : g_160 33 = g 33 := hz_160 33 (by decide)
      have e35_160 : g_160 35 = g 35 := hz_160 35 (by decide)
      have e36_160 : g_160 36 = g 36 := hz_160 36 (by decide)
      have e37_160 : g_160 37 = g 37 := hz_160 37 (by decide)
      have e38_160 : g_160 38 = g 38 := hz_160 38 (by decide)
      have e39_160 : g_160 39 = g 39 := hz_160 39 (by decide)
      have e40_160 : g_160 40 = g 40 := hz_160 40 (by decide)
      have e44_160 : g_160 44 = g 44 := hz_160 44 (by decide)
      show ZVV _ _ _ 163 _ [ZI (if tSu (mT g) p.toNat (g 33 0 p.toNat) = true then 1 else 0)] g_160
      refine zs_if_eq 171 rfl (by omega) (fun hc_163 => ?_) (fun hc_163 => ?_)
      · refine zs_aload_n (j := 0) (i := 0) rfl rfl rfl ?_
        refine zs_iload_n (j := 1) (i := 1) rfl rfl rfl ?_
        refine zs_callV (host := "") rfl kX8_300 vX8_goesTo (c_X8_goesTo p) [ZI p] [] rfl (zroom_of (by omega)) rfl (Nat.le_of_ble_eq_true rfl) ⟨rfl, hm.z hz_160, hh.z hz_160, ⟨hpp.1, by rw [hz_160 8 (by decide)]; exact hpp.2⟩⟩ (fun r_173 g_173 hq_173 => ?_)
        obtain ⟨hr_173, hz1_173⟩ := hq_173
        rw [hr_173, mT_z hz_160]
        have hz_173 := (show zP g g_160 from hz_160).tr hz1_173
        have e8_173 : g_173 8 = g 8 := hz_173 8 (by decide)
        have e30_173 : g_173 30 = g 30 := hz_173 30 (by decide)
        have e31_173 : g_173 31 = g 31 := hz_173 31 (by decide)
        have e32_173 : g_173 32 = g 32 := hz_173 32 (by decide)
        have e33_173 : g_173 33 = g 33 := hz_173 33 (by decide)
        have e35_173 : g_173 35 = g 35 := hz_173 35 (by decide)
        have e36_173 : g_173 36 = g 36 := hz_173 36 (by decide)
        have e37_173 : g_173 37 = g 37 := hz_173 37 (by decide)
        have e38_173 : g_173 38 = g 38 := hz_173 38 (by decide)
        have e39_173 : g_173 39 = g 39 := hz_173 39 (by decide)
        have e40_173 : g_173 40 = g 40 := hz_173 40 (by decide)
        have e44_173 : g_173 44 = g 44 := hz_173 44 (by decide)
        show ZVV _ _ _ 176 _ [ZI (tGoes (mT g) p.toNat)] g_173
        exact zs_ireturn rfl rfl (⟨by unfold mOf; rw [if_neg (by omega), if_neg (by omega), if_neg (by omega), if_neg (by omega), if_neg (by omega), if_neg (by omega), if_neg (by omega), if_neg (by omega), if_neg (by omega), if_pos (by omega)]; rw [if_neg (zif0 hc_163)], hz_173.a⟩)
      · refine zs_bipush (n := (-5)) rfl ⟨by omega, by omega⟩ ?_
        refine zs_goto 176 rfl (by omega) ?_
        exact zs_ireturn rfl rfl (⟨by unfold mOf; rw [if_neg (by omega), if_neg (by omega), if_neg (by omega), if_neg (by omega), if_neg (by omega), if_neg (by omega), if_neg (by omega), if_neg (by omega), if_neg (by omega), if_pos (by omega)]; rw [if_pos (zif1 hc_163)], hz_160.a⟩)
    refine zs_tsOut 177 rfl (by omega) (by omega) ?_
    refine zs_sipush (n := (-10001)) rfl ⟨by omega, by omega⟩ ?_
    exact zs_ireturn rfl rfl (⟨by unfold mOf; rw [if_neg (by omega), if_neg (by omega), if_neg (by omega), if_neg (by omega), if_neg (by omega), if_neg (by omega), if_neg (by omega), if_neg (by omega), if_neg (by omega), if_neg (by omega)], zA.rf g⟩)
  · refine zs_sipush (n := (-10001)) rfl ⟨by omega, by omega⟩ ?_
    exact zs_ireturn rfl rfl (⟨by unfold mOf; rw [if_pos (by omega)], zA.rf g⟩)

theorem c_X8_move  : ZC mX8_move 11 (fun av g => av = [ZR 8 0] ∧ MPI g) (fun _ g r g' => (g 8 0 3 = 9999 ∧ r = some (ZI (-3)) ∧ g' = g) ∨ (g 8 0 3 < 9999 ∧ r = some (ZI (tStep (mT g)).1) ∧ mT g' = (tStep (mT g)).2 ∧ zGM g g' ∧ MOK g' ∧ MHH g' ∧ g' 8 0 3 ≤ g 8 0 3 + 1)) := by
  refine zc_of gX8_move (fun av g hp => by obtain ⟨rfl, -⟩ := hp; exact Nat.le_of_ble_eq_true rfl) (fun Y av g hwf hrg hp hok => ?_)
  obtain ⟨rfl, hp⟩ := hp
  show ZVV _ _ _ 0 [ZR 8 0] [] _
  obtain ⟨hm, hh, h3, h26⟩ := hp
  refine zs_aload_n (j := 0) (i := 0) rfl rfl rfl ?_
  refine zs_getfield (f := 8) (k := 3) rfl rfl (trivial) ?_
  show ZVV _ _ _ _ _ (ZI (g 8 0 3) :: _) _
  refine zs_sipush (n := 9999) rfl ⟨by omega, by omega⟩ ?_
  refine zs_icmp_ne 15 rfl (by omega) (fun hc_7 => ?_) (fun hc_7 => ?_)
  · refine zs_aload_n (j := 0) (i := 0) rfl rfl rfl ?_
    refine zs_callV (host := "") rfl kX8_310 vX8_goMove c_X8_goMove [] [] rfl (zroom_of (by omega)) rfl (Nat.le_of_ble_eq_true rfl) ⟨rfl, hm, hh, (by omega)⟩ (fun r_16 g_16 hq_16 => ?_)
    obtain ⟨hr_16, hT_16, hGM_16, hM_16, hH_16, hs_16⟩ := hq_16
    rw [hr_16]
    show ZVV _ _ _ 19 _ [ZI ((tStep (mT g)).1)] g_16
    exact zs_ireturn rfl rfl (Or.inr ⟨by omega, rfl, hT_16, hGM_16, hM_16, hH_16, hs_16⟩)
  · refine zs_bipush (n := (-3)) rfl ⟨by omega, by omega⟩ ?_
    refine zs_goto 19 rfl (by omega) ?_
    exact zs_ireturn rfl rfl (Or.inl ⟨by omega, rfl, rfl⟩)

theorem tRun_le : ∀ (n k : Nat) (t : ZT), k ≤ (tRun n k t).1 ∧ (tRun n k t).1 ≤ k + n := by
  intro n
  induction n with
  | zero => intro k t; exact ⟨Nat.le_refl _, Nat.le_refl _⟩
  | succ n ih =>
    intro k t
    unfold tRun
    split
    · exact ⟨Nat.le_refl _, Nat.le_add_right _ _⟩
    · have := ih (k + 1) (tStep t).2; omega
theorem tRest_run : ∀ (n k : Nat) (t : ZT), tRest n k t = if ((tRun n k t).1 : Int) < k + n then ((tRun n k t).1 : Int) else -5 := by
  intro n
  induction n with
  | zero => intro k t; rw [if_neg (show ¬ ((tRun 0 k t).1 : Int) < k + (0 : Nat) from by show ¬ ((k : Nat) : Int) < _; omega)]; rfl
  | succ n ih =>
    intro k t
    unfold tRest tRun
    by_cases h : (tStep t).1 < 0
    · rw [if_pos h, if_pos h, if_pos (show ((k : Nat) : Int) < k + (n + 1 : Nat) by omega)]
    · rw [if_neg h, if_neg h, ih]
      have e : ((k + 1 : Nat) : Int) + n = k + (n + 1 : Nat) := by omega
      rw [e]
theorem c_X8_rest  : ZC mX8_rest 12 (fun av g => av = [ZR 8 0] ∧ MPI g) (fun _ g r g' => r = some (ZI (tRest 101 0 (mT g))) ∧ zA g g') := by
  refine zc_of gX8_rest (fun av g hp => by obtain ⟨rfl, -⟩ := hp; exact Nat.le_of_ble_eq_true rfl) (fun Y av g hwf hrg hp hok => ?_)
  obtain ⟨rfl, hp⟩ := hp
  show ZVV _ _ _ 0 [ZR 8 0, ZX 99] [] _
  obtain ⟨hm, hh, h3, h26⟩ := hp
  have hn8 := hm.1
  have hn6 := hm.2.2.1
  have hle := tRun_le 101 0 (mT g)
  refine zs_aload_n (j := 0) (i := 0) rfl rfl rfl ?_
  refine zs_callV (host := "") rfl kX8_313 vX8_keep c_X8_keep [] [] rfl (zroom_of (by omega)) rfl (Nat.le_of_ble_eq_true rfl) ⟨rfl, trivial⟩ (fun r_1 g_1 hq_1 => ?_)
  obtain ⟨hr_1, hg_1⟩ := hq_1
  rw [hr_1]
  have hLM_1 : zLM g g_1 := by rw [hg_1]; exact zLM.start g
  have hM_1 : MOK g_1 := by rw [hg_1]; exact mkeep_ok hm
  have hH_1 : MHH g_1 := by rw [hg_1]; exact mkeep_hh hh
  have hT_1 : mT g_1 = mT g := by rw [hg_1]; exact mkeep_T g
  have h3_1 : g_1 8 0 3 = g 8 0 3 := by rw [hg_1]; exact mkeep_8 g 0 3 (by decide)
  show ZVV _ _ _ 4 _ [] g_1
  refine zs_aload_n (j := 0) (i := 0) rfl rfl rfl ?_
  refine zs_bipush (n := 101) rfl ⟨by omega, by omega⟩ ?_
  refine zs_callV (host := "") rfl kX8_316 vX8_goMoves (c_X8_goMoves 101) [ZI 101] [] rfl (zroom_of (by omega)) rfl (Nat.le_of_ble_eq_true rfl) ⟨rfl, hM_1, hH_1, by omega, by omega⟩ (fun r_7 g_7 hq_7 => ?_)
  obtain ⟨hr_7, hT_7, hGM_7, hM_7, hH_7, hs_7⟩ := hq_7
  rw [hr_7, hT_1]
  rw [hT_1] at hT_7
  have hLM_7 := (hLM_1).gm hGM_7
  show ZVV _ _ _ 10 _ [ZI (((tRun 101 0 (mT g)).1 : Nat) : Int)] g_7
  refine zs_istore_n (j := 1) (i := 1) rfl rfl (by decide) (by intro r x hr; have hr2 : r = 0 := (by omega); subst hr2; intro z; cases z) ?_
  show ZVV _ _ _ _ [ZR 8 0, ZI (((tRun 101 0 (mT g)).1 : Nat) : Int)] _ _
  refine zs_aload_n (j := 0) (i := 0) rfl rfl rfl ?_
  show ZVV _ _ _ 12 _ _ _
  refine zs_callV (host := "") rfl kX8_319 vX8_putBack c_X8_putBack [] [] rfl (zroom_of (by omega)) rfl (Nat.le_of_ble_eq_true rfl) ⟨rfl, trivial⟩ (fun r_12 g_12 hq_12 => ?_)
  obtain ⟨hr_12, hg_12⟩ := hq_12
  rw [hr_12]
  have hA_12 : zA g g_12 := by rw [hg_12]; exact (hLM_7).back
  show ZVV _ _ _ 15 _ [] g_12
  refine zs_iload_n (j := 1) (i := 1) rfl rfl rfl ?_
  refine zs_bipush (n := 100) rfl ⟨by omega, by omega⟩ ?_
  refine zs_icmp_le 26 rfl (by omega) (fun hc_18 => ?_) (fun hc_18 => ?_)
  · refine zs_iload_n (j := 1) (i := 1) rfl rfl rfl ?_
    exact zs_ireturn rfl rfl (⟨by rw [tRest_run]; first | rw [if_pos (show (((tRun 101 0 (mT g)).1 : Nat) : Int) < (0 : Nat) + (101 : Nat) by omega)] | rw [if_neg (show ¬ (((tRun 101 0 (mT g)).1 : Nat) : Int) < (0 : Nat) + (101 : Nat) by omega)], hA_12⟩)
  · refine zs_bipush (n := (-5)) rfl ⟨by omega, by omega⟩ ?_
    refine zs_goto 27 rfl (by omega) ?_
    exact zs_ireturn rfl rfl (⟨by rw [tRest_run]; first | rw [if_pos (show (((tRun 101 0 (mT g)).1 : Nat) : Int) < (0 : Nat) + (101 : Nat) by omega)] | rw [if_neg (show ¬ (((tRun 101 0 (mT g)).1 : Nat) : Int) < (0 : Nat) + (101 : Nat) by omega)], hA_12⟩)

theorem same_k {g M : ZG} {t : ZT} (h : zLM g M) (hn : 0 ≤ g 8 0 2 ∧ g 8 0 2 ≤ 6) (ht : tnp t = g 8 0 2) : tSame t (M 44 0) = tSame t (g 33 0) := by
  unfold tSame
  rw [ht]
  exact congrArg (fun z => decide (z = -1)) (zfst_cong (fun j h1 h2 => by rw [h.2.2.2.1 j (by omega)]))
theorem l_X8_again {Y : ZW} {Q : Option ZV → ZG → Prop} {g : ZG} (hm : MOK g) (h3 : g 8 0 3 ≤ 9999) : ∀ (m k : Nat) (G : ZG), k + m = 101 → zLM g G → MOK G → MHH G → G 8 0 3 ≤ g 8 0 3 + k → (∀ M, zA g M → Q (some (ZI (tAgain (g 33 0) m k (mT G)))) M) → ZVV Y mX8_again (zcx Y 12 Q) 9 [ZR 8 0, ZI (-5), ZI (k : Int)] [] G := by
  have hn6 := hm.2.2.1
  intro m
  induction m with
  | zero =>
    intro k G hk hLM hM hH hs hq
    refine zs_iload_n (j := 2) (i := 2) rfl rfl rfl ?_
    refine zs_bipush (n := 101) rfl ⟨by omega, by omega⟩ ?_
    refine zs_icmp_ge 46 rfl (by omega) (fun hc_12 => ?_) (fun hc_12 => ?_)
    · refine zs_aload_n (j := 0) (i := 0) rfl rfl rfl ?_
      refine zs_callV (host := "") rfl kX8_319 vX8_putBack c_X8_putBack [] [] rfl (zroom_of (by omega)) rfl (Nat.le_of_ble_eq_true rfl) ⟨rfl, trivial⟩ (fun r_47 g_47 hq_47 => ?_)
      obtain ⟨hr_47, hg_47⟩ := hq_47
      rw [hr_47]
      have hA_47 : zA g g_47 := by rw [hg_47]; exact (hLM).back
      show ZVV _ _ _ 50 _ [] g_47
      refine zs_iload_n (j := 1) (i := 1) rfl rfl rfl ?_
      exact zs_ireturn rfl rfl (hq _ hA_47)
    · exfalso; omega
  | succ m ih =>
    intro k G hk hLM hM hH hs hq
    refine zs_iload_n (j := 2) (i := 2) rfl rfl rfl ?_
    refine zs_bipush (n := 101) rfl ⟨by omega, by omega⟩ ?_
    refine zs_icmp_ge 46 rfl (by omega) (fun hc_12 => ?_) (fun hc_12 => ?_)
    · exfalso; omega
    · refine zs_iload_n (j := 1) (i := 1) rfl rfl rfl ?_
      refine zs_if_ge 46 rfl (by omega) (fun hc_16 => ?_) (fun hc_16 => ?_)
      · exfalso; omega
      · refine zs_aload_n (j := 0) (i := 0) rfl rfl rfl ?_
        refine zs_callV (host := "") rfl kX8_310 vX8_goMove c_X8_goMove [] [] rfl (zroom_of (by omega)) rfl (Nat.le_of_ble_eq_true rfl) ⟨rfl, hM, hH, (by omega)⟩ (fun r_20 g_20 hq_20 => ?_)
        obtain ⟨hr_20, hT_20, hGM_20, hM_20, hH_20, hs_20⟩ := hq_20
        rw [hr_20]
        show ZVV _ _ _ 23 _ [ZI ((tStep (mT G)).1)] g_20
        refine zs_if_lt 46 rfl (by omega) (fun hc_23 => ?_) (fun hc_23 => ?_)
        · refine zs_aload_n (j := 0) (i := 0) rfl rfl rfl ?_
          refine zs_callV (host := "") rfl kX8_319 vX8_putBack c_X8_putBack [] [] rfl (zroom_of (by omega)) rfl (Nat.le_of_ble_eq_true rfl) ⟨rfl, trivial⟩ (fun r_47 g_47 hq_47 => ?_)
          obtain ⟨hr_47, hg_47⟩ := hq_47
          rw [hr_47]
          have hA_47 : zA g g_47 := by rw [hg_47]; exact (hLM.gm hGM_20).back
          show ZVV _ _ _ 50 _ [] g_47
          refine zs_iload_n (j := 1) (i := 1) rfl rfl rfl ?_
          exact zs_ireturn rfl rfl (by have hx := hq _ hA_47; rw [show tAgain (g 33 0) (m + 1) k (mT G) = -5 from if_pos (by omega)] at hx; exact hx)
        · refine zs_aload_n (j := 0) (i := 0) rfl rfl rfl ?_
          refine zs_callV (host := "") rfl kX8_322 vX8_areKept c_X8_areKept [] [] rfl (zroom_of (by omega)) rfl (Nat.le_of_ble_eq_true rfl) ⟨rfl, hM_20.2.2.1, trivial⟩ (fun r_27 g_27 hq_27 => ?_)
          obtain ⟨hr_27, hg_27⟩ := hq_27
          rw [hr_27, hg_27, hT_20, same_k (hLM.gm hGM_20) hn6 (show tnp (tStep (mT G)).2 = g 8 0 2 from by rw [← hT_20]; exact (hLM.gm hGM_20).2.1 0 2 (by decide))]
          show ZVV _ _ _ 30 _ [ZI (if tSame (tStep (mT G)).2 (g 33 0) = true then 1 else 0)] g_20
          refine zs_if_eq 37 rfl (by omega) (fun hc_30 => ?_) (fun hc_30 => ?_)
          · refine zs_bipush (n := (-5)) rfl ⟨by omega, by omega⟩ ?_
            refine zs_istore_n (j := 1) (i := 1) rfl rfl (by decide) (by intro r x hr; have hr2 : r = 0 := (by omega); subst hr2; intro z; cases z) ?_
            show ZVV _ _ _ _ [ZR 8 0, ZI (-5), ZI (k : Int)] _ _
            refine zs_iinc_r (i := 2) rfl rfl (by intro r x hr; have hr2 : r = 1 := (by omega); subst hr2; intro z; cases z) ⟨by omega, by omega⟩ ?_
            show ZVV _ _ _ _ [ZR 8 0, ZI (-5), ZI ((k : Int) + 1)] _ _
            refine zs_goto 9 rfl (by omega) ?_
            refine ih (k + 1) g_20 (by omega) (hLM.gm hGM_20) hM_20 hH_20 (by omega) (fun M hM => ?_)
            have hx := hq M hM
            rw [show tAgain (g 33 0) (m + 1) k (mT G) = tAgain (g 33 0) m (k + 1) (tStep (mT G)).2 from (if_neg (by omega)).trans (if_neg (zif0 hc_30)), ← hT_20] at hx
            exact hx
          · refine zs_iload_n (j := 2) (i := 2) rfl rfl rfl ?_
            refine zs_goto 39 rfl (by omega) ?_
            refine zs_istore_n (j := 1) (i := 1) rfl rfl (by decide) (by intro r x hr; have hr2 : r = 0 := (by omega); subst hr2; intro z; cases z) ?_
            show ZVV _ _ _ _ [ZR 8 0, ZI (k : Int), ZI (k : Int)] _ _
            refine zs_iinc_r (i := 2) rfl rfl (by intro r x hr; have hr2 : r = 1 := (by omega); subst hr2; intro z; cases z) ⟨by omega, by omega⟩ ?_
            show ZVV _ _ _ _ [ZR 8 0, ZI (k : Int), ZI ((k : Int) + 1)] _ _
            refine zs_goto 9 rfl (by omega) ?_
            refine zs_iload_n (j := 2) (i := 2) rfl rfl rfl ?_
            refine zs_bipush (n := 101) rfl ⟨by omega, by omega⟩ ?_
            refine zs_icmp_ge 46 rfl (by omega) (fun hc_12 => ?_) (fun hc_12 => ?_)
            · refine zs_aload_n (j := 0) (i := 0) rfl rfl rfl ?_
              refine zs_callV (host := "") rfl kX8_319 vX8_putBack c_X8_putBack [] [] rfl (zroom_of (by omega)) rfl (Nat.le_of_ble_eq_true rfl) ⟨rfl, trivial⟩ (fun r_47 g_47 hq_47 => ?_)
              obtain ⟨hr_47, hg_47⟩ := hq_47
              rw [hr_47]
              have hA_47 : zA g g_47 := by rw [hg_47]; exact (hLM.gm hGM_20).back
              show ZVV _ _ _ 50 _ [] g_47
              refine zs_iload_n (j := 1) (i := 1) rfl rfl rfl ?_
              exact zs_ireturn rfl rfl (by have hx := hq g_47 hA_47; rw [show tAgain (g 33 0) (m + 1) k (mT G) = (k : Int) from (if_neg (by omega)).trans (if_pos (zif1 hc_30))] at hx; exact hx)
            · refine zs_iload_n (j := 1) (i := 1) rfl rfl rfl ?_
              refine zs_if_ge 46 rfl (by omega) (fun hc_16 => ?_) (fun hc_16 => ?_)
              · refine zs_aload_n (j := 0) (i := 0) rfl rfl rfl ?_
                refine zs_callV (host := "") rfl kX8_319 vX8_putBack c_X8_putBack [] [] rfl (zroom_of (by omega)) rfl (Nat.le_of_ble_eq_true rfl) ⟨rfl, trivial⟩ (fun r_47 g_47 hq_47 => ?_)
                obtain ⟨hr_47, hg_47⟩ := hq_47
                rw [hr_47]
                have hA_47 : zA g g_47 := by rw [hg_47]; exact (hLM.gm hGM_20).back
                show ZVV _ _ _ 50 _ [] g_47
                refine zs_iload_n (j := 1) (i := 1) rfl rfl rfl ?_
                exact zs_ireturn rfl rfl (by have hx := hq g_47 hA_47; rw [show tAgain (g 33 0) (m + 1) k (mT G) = (k : Int) from (if_neg (by omega)).trans (if_pos (zif1 hc_30))] at hx; exact hx)
              · exfalso; omega
theorem c_X8_again  : ZC mX8_again 12 (fun av g => av = [ZR 8 0] ∧ MPI g) (fun _ g r g' => r = some (ZI (tAgain (g 33 0) 100 1 (mT g))) ∧ zA g g') := by
  refine zc_of gX8_again (fun av g hp => by obtain ⟨rfl, -⟩ := hp; exact Nat.le_of_ble_eq_true rfl) (fun Y av g hwf hrg hp hok => ?_)
  obtain ⟨rfl, hp⟩ := hp
  show ZVV _ _ _ 0 [ZR 8 0, ZX 99, ZX 99] [] _
  obtain ⟨hm, hh, h3, h26⟩ := hp
  have hn8 := hm.1
  have hn6 := hm.2.2.1
  refine zs_aload_n (j := 0) (i := 0) rfl rfl rfl ?_
  refine zs_callV (host := "") rfl kX8_313 vX8_keep c_X8_keep [] [] rfl (zroom_of (by omega)) rfl (Nat.le_of_ble_eq_true rfl) ⟨rfl, trivial⟩ (fun r_1 g_1 hq_1 => ?_)
  obtain ⟨hr_1, hg_1⟩ := hq_1
  rw [hr_1]
  have hLM_1 : zLM g g_1 := by rw [hg_1]; exact zLM.start g
  have hM_1 : MOK g_1 := by rw [hg_1]; exact mkeep_ok hm
  have hH_1 : MHH g_1 := by rw [hg_1]; exact mkeep_hh hh
  have hT_1 : mT g_1 = mT g := by rw [hg_1]; exact mkeep_T g
  have h3_1 : g_1 8 0 3 = g 8 0 3 := by rw [hg_1]; exact mkeep_8 g 0 3 (by decide)
  show ZVV _ _ _ 4 _ [] g_1
  refine zs_bipush (n := (-5)) rfl ⟨by omega, by omega⟩ ?_
  refine zs_istore_n (j := 1) (i := 1) rfl rfl (by decide) (by intro r x hr; have hr2 : r = 0 := (by omega); subst hr2; intro z; cases z) ?_
  show ZVV _ _ _ _ [ZR 8 0, ZI (-5), ZX 99] _ _
  refine zs_iconst (n := 1) rfl ⟨by omega, by omega⟩ ?_
  refine zs_istore_n (j := 2) (i := 2) rfl rfl (by decide) (by intro r x hr; have hr2 : r = 1 := (by omega); subst hr2; intro z; cases z) ?_
  show ZVV _ _ _ _ [ZR 8 0, ZI (-5), ZI 1] _ _
  exact l_X8_again hm h3 100 1 g_1 rfl hLM_1 hM_1 hH_1 (by omega) (fun M hA => ⟨by rw [hT_1], hA⟩)

theorem l_X8_looked {Y : ZW} {Q : Option ZV → ZG → Prop} {g : ZG} (hm : MOK g) (h3 : g 8 0 3 ≤ 9999) (hb : 0 ≤ g 8 0 32 ∧ g 8 0 32 ≤ 12) : ∀ (m k : Nat) (G : ZG), (k : Int) + m = g 8 0 32 → zLM g G → MOK G → MHH G → G 8 0 3 ≤ g 8 0 3 + k → (∀ M, zA g M → Q (some (ZI (tLook (g 46 0) m k (mT G)))) M) → ZVV Y mX8_looked (zcx Y 12 Q) 9 [ZR 8 0, ZI (-5), ZI (k : Int)] [] G := by
  intro m
  induction m with
  | zero =>
    intro k G hk hLM hM hH hs hq
    refine zs_iload_n (j := 2) (i := 2) rfl rfl rfl ?_
    refine zs_aload_n (j := 0) (i := 0) rfl rfl rfl ?_
    refine zs_getfield (f := 8) (k := 32) rfl rfl (trivial) ?_
    show ZVV _ _ _ _ _ (ZI (G 8 0 32) :: _) _
    rw [show G 8 0 32 = g 8 0 32 from hLM.2.1 0 32 (by decide)]
    refine zs_icmp_ge 47 rfl (by omega) (fun hc_14 => ?_) (fun hc_14 => ?_)
    · refine zs_aload_n (j := 0) (i := 0) rfl rfl rfl ?_
      refine zs_callV (host := "") rfl kX8_319 vX8_putBack c_X8_putBack [] [] rfl (zroom_of (by omega)) rfl (Nat.le_of_ble_eq_true rfl) ⟨rfl, trivial⟩ (fun r_48 g_48 hq_48 => ?_)
      obtain ⟨hr_48, hg_48⟩ := hq_48
      rw [hr_48]
      have hA_48 : zA g g_48 := by rw [hg_48]; exact (hLM).back
      show ZVV _ _ _ 51 _ [] g_48
      refine zs_iload_n (j := 1) (i := 1) rfl rfl rfl ?_
      exact zs_ireturn rfl rfl (hq _ hA_48)
    · exfalso; omega
  | succ m ih =>
    intro k G hk hLM hM hH hs hq
    refine zs_iload_n (j := 2) (i := 2) rfl rfl rfl ?_
    refine zs_aload_n (j := 0) (i := 0) rfl rfl rfl ?_
    refine zs_getfield (f := 8) (k := 32) rfl rfl (trivial) ?_
    show ZVV _ _ _ _ _ (ZI (G 8 0 32) :: _) _
    rw [show G 8 0 32 = g 8 0 32 from hLM.2.1 0 32 (by decide)]
    refine zs_icmp_ge 47 rfl (by omega) (fun hc_14 => ?_) (fun hc_14 => ?_)
    · exfalso; omega
    · refine zs_iload_n (j := 1) (i := 1) rfl rfl rfl ?_
      refine zs_if_ge 47 rfl (by omega) (fun hc_18 => ?_) (fun hc_18 => ?_)
      · exfalso; omega
      · refine zs_aload_n (j := 0) (i := 0) rfl rfl rfl ?_
        refine zs_callV (host := "") rfl kX8_310 vX8_goMove c_X8_goMove [] [] rfl (zroom_of (by omega)) rfl (Nat.le_of_ble_eq_true rfl) ⟨rfl, hM, hH, (by omega)⟩ (fun r_22 g_22 hq_22 => ?_)
        obtain ⟨hr_22, hT_22, hGM_22, hM_22, hH_22, hs_22⟩ := hq_22
        rw [hr_22]
        show ZVV _ _ _ 25 _ [ZI ((tStep (mT G)).1)] g_22
        refine zs_aload_n (j := 0) (i := 0) rfl rfl rfl ?_
        refine zs_getfield (f := 8) (k := 33) rfl rfl (trivial) ?_
        show ZVV _ _ _ _ _ (ZR 46 0 :: _) _
        refine zs_iload_n (j := 2) (i := 2) rfl rfl rfl ?_
        refine zs_iald (n := 12) rfl rfl (by omega) (by omega) ?_
        show ZVV _ _ _ _ _ (ZI (g_22 46 0 k) :: _) _
        rw [show g_22 46 0 k = g 46 0 k from congrFun (congrFun ((hLM.gm hGM_22).1 46 (by decide) (by decide) (by decide) (by decide) (by decide)) 0) k]
        refine zs_icmp_ne 39 rfl (by omega) (fun hc_31 => ?_) (fun hc_31 => ?_)
        · refine zs_iload_n (j := 2) (i := 2) rfl rfl rfl ?_
          refine zs_istore_n (j := 1) (i := 1) rfl rfl (by decide) (by intro r x hr; have hr2 : r = 0 := (by omega); subst hr2; intro z; cases z) ?_
          show ZVV _ _ _ _ [ZR 8 0, ZI (k : Int), ZI (k : Int)] _ _
          refine zs_iinc_r (i := 2) rfl rfl (by intro r x hr; have hr2 : r = 1 := (by omega); subst hr2; intro z; cases z) ⟨by omega, by omega⟩ ?_
          show ZVV _ _ _ _ [ZR 8 0, ZI (k : Int), ZI ((k : Int) + 1)] _ _
          refine zs_goto 9 rfl (by omega) ?_
          refine zs_iload_n (j := 2) (i := 2) rfl rfl rfl ?_
          refine zs_aload_n (j := 0) (i := 0) rfl rfl rfl ?_
          refine zs_getfield (f := 8) (k := 32) rfl rfl (trivial) ?_
          show ZVV _ _ _ _ _ (ZI (g_22 8 0 32) :: _) _
          rw [show g_22 8 0 32 = g 8 0 32 from (hLM.gm hGM_22).2.1 0 32 (by decide)]
          refine zs_icmp_ge 47 rfl (by omega) (fun hc_14 => ?_) (fun hc_14 => ?_)
          · refine zs_aload_n (j := 0) (i := 0) rfl rfl rfl ?_
            refine zs_callV (host := "") rfl kX8_319 vX8_putBack c_X8_putBack [] [] rfl (zroom_of (by omega)) rfl (Nat.le_of_ble_eq_true rfl) ⟨rfl, trivial⟩ (fun r_48 g_48 hq_48 => ?_)
            obtain ⟨hr_48, hg_48⟩ := hq_48
            rw [hr_48]
            have hA_48 : zA g g_48 := by rw [hg_48]; exact (hLM.gm hGM_22).back
            show ZVV _ _ _ 51 _ [] g_48
            refine zs_iload_n (j := 1) (i := 1) rfl rfl rfl ?_
            exact zs_ireturn rfl rfl (by have hx := hq g_48 hA_48; rw [show tLook (g 46 0) (m + 1) k (mT G) = (k : Int) from if_pos hc_31] at hx; exact hx)
          · refine zs_iload_n (j := 1) (i := 1) rfl rfl rfl ?_
            refine zs_if_ge 47 rfl (by omega) (fun hc_18 => ?_) (fun hc_18 => ?_)
            · refine zs_aload_n (j := 0) (i := 0) rfl rfl rfl ?_
              refine zs_callV (host := "") rfl kX8_319 vX8_putBack c_X8_putBack [] [] rfl (zroom_of (by omega)) rfl (Nat.le_of_ble_eq_true rfl) ⟨rfl, trivial⟩ (fun r_48 g_48 hq_48 => ?_)
              obtain ⟨hr_48, hg_48⟩ := hq_48
              rw [hr_48]
              have hA_48 : zA g g_48 := by rw [hg_48]; exact (hLM.gm hGM_22).back
              show ZVV _ _ _ 51 _ [] g_48
              refine zs_iload_n (j := 1) (i := 1) rfl rfl rfl ?_
              exact zs_ireturn rfl rfl (by have hx := hq g_48 hA_48; rw [show tLook (g 46 0) (m + 1) k (mT G) = (k : Int) from if_pos hc_31] at hx; exact hx)
            · exfalso; omega
        · refine zs_bipush (n := (-5)) rfl ⟨by omega, by omega⟩ ?_
          refine zs_goto 40 rfl (by omega) ?_
          refine zs_istore_n (j := 1) (i := 1) rfl rfl (by decide) (by intro r x hr; have hr2 : r = 0 := (by omega); subst hr2; intro z; cases z) ?_
          show ZVV _ _ _ _ [ZR 8 0, ZI (-5), ZI (k : Int)] _ _
          refine zs_iinc_r (i := 2) rfl rfl (by intro r x hr; have hr2 : r = 1 := (by omega); subst hr2; intro z; cases z) ⟨by omega, by omega⟩ ?_
          show ZVV _ _ _ _ [ZR 8 0, ZI (-5), ZI ((k : Int) + 1)] _ _
          refine zs_goto 9 rfl (by omega) ?_
          refine ih (k + 1) g_22 (by omega) (hLM.gm hGM_22) hM_22 hH_22 (by omega) (fun M hM => ?_)
          have hx := hq M hM
          rw [show tLook (g 46 0) (m + 1) k (mT G) = tLook (g 46 0) m (k + 1) (tStep (mT G)).2 from if_neg (fun z => z (Classical.not_not.mp hc_31)), ← hT_22] at hx
          exact hx
theorem c_X8_looked  : ZC mX8_looked 12 (fun av g => av = [ZR 8 0] ∧ MPI g ∧ (0 ≤ g 8 0 32 ∧ g 8 0 32 ≤ 12)) (fun _ g r g' => r = some (ZI (tLook (g 46 0) (g 8 0 32).toNat 0 (mT g))) ∧ zA g g') := by
  refine zc_of gX8_looked (fun av g hp => by obtain ⟨rfl, -⟩ := hp; exact Nat.le_of_ble_eq_true rfl) (fun Y av g hwf hrg hp hok => ?_)
  obtain ⟨rfl, hp⟩ := hp
  show ZVV _ _ _ 0 [ZR 8 0, ZX 99, ZX 99] [] _
  obtain ⟨⟨hm, hh, h3, h26⟩, hb⟩ := hp
  refine zs_aload_n (j := 0) (i := 0) rfl rfl rfl ?_
  refine zs_callV (host := "") rfl kX8_313 vX8_keep c_X8_keep [] [] rfl (zroom_of (by omega)) rfl (Nat.le_of_ble_eq_true rfl) ⟨rfl, trivial⟩ (fun r_1 g_1 hq_1 => ?_)
  obtain ⟨hr_1, hg_1⟩ := hq_1
  rw [hr_1]
  have hLM_1 : zLM g g_1 := by rw [hg_1]; exact zLM.start g
  have hM_1 : MOK g_1 := by rw [hg_1]; exact mkeep_ok hm
  have hH_1 : MHH g_1 := by rw [hg_1]; exact mkeep_hh hh
  have hT_1 : mT g_1 = mT g := by rw [hg_1]; exact mkeep_T g
  have h3_1 : g_1 8 0 3 = g 8 0 3 := by rw [hg_1]; exact mkeep_8 g 0 3 (by decide)
  show ZVV _ _ _ 4 _ [] g_1
  refine zs_bipush (n := (-5)) rfl ⟨by omega, by omega⟩ ?_
  refine zs_istore_n (j := 1) (i := 1) rfl rfl (by decide) (by intro r x hr; have hr2 : r = 0 := (by omega); subst hr2; intro z; cases z) ?_
  show ZVV _ _ _ _ [ZR 8 0, ZI (-5), ZX 99] _ _
  refine zs_iconst (n := 0) rfl ⟨by omega, by omega⟩ ?_
  refine zs_istore_n (j := 2) (i := 2) rfl rfl (by decide) (by intro r x hr; have hr2 : r = 1 := (by omega); subst hr2; intro z; cases z) ?_
  show ZVV _ _ _ _ [ZR 8 0, ZI (-5), ZI 0] _ _
  exact l_X8_looked hm h3 hb (g 8 0 32).toNat 0 g_1 (by omega) hLM_1 hM_1 hH_1 (by omega) (fun M hA => ⟨by rw [hT_1], hA⟩)

def mRun (g : ZG) (n w : Int) : Int := if (w < 0 ∨ 2 < w) ∧ ¬ (10 ≤ w ∧ w - 10 < g 8 0 2) then -10001 else if n < 0 ∨ 100 < n then -10002 else if w = 0 then ((tRun n.toNat 0 (mT g)).1 : Int) else if w = 1 then tlp (tRun n.toNat 0 (mT g)).2 else if w = 2 then (tHap (tRun n.toNat 0 (mT g)).2 : Nat) else tho (tRun n.toNat 0 (mT g)).2 (w - 10).toNat
theorem c_X8_run (n w : Int) : ZC mX8_run 12 (fun av g => av = [ZR 8 0, ZI n, ZI w] ∧ MPI g) (fun _ g r g' => r = some (ZI (mRun g n w)) ∧ zA g g') := by
  refine zc_of gX8_run (fun av g hp => by obtain ⟨rfl, -⟩ := hp; exact Nat.le_of_ble_eq_true rfl) (fun Y av g hwf hrg hp hok => ?_)
  obtain ⟨rfl, hp⟩ := hp
  show ZVV _ _ _ 0 [ZR 8 0, ZI n, ZI w, ZX 99, ZX 99] [] _
  obtain ⟨hm, hh, h3, h26⟩ := hp
  have hn8 := hm.1
  have hn6 := hm.2.2.1
  refine zs_aload_n (j := 0) (i := 0) rfl rfl rfl ?_
  refine zs_iload_n (j := 2) (i := 2) rfl rfl rfl ?_
  refine zs_iconst (n := 0) rfl ⟨by omega, by omega⟩ ?_
  refine zs_iconst (n := 2) rfl ⟨by omega, by omega⟩ ?_
  refine zs_callV (host := "") rfl kX8_170 vX8_in (c_X8_in w 0 2) [ZI w, ZI 0, ZI 2] [] rfl (zroom_of (by omega)) rfl (Nat.le_of_ble_eq_true rfl) (⟨rfl, trivial⟩) (fun r_4 g_4 hq_4 => ?_)
  obtain ⟨hr_4, hg_4⟩ := hq_4
  rw [hr_4, hg_4]
  show ZVV _ _ _ 7 _ [ZI (if 0 ≤ w ∧ w ≤ 2 then 1 else 0)] _
  refine zs_if_ne 31 rfl (by omega) (fun hc_7 => ?_) (fun hc_7 => ?_)
  · refine zs_aload_n (j := 0) (i := 0) rfl rfl rfl ?_
    refine zs_iload_n (j := 1) (i := 1) rfl rfl rfl ?_
    refine zs_iconst (n := 0) rfl ⟨by omega, by omega⟩ ?_
    refine zs_bipush (n := 100) rfl ⟨by omega, by omega⟩ ?_
    refine zs_callV (host := "") rfl kX8_170 vX8_in (c_X8_in n 0 100) [ZI n, ZI 0, ZI 100] [] rfl (zroom_of (by omega)) rfl (Nat.le_of_ble_eq_true rfl) (⟨rfl, trivial⟩) (fun r_36 g_36 hq_36 => ?_)
    obtain ⟨hr_36, hg_36⟩ := hq_36
    rw [hr_36, hg_36]
    show ZVV _ _ _ 39 _ [ZI (if 0 ≤ n ∧ n ≤ 100 then 1 else 0)] _
    refine zs_if_ne 46 rfl (by omega) (fun hc_39 => ?_) (fun hc_39 => ?_)
    · refine zs_aload_n (j := 0) (i := 0) rfl rfl rfl ?_
      refine zs_callV (host := "") rfl kX8_313 vX8_keep c_X8_keep [] [] rfl (zroom_of (by omega)) rfl (Nat.le_of_ble_eq_true rfl) ⟨rfl, trivial⟩ (fun r_47 g_47 hq_47 => ?_)
      obtain ⟨hr_47, hg_47⟩ := hq_47
      rw [hr_47]
      have hLM_47 : zLM g g_47 := by rw [hg_47]; exact zLM.start g
      have hM_47 : MOK g_47 := by rw [hg_47]; exact mkeep_ok hm
      have hH_47 : MHH g_47 := by rw [hg_47]; exact mkeep_hh hh
      have hT_47 : mT g_47 = mT g := by rw [hg_47]; exact mkeep_T g
      have h3_47 : g_47 8 0 3 = g 8 0 3 := by rw [hg_47]; exact mkeep_8 g 0 3 (by decide)
      show ZVV _ _ _ 50 _ [] g_47
      refine zs_aload_n (j := 0) (i := 0) rfl rfl rfl ?_
      refine zs_iload_n (j := 1) (i := 1) rfl rfl rfl ?_
      refine zs_callV (host := "") rfl kX8_316 vX8_goMoves (c_X8_goMoves n.toNat) [ZI n] [] rfl (zroom_of (by omega)) rfl (Nat.le_of_ble_eq_true rfl) ⟨by rw [Int.toNat_of_nonneg (by omega)], hM_47, hH_47, by omega, by omega⟩ (fun r_52 g_52 hq_52 => ?_)
      obtain ⟨hr_52, hT_52, hGM_52, hM_52, hH_52, hs_52⟩ := hq_52
      rw [hr_52, hT_47]
      rw [hT_47] at hT_52
      have hLM_52 := (hLM_47).gm hGM_52
      show ZVV _ _ _ 55 _ [ZI (((tRun n.toNat 0 (mT g)).1 : Nat) : Int)] g_52
      refine zs_istore_n (j := 3) (i := 3) rfl rfl (by decide) (by intro r x hr; have hr2 : r = 2 := (by omega); subst hr2; intro z; cases z) ?_
      show ZVV _ _ _ _ [ZR 8 0, ZI n, ZI w, ZI (((tRun n.toNat 0 (mT g)).1 : Nat) : Int), ZX 99] _ _
      refine zs_iload_n (j := 2) (i := 2) rfl rfl rfl ?_
      show ZVV _ _ _ 57 _ _ _
      refine zs_if_ne 64 rfl (by omega) (fun hc_57 => ?_) (fun hc_57 => ?_)
      · refine zs_iload_n (j := 2) (i := 2) rfl rfl rfl ?_
        refine zs_iconst (n := 1) rfl ⟨by omega, by omega⟩ ?_
        refine zs_icmp_ne 77 rfl (by omega) (fun hc_66 => ?_) (fun hc_66 => ?_)
        · refine zs_iload_n (j := 2) (i := 2) rfl rfl rfl ?_
          refine zs_iconst (n := 2) rfl ⟨by omega, by omega⟩ ?_
          refine zs_icmp_ne 89 rfl (by omega) (fun hc_79 => ?_) (fun hc_79 => ?_)
          · refine zs_aload_n (j := 0) (i := 0) rfl rfl rfl ?_
            refine zs_getfield (f := 8) (k := 7) rfl rfl (trivial) ?_
            show ZVV _ _ _ _ _ (ZR 33 0 :: _) _
            refine zs_iload_n (j := 2) (i := 2) rfl rfl rfl ?_
            refine zs_bipush (n := 10) rfl ⟨by omega, by omega⟩ ?_
            refine zs_isub_r rfl ⟨by omega, by omega⟩ ?_
            refine zs_iald (n := 6) rfl rfl (by omega) (by omega) ?_
            rw [show g_52 33 0 (w - 10).toNat = tho (tRun n.toNat 0 (mT g)).2 (w - 10).toNat from by rw [← hT_52]; rfl]
            refine zs_istore (i := 4) rfl (by decide) (by intro r x hr; have hr2 : r = 3 := (by omega); subst hr2; intro z; cases z) ?_
            show ZVV _ _ _ _ [ZR 8 0, ZI n, ZI w, ZI (((tRun n.toNat 0 (mT g)).1 : Nat) : Int), ZI (tho (tRun n.toNat 0 (mT g)).2 (w - 10).toNat)] _ _
            show ZVV _ _ _ 100 _ _ _
            refine zs_aload_n (j := 0) (i := 0) rfl rfl rfl ?_
            refine zs_callV (host := "") rfl kX8_319 vX8_putBack c_X8_putBack [] [] rfl (zroom_of (by omega)) rfl (Nat.le_of_ble_eq_true rfl) ⟨rfl, trivial⟩ (fun r_101 g_101 hq_101 => ?_)
            obtain ⟨hr_101, hg_101⟩ := hq_101
            rw [hr_101]
            have hA_101 : zA g g_101 := by rw [hg_101]; exact (hLM_52).back
            show ZVV _ _ _ 104 _ [] g_101
            refine zs_iload (i := 4) rfl rfl ?_
            exact zs_ireturn rfl rfl (⟨by unfold mRun; rw [if_neg (by omega), if_neg (by omega), if_neg (by omega), if_neg (by omega), if_neg (by omega)], hA_101⟩)
          · refine zs_aload_n (j := 0) (i := 0) rfl rfl rfl ?_
            refine zs_callV (host := "") rfl kX8_307 vX8_happy c_X8_happy [] [] rfl (zroom_of (by omega)) rfl (Nat.le_of_ble_eq_true rfl) ⟨rfl, hM_52, hH_52⟩ (fun r_83 g_83 hq_83 => ?_)
            obtain ⟨hr_83, hz_83⟩ := hq_83
            rw [hr_83, hT_52]
            have hLM_83 := hLM_52.p hz_83
            show ZVV _ _ _ 86 _ [ZI ((tHap (tRun n.toNat 0 (mT g)).2 : Nat) : Int)] g_83
            refine zs_goto 98 rfl (by omega) ?_
            skip
            refine zs_istore (i := 4) rfl (by decide) (by intro r x hr; have hr2 : r = 3 := (by omega); subst hr2; intro z; cases z) ?_
            show ZVV _ _ _ _ [ZR 8 0, ZI n, ZI w, ZI (((tRun n.toNat 0 (mT g)).1 : Nat) : Int), ZI ((tHap (tRun n.toNat 0 (mT g)).2 : Nat) : Int)] _ _
            refine zs_aload_n (j := 0) (i := 0) rfl rfl rfl ?_
            refine zs_callV (host := "") rfl kX8_319 vX8_putBack c_X8_putBack [] [] rfl (zroom_of (by omega)) rfl (Nat.le_of_ble_eq_true rfl) ⟨rfl, trivial⟩ (fun r_101 g_101 hq_101 => ?_)
            obtain ⟨hr_101, hg_101⟩ := hq_101
            rw [hr_101]
            have hA_101 : zA g g_101 := by rw [hg_101]; exact (hLM_83).back
            show ZVV _ _ _ 104 _ [] g_101
            refine zs_iload (i := 4) rfl rfl ?_
            show ZVV _ _ _ 106 _ _ _
            exact zs_ireturn rfl rfl (⟨by unfold mRun; rw [if_neg (by omega), if_neg (by omega), if_neg (by omega), if_neg (by omega), if_pos (by omega)], hA_101⟩)
        · refine zs_aload_n (j := 0) (i := 0) rfl rfl rfl ?_
          refine zs_iconst (n := 1) rfl ⟨by omega, by omega⟩ ?_
          refine zs_callV (host := "") rfl kX8_303 vX8_pairs c_X8_pairs1 [ZI 1] [] rfl (zroom_of (by omega)) rfl (Nat.le_of_ble_eq_true rfl) ⟨rfl, hM_52, hH_52⟩ (fun r_71 g_71 hq_71 => ?_)
          obtain ⟨hr_71, hg_71⟩ := hq_71
          rw [hr_71, hg_71, mPrs_like hH_52, hT_52]
          show ZVV _ _ _ 74 _ [ZI (tlp (tRun n.toNat 0 (mT g)).2)] g_52
          refine zs_goto 98 rfl (by omega) ?_
          skip
          refine zs_istore (i := 4) rfl (by decide) (by intro r x hr; have hr2 : r = 3 := (by omega); subst hr2; intro z; cases z) ?_
          show ZVV _ _ _ _ [ZR 8 0, ZI n, ZI w, ZI (((tRun n.toNat 0 (mT g)).1 : Nat) : Int), ZI (tlp (tRun n.toNat 0 (mT g)).2)] _ _
          refine zs_aload_n (j := 0) (i := 0) rfl rfl rfl ?_
          refine zs_callV (host := "") rfl kX8_319 vX8_putBack c_X8_putBack [] [] rfl (zroom_of (by omega)) rfl (Nat.le_of_ble_eq_true rfl) ⟨rfl, trivial⟩ (fun r_101 g_101 hq_101 => ?_)
          obtain ⟨hr_101, hg_101⟩ := hq_101
          rw [hr_101]
          have hA_101 : zA g g_101 := by rw [hg_101]; exact (hLM_52).back
          show ZVV _ _ _ 104 _ [] g_101
          show ZVV _ _ _ 104 _ _ _
          refine zs_iload (i := 4) rfl rfl ?_
          exact zs_ireturn rfl rfl (⟨by unfold mRun; rw [if_neg (by omega), if_neg (by omega), if_neg (by omega), if_pos (by omega)], hA_101⟩)
      · refine zs_iload_n (j := 3) (i := 3) rfl rfl rfl ?_
        refine zs_goto 98 rfl (by omega) ?_
        skip
        refine zs_istore (i := 4) rfl (by decide) (by intro r x hr; have hr2 : r = 3 := (by omega); subst hr2; intro z; cases z) ?_
        show ZVV _ _ _ _ [ZR 8 0, ZI n, ZI w, ZI (((tRun n.toNat 0 (mT g)).1 : Nat) : Int), ZI (((tRun n.toNat 0 (mT g)).1 : Nat) : Int)] _ _
        refine zs_aload_n (j := 0) (i := 0) rfl rfl rfl ?_
        refine zs_callV (host := "") rfl kX8_319 vX8_putBack c_X8_putBack [] [] rfl (zroom_of (by omega)) rfl (Nat.le_of_ble_eq_true rfl) ⟨rfl, trivial⟩ (fun r_101 g_101 hq_101 => ?_)
        obtain ⟨hr_101, hg_101⟩ := hq_101
        rw [hr_101]
        have hA_101 : zA g g_101 := by rw [hg_101]; exact (hLM_52).back
        show ZVV _ _ _ 104 _ [] g_101
        refine zs_iload (i := 4) rfl rfl ?_
        exact zs_ireturn rfl rfl (⟨by unfold mRun; rw [if_neg (by omega), if_neg (by omega), if_pos (by omega)], hA_101⟩)
    · refine zs_sipush (n := (-10002)) rfl ⟨by omega, by omega⟩ ?_
      exact zs_ireturn rfl rfl (⟨by unfold mRun; rw [if_neg (by omega), if_pos (by omega)], zA.rf g⟩)
  · refine zs_aload_n (j := 0) (i := 0) rfl rfl rfl ?_
    refine zs_iload_n (j := 2) (i := 2) rfl rfl rfl ?_
    refine zs_bipush (n := 10) rfl ⟨by omega, by omega⟩ ?_
    refine zs_bipush (n := 9) rfl ⟨by omega, by omega⟩ ?_
    refine zs_aload_n (j := 0) (i := 0) rfl rfl rfl ?_
    refine zs_getfield (f := 8) (k := 2) rfl rfl (trivial) ?_
    show ZVV _ _ _ _ _ (ZI (g 8 0 2) :: _) _
    refine zs_iadd_r rfl ⟨by omega, by omega⟩ ?_
    show ZVV _ _ _ 21 _ _ _
    refine zs_callV (host := "") rfl kX8_170 vX8_in (c_X8_in w 10 (9 + (g 8 0 2))) [ZI w, ZI 10, ZI (9 + (g 8 0 2))] [] rfl (zroom_of (by omega)) rfl (Nat.le_of_ble_eq_true rfl) (⟨rfl, trivial⟩) (fun r_21 g_21 hq_21 => ?_)
    obtain ⟨hr_21, hg_21⟩ := hq_21
    rw [hr_21, hg_21]
    show ZVV _ _ _ 24 _ [ZI (if 10 ≤ w ∧ w ≤ 9 + (g 8 0 2) then 1 else 0)] _
    refine zs_if_ne 31 rfl (by omega) (fun hc_24 => ?_) (fun hc_24 => ?_)
    · refine zs_aload_n (j := 0) (i := 0) rfl rfl rfl ?_
      refine zs_iload_n (j := 1) (i := 1) rfl rfl rfl ?_
      refine zs_iconst (n := 0) rfl ⟨by omega, by omega⟩ ?_
      refine zs_bipush (n := 100) rfl ⟨by omega, by omega⟩ ?_
      refine zs_callV (host := "") rfl kX8_170 vX8_in (c_X8_in n 0 100) [ZI n, ZI 0, ZI 100] [] rfl (zroom_of (by omega)) rfl (Nat.le_of_ble_eq_true rfl) (⟨rfl, trivial⟩) (fun r_36 g_36 hq_36 => ?_)
      obtain ⟨hr_36, hg_36⟩ := hq_36
      rw [hr_36, hg_36]
      show ZVV _ _ _ 39 _ [ZI (if 0 ≤ n ∧ n ≤ 100 then 1 else 0)] _
      refine zs_if_ne 46 rfl (by omega) (fun hc_39 => ?_) (fun hc_39 => ?_)
      · refine zs_aload_n (j := 0) (i := 0) rfl rfl rfl ?_
        refine zs_callV (host := "") rfl kX8_313 vX8_keep c_X8_keep [] [] rfl (zroom_of (by omega)) rfl (Nat.le_of_ble_eq_true rfl) ⟨rfl, trivial⟩ (fun r_47 g_47 hq_47 => ?_)
        obtain ⟨hr_47, hg_47⟩ := hq_47
        rw [hr_47]
        have hLM_47 : zLM g g_47 := by rw [hg_47]; exact zLM.start g
        have hM_47 : MOK g_47 := by rw [hg_47]; exact mkeep_ok hm
        have hH_47 : MHH g_47 := by rw [hg_47]; exact mkeep_hh hh
        have hT_47 : mT g_47 = mT g := by rw [hg_47]; exact mkeep_T g
        have h3_47 : g_47 8 0 3 = g 8 0 3 := by rw [hg_47]; exact mkeep_8 g 0 3 (by decide)
        show ZVV _ _ _ 50 _ [] g_47
        refine zs_aload_n (j := 0) (i := 0) rfl rfl rfl ?_
        refine zs_iload_n (j := 1) (i := 1) rfl rfl rfl ?_
        refine zs_callV (host := "") rfl kX8_316 vX8_goMoves (c_X8_goMoves n.toNat) [ZI n] [] rfl (zroom_of (by omega)) rfl (Nat.le_of_ble_eq_true rfl) ⟨by rw [Int.toNat_of_nonneg (by omega)], hM_47, hH_47, by omega, by omega⟩ (fun r_52 g_52 hq_52 => ?_)
        obtain ⟨hr_52, hT_52, hGM_52, hM_52, hH_52, hs_52⟩ := hq_52
        rw [hr_52, hT_47]
        rw [hT_47] at hT_52
        have hLM_52 := (hLM_47).gm hGM_52
        show ZVV _ _ _ 55 _ [ZI (((tRun n.toNat 0 (mT g)).1 : Nat) : Int)] g_52
        refine zs_istore_n (j := 3) (i := 3) rfl rfl (by decide) (by intro r x hr; have hr2 : r = 2 := (by omega); subst hr2; intro z; cases z) ?_
        show ZVV _ _ _ _ [ZR 8 0, ZI n, ZI w, ZI (((tRun n.toNat 0 (mT g)).1 : Nat) : Int), ZX 99] _ _
        refine zs_iload_n (j := 2) (i := 2) rfl rfl rfl ?_
        show ZVV _ _ _ 57 _ _ _
        refine zs_if_ne 64 rfl (by omega) (fun hc_57 => ?_) (fun hc_57 => ?_)
        · refine zs_iload_n (j := 2) (i := 2) rfl rfl rfl ?_
          refine zs_iconst (n := 1) rfl ⟨by omega, by omega⟩ ?_
          refine zs_icmp_ne 77 rfl (by omega) (fun hc_66 => ?_) (fun hc_66 => ?_)
          · refine zs_iload_n (j := 2) (i := 2) rfl rfl rfl ?_
            refine zs_iconst (n := 2) rfl ⟨by omega, by omega⟩ ?_
            refine zs_icmp_ne 89 rfl (by omega) (fun hc_79 => ?_) (fun hc_79 => ?_)
            · refine zs_aload_n (j := 0) (i := 0) rfl rfl rfl ?_
              refine zs_getfield (f := 8) (k := 7) rfl rfl (trivial) ?_
              show ZVV _ _ _ _ _ (ZR 33 0 :: _) _
              refine zs_iload_n (j := 2) (i := 2) rfl rfl rfl ?_
              refine zs_bipush (n := 10) rfl ⟨by omega, by omega⟩ ?_
              refine zs_isub_r rfl ⟨by omega, by omega⟩ ?_
              refine zs_iald (n := 6) rfl rfl (by omega) (by omega) ?_
              rw [show g_52 33 0 (w - 10).toNat = tho (tRun n.toNat 0 (mT g)).2 (w - 10).toNat from by rw [← hT_52]; rfl]
              refine zs_istore (i := 4) rfl (by decide) (by intro r x hr; have hr2 : r = 3 := (by omega); subst hr2; intro z; cases z) ?_
              show ZVV _ _ _ _ [ZR 8 0, ZI n, ZI w, ZI (((tRun n.toNat 0 (mT g)).1 : Nat) : Int), ZI (tho (tRun n.toNat 0 (mT g)).2 (w - 10).toNat)] _ _
              show ZVV _ _ _ 100 _ _ _
              refine zs_aload_n (j := 0) (i := 0) rfl rfl rfl ?_
              refine zs_callV (host := "") rfl kX8_319 vX8_putBack c_X8_putBack [] [] rfl (zroom_of (by omega)) rfl (Nat.le_of_ble_eq_true rfl) ⟨rfl, trivial⟩ (fun r_101 g_101 hq_101 => ?_)
              obtain ⟨hr_101, hg_101⟩ := hq_101
              rw [hr_101]
              have hA_101 : zA g g_101 := by rw [hg_101]; exact (hLM_52).back
              show ZVV _ _ _ 104 _ [] g_101
              refine zs_iload (i := 4) rfl rfl ?_
              exact zs_ireturn rfl rfl (⟨by unfold mRun; rw [if_neg (by omega), if_neg (by omega), if_neg (by omega), if_neg (by omega), if_neg (by omega)], hA_101⟩)
            · refine zs_aload_n (j := 0) (i := 0) rfl rfl rfl ?_
              refine zs_callV (host := "") rfl kX8_307 vX8_happy c_X8_happy [] [] rfl (zroom_of (by omega)) rfl (Nat.le_of_ble_eq_true rfl) ⟨rfl, hM_52, hH_52⟩ (fun r_83 g_83 hq_83 => ?_)
              obtain ⟨hr_83, hz_83⟩ := hq_83
              rw [hr_83, hT_52]
              have hLM_83 := hLM_52.p hz_83
              show ZVV _ _ _ 86 _ [ZI ((tHap (tRun n.toNat 0 (mT g)).2 : Nat) : Int)] g_83
              refine zs_goto 98 rfl (by omega) ?_
              skip
              refine zs_istore (i := 4) rfl (by decide) (by intro r x hr; have hr2 : r = 3 := (by omega); subst hr2; intro z; cases z) ?_
              show ZVV _ _ _ _ [ZR 8 0, ZI n, ZI w, ZI (((tRun n.toNat 0 (mT g)).1 : Nat) : Int), ZI ((tHap (tRun n.toNat 0 (mT g)).2 : Nat) : Int)] _ _
              refine zs_aload_n (j := 0) (i := 0) rfl rfl rfl ?_
              refine zs_callV (host := "") rfl kX8_319 vX8_putBack c_X8_putBack [] [] rfl (zroom_of (by omega)) rfl (Nat.le_of_ble_eq_true rfl) ⟨rfl, trivial⟩ (fun r_101 g_101 hq_101 => ?_)
              obtain ⟨hr_101, hg_101⟩ := hq_101
              rw [hr_101]
              have hA_101 : zA g g_101 := by rw [hg_101]; exact (hLM_83).back
              show ZVV _ _ _ 104 _ [] g_101
              refine zs_iload (i := 4) rfl rfl ?_
              show ZVV _ _ _ 106 _ _ _
              exact zs_ireturn rfl rfl (⟨by unfold mRun; rw [if_neg (by omega), if_neg (by omega), if_neg (by omega), if_neg (by omega), if_pos (by omega)], hA_101⟩)
          · refine zs_aload_n (j := 0) (i := 0) rfl rfl rfl ?_
            refine zs_iconst (n := 1) rfl ⟨by omega, by omega⟩ ?_
            refine zs_callV (host := "") rfl kX8_303 vX8_pairs c_X8_pairs1 [ZI 1] [] rfl (zroom_of (by omega)) rfl (Nat.le_of_ble_eq_true rfl) ⟨rfl, hM_52, hH_52⟩ (fun r_71 g_71 hq_71 => ?_)
            obtain ⟨hr_71, hg_71⟩ := hq_71
            rw [hr_71, hg_71, mPrs_like hH_52, hT_52]
            show ZVV _ _ _ 74 _ [ZI (tlp (tRun n.toNat 0 (mT g)).2)] g_52
            refine zs_goto 98 rfl (by omega) ?_
            skip
            refine zs_istore (i := 4) rfl (by decide) (by intro r x hr; have hr2 : r = 3 := (by omega); subst hr2; intro z; cases z) ?_
            show ZVV _ _ _ _ [ZR 8 0, ZI n, ZI w, ZI (((tRun n.toNat 0 (mT g)).1 : Nat) : Int), ZI (tlp (tRun n.toNat 0 (mT g)).2)] _ _
            refine zs_aload_n (j := 0) (i := 0) rfl rfl rfl ?_
            refine zs_callV (host := "") rfl kX8_319 vX8_putBack c_X8_putBack [] [] rfl (zroom_of (by omega)) rfl (Nat.le_of_ble_eq_true rfl) ⟨rfl, trivial⟩ (fun r_101 g_101 hq_101 => ?_)
            obtain ⟨hr_101, hg_101⟩ := hq_101
            rw [hr_101]
            have hA_101 : zA g g_101 := by rw [hg_101]; exact (hLM_52).back
            show ZVV _ _ _ 104 _ [] g_101
            show ZVV _ _ _ 104 _ _ _
            refine zs_iload (i := 4) rfl rfl ?_
            exact zs_ireturn rfl rfl (⟨by unfold mRun; rw [if_neg (by omega), if_neg (by omega), if_neg (by omega), if_pos (by omega)], hA_101⟩)
        · refine zs_iload_n (j := 3) (i := 3) rfl rfl rfl ?_
          refine zs_goto 98 rfl (by omega) ?_
          skip
          refine zs_istore (i := 4) rfl (by decide) (by intro r x hr; have hr2 : r = 3 := (by omega); subst hr2; intro z; cases z) ?_
          show ZVV _ _ _ _ [ZR 8 0, ZI n, ZI w, ZI (((tRun n.toNat 0 (mT g)).1 : Nat) : Int), ZI (((tRun n.toNat 0 (mT g)).1 : Nat) : Int)] _ _
          refine zs_aload_n (j := 0) (i := 0) rfl rfl rfl ?_
          refine zs_callV (host := "") rfl kX8_319 vX8_putBack c_X8_putBack [] [] rfl (zroom_of (by omega)) rfl (Nat.le_of_ble_eq_true rfl) ⟨rfl, trivial⟩ (fun r_101 g_101 hq_101 => ?_)
          obtain ⟨hr_101, hg_101⟩ := hq_101
          rw [hr_101]
          have hA_101 : zA g g_101 := by rw [hg_101]; exact (hLM_52).back
          show ZVV _ _ _ 104 _ [] g_101
          refine zs_iload (i := 4) rfl rfl ?_
          exact zs_ireturn rfl rfl (⟨by unfold mRun; rw [if_neg (by omega), if_neg (by omega), if_pos (by omega)], hA_101⟩)
      · refine zs_sipush (n := (-10002)) rfl ⟨by omega, by omega⟩ ?_
        exact zs_ireturn rfl rfl (⟨by unfold mRun; rw [if_neg (by omega), if_pos (by omega)], zA.rf g⟩)
    · refine zs_sipush (n := (-10001)) rfl ⟨by omega, by omega⟩ ?_
      exact zs_ireturn rfl rfl (⟨by unfold mRun; rw [if_pos (by omega)], zA.rf g⟩)

