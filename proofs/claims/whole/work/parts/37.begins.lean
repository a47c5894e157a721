theorem cT_vs {g G : ZG} (h : zVS g G) : cT G = cT g := by
  unfold cT zTC zwC
  rw [h 2 0 rfl, h 15 0 rfl, h 16 0 rfl, h 17 0 rfl, h 18 0 rfl, h 3 _ rfl, h 20 _ rfl]
theorem CP.next {g G : ZG} {c : Int} (h : CP g) (hq : zQR c g G) (hc : g 1 0 8 + c ≤ 900000000) : CP G := ⟨h.1.vs hq.1, hq.2.1, by have := hq.2.2; omega⟩
theorem zLV.next {g G M : ZG} {c d e : Int} (hq : zQR c g G) (h : zLV G d M) (he : c + d ≤ e) : zQR e g M := ⟨hq.1.tr h.2.2.1, h.q.2.1, by have := hq.2.2; have := h.q.2.2; omega⟩
def tBeg (pairs : Int) (t : ZT) (m k : Nat) : Int := match m with
  | 0 => -5
  | m + 1 => if pairs < tlp (tRun 20 0 (tWF t ((zxr 1).getD k 0))).2 then (zxr 1).getD k 0 else tBeg pairs t m (k + 1)
theorem tBeg_s (pairs : Int) (t : ZT) (m k : Nat) : tBeg pairs t (m + 1) k = if pairs < tlp (tRun 20 0 (tWF t ((zxr 1).getD k 0))).2 then (zxr 1).getD k 0 else tBeg pairs t m (k + 1) := rfl
theorem zxr1_rng : ∀ c : Nat, c < 11 → 0 ≤ (zxr 1).getD c 0 ∧ (zxr 1).getD c 0 ≤ 100 := by decide
theorem l_X7_begrun {Y : ZW} {Q : Option ZV → ZG → Prop} {g : ZG} {b w : Int} {j : Nat} (hp : CP g) : ∀ (m k : Nat) (G : ZG), k + m = 20 → zLV g ((k : Int) + 1) G → (∀ M, zTL M = (tRun m k (zTL G)).2 → zLV g 21 M → ZVV Y mX7_begins (zcx Y 7 Q) 76 [ZR 7 0, ZI b, ZX 1, ZI 11, ZI (j : Int), ZI w, ZI ((tRun m k (zTL G)).1 : Int)] [] M) → ZVV Y mX7_begins (zcx Y 7 Q) 53 [ZR 7 0, ZI b, ZX 1, ZI 11, ZI (j : Int), ZI w, ZI (k : Int)] [] G := by
  intro m
  induction m with
  | zero =>
    intro k G hk hLS hq
    refine zs_iload (i := 6) rfl rfl ?_
    refine zs_bipush (n := 20) rfl ⟨by omega, by omega⟩ ?_
    refine zs_icmp_ge 76 rfl (by omega) (fun hc_57 => ?_) (fun hc_57 => ?_)
    · exact hq G rfl (hLS.le (by omega))
    · exfalso; omega
  | succ m ih =>
    intro k G hk hLS hq
    refine zs_iload (i := 6) rfl rfl ?_
    refine zs_bipush (n := 20) rfl ⟨by omega, by omega⟩ ?_
    refine zs_icmp_ge 76 rfl (by omega) (fun hc_57 => ?_) (fun hc_57 => ?_)
    · exfalso; omega
    · refine zs_aload_n (j := 0) (i := 0) rfl rfl rfl ?_
      refine zs_getfield (f := 7) (k := 7) rfl rfl (trivial) ?_
      show ZVV _ _ _ _ _ (ZR 1 0 :: _) _
      refine zs_callV (host := "") rfl kX7_158 vX1_step c_X1_step [] [] rfl (zroom_of (by omega)) rfl (Nat.le_of_ble_eq_true rfl) ⟨rfl, hLS.1, hLS.2.1, (by have := hLS.2.2.2.2.2; omega), (by have := hLS.2.2.2.2.1; have := hp.2.2; omega)⟩ (fun r_64 g_64 hq_64 => ?_)
      obtain ⟨hr_64, hT_64, hL_64, hH_64, hS_64, hs_64⟩ := hq_64
      rw [hr_64]
      have hLS_64 := fun d hd => hLS.step (d := d) hd hT_64 hL_64 hH_64 hS_64 hs_64
      show ZVV _ _ _ 67 _ [ZI ((tStep (zTL G)).1)] _
      refine zs_if_lt 76 rfl (by omega) (fun hc_67 => ?_) (fun hc_67 => ?_)
      · have := hq _ (by rw [tRun_s, if_pos (by omega)]; exact hT_64) ((hLS_64 _ (Int.le_refl _)).le (by omega))
        rw [tRun_s, if_pos (by omega)] at this
        exact this
      · refine zs_iinc_r (i := 6) rfl rfl (by intro r x hr; have hr2 : r = 5 := (by omega); subst hr2; intro z; cases z) ⟨by omega, by omega⟩ ?_
        show ZVV _ _ _ _ [ZR 7 0, ZI b, ZX 1, ZI 11, ZI (j : Int), ZI w, ZI ((k : Int) + 1)] _ _
        refine zs_goto 53 rfl (by omega) ?_
        refine ih (k + 1) _ (by omega) (hLS_64 _ (by omega)) (fun M z1 z2 => ?_)
        have := hq M (by rw [tRun_s, if_neg (by omega), ← hT_64]; exact z1) z2
        rw [tRun_s, if_neg (by omega), ← hT_64] at this
        exact this
