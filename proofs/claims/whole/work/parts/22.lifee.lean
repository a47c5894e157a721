def tGoes (t : ZT) (p : Nat) : Int :=
  if tkd t p = 1 then tNear t p 1000 (tn t).toNat 0 (-5) 8
  else if tkd t p = 2 then tNext t p ((tn t).toNat - 1) (tho t p)
  else if tkd t p = 4 then tNear t p (10 * tv t p) (tn t).toNat 0 (-5) 8
  else if tkd t p = 5 then (if tmv t % (tv t p + 2) = 0 then -5 else tNext t p ((tn t).toNat - 1) (tho t p))
  else if tkd t p = 3 ∨ tkd t p = 6 then (if (tkd t p = 6 ∧ tv t p < tn t) ∧ tFr t (tv t p) = true then tv t p else if tPart t p (tnp t).toNat 0 = -1 then tLeast t p else tho t (tPart t p (tnp t).toNat 0).toNat)
  else tLeast t p
theorem tNear_rng {t : ZT} {p : Nat} {mc : Int} : ∀ (n k : Nat) (best ba : Int), (best = -5 ∨ (0 ≤ best ∧ best < k + n)) → tNear t p mc n k best ba = -5 ∨ (0 ≤ tNear t p mc n k best ba ∧ tNear t p mc n k best ba < k + n) := by
  intro n
  induction n with
  | zero => intro k best ba h; exact h
  | succ n ih =>
    intro k best ba h
    rw [tNear_s]
    split
    · rcases ih (k + 1) k ((k : Int) - tho t p).natAbs (Or.inr ⟨by omega, by omega⟩) with q | q
      · exact Or.inl q
      · exact Or.inr ⟨q.1, by omega⟩
    · rcases ih (k + 1) best ba (by omega) with q | q
      · exact Or.inl q
      · exact Or.inr ⟨q.1, by omega⟩
theorem tNext_rng {t : ZT} {p : Nat} (hn : 3 ≤ tn t) : ∀ (n : Nat) (h : Int), 0 ≤ h → tNext t p n h = -5 ∨ (0 ≤ tNext t p n h ∧ tNext t p n h < tn t) := by
  intro n
  induction n with
  | zero => intro h _; exact Or.inl rfl
  | succ n ih =>
    intro h hh
    rw [tNext_s]
    have h1 : 0 ≤ (if tn t ≤ h + 1 then 0 else h + 1) ∧ (if tn t ≤ h + 1 then 0 else h + 1) < tn t := by split <;> omega
    generalize (if tn t ≤ h + 1 then 0 else h + 1) = x at h1 ⊢
    split
    · exact Or.inr h1
    · exact ih _ h1.1
theorem tLeast_rng {t : ZT} {p : Nat} (hn : 3 ≤ tn t) : tLeast t p = -5 ∨ (0 ≤ tLeast t p ∧ tLeast t p < tn t) := by
  unfold tLeast
  rcases zfst_rng (fun h => tFr t h && tSu t p h) (tn t).toNat 0 with q | q
  · rw [if_pos q]; exact Or.inl rfl
  · rw [if_neg (by omega)]; exact Or.inr ⟨by omega, by omega⟩
theorem tGoes_rng {t : ZT} {p : Nat} (hn : 3 ≤ tn t) (hp : 0 ≤ tho t p) (hv : 0 ≤ tv t p) (hh : ∀ q : Nat, (q : Int) < tnp t → 0 ≤ tho t q ∧ tho t q < tn t) : tGoes t p = -5 ∨ (0 ≤ tGoes t p ∧ tGoes t p < tn t) := by
  unfold tGoes
  have hN : ∀ mc, tNear t p mc (tn t).toNat 0 (-5) 8 = -5 ∨ (0 ≤ tNear t p mc (tn t).toNat 0 (-5) 8 ∧ tNear t p mc (tn t).toNat 0 (-5) 8 < tn t) := fun mc => by
    rcases tNear_rng (t := t) (p := p) (mc := mc) (tn t).toNat 0 (-5) 8 (Or.inl rfl) with q | q
    · exact Or.inl q
    · exact Or.inr ⟨q.1, by omega⟩
  split
  · exact hN _
  split
  · exact tNext_rng hn _ _ hp
  split
  · exact hN _
  split
  · split
    · exact Or.inl rfl
    · exact tNext_rng hn _ _ hp
  split
  · split
    · rename_i h; exact Or.inr ⟨hv, h.1.2⟩
    split
    · exact tLeast_rng hn
    · rename_i h
      rcases tPart_rng t p (tnp t).toNat 0 with q | q
      · exact absurd q h
      · exact Or.inr (hh _ (by omega))
  · exact tLeast_rng hn
theorem c_X1_goesTo (p : Int) : ZC mX1_goesTo 5 (fun av g => av = [ZR 1 0, ZI p] ∧ LOK g ∧ LHH g ∧ (0 ≤ p ∧ p < g 2 2 3)) (fun _ g r g' => r = some (ZI (tGoes (zTL g) p.toNat)) ∧ zSL g g' ∧ LOK g') := by
  refine zc_of gX1_goesTo (fun av g hp => by obtain ⟨rfl, -⟩ := hp; exact Nat.le_of_ble_eq_true rfl) (fun Y av g hwf hrg hp hok => ?_)
  obtain ⟨rfl, hp⟩ := hp
  show ZVV _ _ _ 0 [ZR 1 0, ZI p, ZX 99, ZX 99] [] _
  obtain ⟨hn8, hs2, hn6, hm8, -, h6⟩ := id hp.1.1
  have hpp := hp.2.2
  have h6p := h6 p.toNat (by omega)
  have h18 := hp.2.1 p.toNat (by omega)
  refine zs_aload_n (j := 0) (i := 0) rfl rfl rfl ?_
  refine zs_getfield (f := 1) (k := 0) rfl rfl (trivial) ?_
  show ZVV _ _ _ _ _ (ZR 2 2 :: _) _
  refine zs_getfield (f := 2) (k := 5) rfl rfl (trivial) ?_
  show ZVV _ _ _ _ _ (ZR 16 2 :: _) _
  refine zs_iload_n (j := 1) (i := 1) rfl rfl rfl ?_
  refine zs_iald (n := 6) rfl rfl (by omega) (by omega) ?_
  refine zs_istore_n (j := 2) (i := 2) rfl rfl (by decide) (by intro r x hr; have hr2 : r = 1 := (by omega); subst hr2; intro z; cases z) ?_
  show ZVV _ _ _ _ [ZR 1 0, ZI p, ZI (g 16 2 p.toNat), ZX 99] _ _
  refine zs_aload_n (j := 0) (i := 0) rfl rfl rfl ?_
  show ZVV _ _ _ 11 _ _ _
  refine zs_getfield (f := 1) (k := 0) rfl rfl (trivial) ?_
  show ZVV _ _ _ _ _ (ZR 2 2 :: _) _
  refine zs_getfield (f := 2) (k := 4) rfl rfl (trivial) ?_
  show ZVV _ _ _ _ _ (ZR 15 2 :: _) _
  refine zs_iload_n (j := 1) (i := 1) rfl rfl rfl ?_
  refine zs_iald (n := 6) rfl rfl (by omega) (by omega) ?_
  by_cases hs_19_1 : g 15 2 p.toNat = 1
  · refine zs_tsIn 56 rfl (by omega) (by omega) (off := 37) (by rw [hs_19_1]; rfl) (by omega) ?_
    refine zs_aload_n (j := 0) (i := 0) rfl rfl rfl ?_
    refine zs_iload_n (j := 1) (i := 1) rfl rfl rfl ?_
    refine zs_sipush (n := 1000) rfl ⟨by omega, by omega⟩ ?_
    refine zs_callV (host := "") rfl kX1_88 vX1_nearest (c_X1_nearest p 1000) [ZI p, ZI 1000] [] rfl (zroom_of (by omega)) rfl (Nat.le_of_ble_eq_true rfl) (⟨rfl, hp.1, hpp, h18⟩) (fun r_61 g_61 hq_61 => ?_)
    obtain ⟨hr_61, hS_61, hL_61⟩ := hq_61
    rw [hr_61]
    show ZVV _ _ _ 64 _ [ZI (tNear (zTL g) p.toNat 1000 (g 2 2 0).toNat 0 (-5) 8)] g_61
    exact zs_ireturn rfl rfl (⟨by
    congr 2
    show _ = tGoes (zTL g) p.toNat
    unfold tGoes
    have e1 : tkd (zTL g) p.toNat = g 15 2 p.toNat := rfl
    have e2 : tv (zTL g) p.toNat = g 16 2 p.toNat := rfl
    have e3 : tn (zTL g) = g 2 2 0 := rfl
    have e4 : tmv (zTL g) = g 2 2 8 := rfl
    have e5 : tnp (zTL g) = g 2 2 3 := rfl
    have e6 : tho (zTL g) = g 18 2 := rfl
    rw [e1, e2, e3, e4, e5, e6]
    first
    | (exfalso; omega)
    | (rw [if_pos (by omega)])
    | (rw [if_neg (by omega), if_pos (by omega)])
    | (rw [if_neg (by omega), if_neg (by omega), if_pos (by omega)])
    | (rw [if_neg (by omega), if_neg (by omega), if_neg (by omega), if_pos (by omega), if_pos (by omega)])
    | (rw [if_neg (by omega), if_neg (by omega), if_neg (by omega), if_pos (by omega), if_neg (by omega)])
    | (rw [if_neg (by omega), if_neg (by omega), if_neg (by omega), if_neg (by omega), if_neg (by omega)]), hS_61, hL_61⟩)
  by_cases hs_19_2 : g 15 2 p.toNat = 2
  · refine zs_tsIn 75 rfl (by omega) (by omega) (off := 56) (by rw [hs_19_2]; rfl) (by omega) ?_
    refine zs_aload_n (j := 0) (i := 0) rfl rfl rfl ?_
    refine zs_iload_n (j := 1) (i := 1) rfl rfl rfl ?_
    refine zs_callV (host := "") rfl kX1_92 vX1_nextBehind (c_X1_nextBehind p) [ZI p] [] rfl (zroom_of (by omega)) rfl (Nat.le_of_ble_eq_true rfl) (⟨rfl, hp.1, hpp, h18⟩) (fun r_77 g_77 hq_77 => ?_)
    obtain ⟨hr_77, hS_77, hL_77⟩ := hq_77
    rw [hr_77]
    show ZVV _ _ _ 80 _ [ZI (tNext (zTL g) p.toNat ((g 2 2 0).toNat - 1) (g 18 2 p.toNat))] g_77
    exact zs_ireturn rfl rfl (⟨by
    congr 2
    show _ = tGoes (zTL g) p.toNat
    unfold tGoes
    have e1 : tkd (zTL g) p.toNat = g 15 2 p.toNat := rfl
    have e2 : tv (zTL g) p.toNat = g 16 2 p.toNat := rfl
    have e3 : tn (zTL g) = g 2 2 0 := rfl
    have e4 : tmv (zTL g) = g 2 2 8 := rfl
    have e5 : tnp (zTL g) = g 2 2 3 := rfl
    have e6 : tho (zTL g) = g 18 2 := rfl
    rw [e1, e2, e3, e4, e5, e6]
    first
    | (exfalso; omega)
    | (rw [if_pos (by omega)])
    | (rw [if_neg (by omega), if_pos (by omega)])
    | (rw [if_neg (by omega), if_neg (by omega), if_pos (by omega)])
    | (rw [if_neg (by omega), if_neg (by omega), if_neg (by omega), if_pos (by omega), if_pos (by omega)])
    | (rw [if_neg (by omega), if_neg (by omega), if_neg (by omega), if_pos (by omega), if_neg (by omega)])
    | (rw [if_neg (by omega), if_neg (by omega), if_neg (by omega), if_neg (by omega), if_neg (by omega)]), hS_77, hL_77⟩)
  by_cases hs_19_3 : g 15 2 p.toNat = 3
  · refine zs_tsIn 112 rfl (by omega) (by omega) (off := 93) (by rw [hs_19_3]; rfl) (by omega) ?_
    refine zs_aload_n (j := 0) (i := 0) rfl rfl rfl ?_
    refine zs_getfield (f := 1) (k := 0) rfl rfl (trivial) ?_
    show ZVV _ _ _ _ _ (ZR 2 2 :: _) _
    refine zs_getfield (f := 2) (k := 4) rfl rfl (trivial) ?_
    show ZVV _ _ _ _ _ (ZR 15 2 :: _) _
    refine zs_iload_n (j := 1) (i := 1) rfl rfl rfl ?_
    refine zs_iald (n := 6) rfl rfl (by omega) (by omega) ?_
    refine zs_bipush (n := 6) rfl ⟨by omega, by omega⟩ ?_
    refine zs_icmp_ne 151 rfl (by omega) (fun hc_123 => ?_) (fun hc_123 => ?_)
    · refine zs_aload_n (j := 0) (i := 0) rfl rfl rfl ?_
      refine zs_iload_n (j := 1) (i := 1) rfl rfl rfl ?_
      refine zs_callV (host := "") rfl kX1_102 vX1_partnerOf (c_X1_partnerOf p) [ZI p] [] rfl (zroom_of (by omega)) rfl (Nat.le_of_ble_eq_true rfl) (⟨rfl, hp.1, hp.2.1, hpp⟩) (fun r_153 g_153 hq_153 => ?_)
      obtain ⟨hr_153, hS_153, hL_153⟩ := hq_153
      rw [hr_153]
      show ZVV _ _ _ 156 _ [ZI (tPart (zTL g) p.toNat (g 2 2 3).toNat 0)] g_153
      refine zs_istore_n (j := 3) (i := 3) rfl rfl (by decide) (by intro r x hr; have hr2 : r = 2 := (by omega); subst hr2; intro z; cases z) ?_
      show ZVV _ _ _ _ [ZR 1 0, ZI p, ZI (g 16 2 p.toNat), ZI (tPart (zTL g) p.toNat (g 2 2 3).toNat 0)] _ _
      refine zs_iload_n (j := 3) (i := 3) rfl rfl rfl ?_
      have hpr := tPart_rng (zTL g) p.toNat (g 2 2 3).toNat 0
      refine zs_iconst (n := (-1)) rfl ⟨by omega, by omega⟩ ?_
      refine zs_icmp_ne 170 rfl (by omega) (fun hc_159 => ?_) (fun hc_159 => ?_)
      · have hpr := tPart_rng (zTL g) p.toNat (g 2 2 3).toNat 0
        refine zs_aload_n (j := 0) (i := 0) rfl rfl rfl ?_
        refine zs_getfield (f := 1) (k := 0) rfl rfl (trivial) ?_
        show ZVV _ _ _ _ _ (ZR 2 2 :: _) _
        refine zs_getfield (f := 2) (k := 7) rfl rfl (trivial) ?_
        show ZVV _ _ _ _ _ (ZR 18 2 :: _) _
        refine zs_iload_n (j := 3) (i := 3) rfl rfl rfl ?_
        refine zs_iald (n := 6) rfl rfl (by omega) (by omega) ?_
        show ZVV _ _ _ _ _ (ZI (g_153 18 2 (tPart (zTL g) p.toNat (g 2 2 3).toNat 0).toNat) :: _) _
        rw [(hS_153.1 18 (by decide) (by decide) (by decide) (by decide))]
        exact zs_ireturn rfl rfl (⟨by
    congr 2
    show _ = tGoes (zTL g) p.toNat
    unfold tGoes
    have e1 : tkd (zTL g) p.toNat = g 15 2 p.toNat := rfl
    have e2 : tv (zTL g) p.toNat = g 16 2 p.toNat := rfl
    have e3 : tn (zTL g) = g 2 2 0 := rfl
    have e4 : tmv (zTL g) = g 2 2 8 := rfl
    have e5 : tnp (zTL g) = g 2 2 3 := rfl
    have e6 : tho (zTL g) = g 18 2 := rfl
    rw [e1, e2, e3, e4, e5, e6]
    first
    | (exfalso; omega)
    | (rw [if_pos (by omega)])
    | (rw [if_neg (by omega), if_pos (by omega)])
    | (rw [if_neg (by omega), if_neg (by omega), if_pos (by omega)])
    | (rw [if_neg (by omega), if_neg (by omega), if_neg (by omega), if_pos (by omega), if_pos (by omega)])
    | (rw [if_neg (by omega), if_neg (by omega), if_neg (by omega), if_pos (by omega), if_neg (by omega)])
    | (rw [if_neg (by omega), if_neg (by omega), if_neg (by omega), if_neg (by omega), if_pos (by omega), if_neg (by rintro ⟨z1, z2⟩; first | omega | exact hc_146 (of_decide_eq_true z2)), if_pos (by omega)])
    | (rw [if_neg (by omega), if_neg (by omega), if_neg (by omega), if_neg (by omega), if_pos (by omega), if_neg (by rintro ⟨z1, z2⟩; first | omega | exact hc_146 (of_decide_eq_true z2)), if_neg (by omega)])
    | (rw [if_neg (by omega), if_neg (by omega), if_neg (by omega), if_neg (by omega), if_neg (by omega)]), hS_153, hL_153⟩)
      · refine zs_aload_n (j := 0) (i := 0) rfl rfl rfl ?_
        refine zs_iload_n (j := 1) (i := 1) rfl rfl rfl ?_
        refine zs_callV (host := "") rfl kX1_105 vX1_least (c_X1_least p) [ZI p] [] rfl (zroom_of (by omega)) rfl (Nat.le_of_ble_eq_true rfl) (⟨rfl, hL_153, (by rw [hS_153.1 2 (by decide) (by decide) (by decide) (by decide)]; exact hpp)⟩) (fun r_164 g_164 hq_164 => ?_)
        obtain ⟨hr_164, hS_164, hL_164⟩ := hq_164
        rw [hr_164, hS_153.townL]
        show ZVV _ _ _ 167 _ [ZI (tLeast (zTL g) p.toNat)] g_164
        refine zs_goto 179 rfl (by omega) ?_
        exact zs_ireturn rfl rfl (⟨by
    congr 2
    show _ = tGoes (zTL g) p.toNat
    unfold tGoes
    have e1 : tkd (zTL g) p.toNat = g 15 2 p.toNat := rfl
    have e2 : tv (zTL g) p.toNat = g 16 2 p.toNat := rfl
    have e3 : tn (zTL g) = g 2 2 0 := rfl
    have e4 : tmv (zTL g) = g 2 2 8 := rfl
    have e5 : tnp (zTL g) = g 2 2 3 := rfl
    have e6 : tho (zTL g) = g 18 2 := rfl
    rw [e1, e2, e3, e4, e5, e6]
    first
    | (exfalso; omega)
    | (rw [if_pos (by omega)])
    | (rw [if_neg (by omega), if_pos (by omega)])
    | (rw [if_neg (by omega), if_neg (by omega), if_pos (by omega)])
    | (rw [if_neg (by omega), if_neg (by omega), if_neg (by omega), if_pos (by omega), if_pos (by omega)])
    | (rw [if_neg (by omega), if_neg (by omega), if_neg (by omega), if_pos (by omega), if_neg (by omega)])
    | (rw [if_neg (by omega), if_neg (by omega), if_neg (by omega), if_neg (by omega), if_pos (by omega), if_neg (by rintro ⟨z1, z2⟩; first | omega | exact hc_146 (of_decide_eq_true z2)), if_pos (by omega)])
    | (rw [if_neg (by omega), if_neg (by omega), if_neg (by omega), if_neg (by omega), if_pos (by omega), if_neg (by rintro ⟨z1, z2⟩; first | omega | exact hc_146 (of_decide_eq_true z2)), if_neg (by omega)])
    | (rw [if_neg (by omega), if_neg (by omega), if_neg (by omega), if_neg (by omega), if_neg (by omega)]), hS_153.tr hS_164, hL_164⟩)
    · refine zs_iload_n (j := 2) (i := 2) rfl rfl rfl ?_
      refine zs_aload_n (j := 0) (i := 0) rfl rfl rfl ?_
      refine zs_getfield (f := 1) (k := 0) rfl rfl (trivial) ?_
      show ZVV _ _ _ _ _ (ZR 2 2 :: _) _
      refine zs_getfield (f := 2) (k := 0) rfl rfl (trivial) ?_
      show ZVV _ _ _ _ _ (ZI (g 2 2 0) :: _) _
      refine zs_icmp_ge 151 rfl (by omega) (fun hc_134 => ?_) (fun hc_134 => ?_)
      · refine zs_aload_n (j := 0) (i := 0) rfl rfl rfl ?_
        refine zs_iload_n (j := 1) (i := 1) rfl rfl rfl ?_
        refine zs_callV (host := "") rfl kX1_102 vX1_partnerOf (c_X1_partnerOf p) [ZI p] [] rfl (zroom_of (by omega)) rfl (Nat.le_of_ble_eq_true rfl) (⟨rfl, hp.1, hp.2.1, hpp⟩) (fun r_153 g_153 hq_153 => ?_)
        obtain ⟨hr_153, hS_153, hL_153⟩ := hq_153
        rw [hr_153]
        show ZVV _ _ _ 156 _ [ZI (tPart (zTL g) p.toNat (g 2 2 3).toNat 0)] g_153
        refine zs_istore_n (j := 3) (i := 3) rfl rfl (by decide) (by intro r x hr; have hr2 : r = 2 := (by omega); subst hr2; intro z; cases z) ?_
        show ZVV _ _ _ _ [ZR 1 0, ZI p, ZI (g 16 2 p.toNat), ZI (tPart (zTL g) p.toNat (g 2 2 3).toNat 0)] _ _
        refine zs_iload_n (j := 3) (i := 3) rfl rfl rfl ?_
        have hpr := tPart_rng (zTL g) p.toNat (g 2 2 3).toNat 0
        refine zs_iconst (n := (-1)) rfl ⟨by omega, by omega⟩ ?_
        refine zs_icmp_ne 170 rfl (by omega) (fun hc_159 => ?_) (fun hc_159 => ?_)
        · have hpr := tPart_rng (zTL g) p.toNat (g 2 2 3).toNat 0
          refine zs_aload_n (j := 0) (i := 0) rfl rfl rfl ?_
          refine zs_getfield (f := 1) (k := 0) rfl rfl (trivial) ?_
          show ZVV _ _ _ _ _ (ZR 2 2 :: _) _
          refine zs_getfield (f := 2) (k := 7) rfl rfl (trivial) ?_
          show ZVV _ _ _ _ _ (ZR 18 2 :: _) _
          refine zs_iload_n (j := 3) (i := 3) rfl rfl rfl ?_
          refine zs_iald (n := 6) rfl rfl (by omega) (by omega) ?_
          show ZVV _ _ _ _ _ (ZI (g_153 18 2 (tPart (zTL g) p.toNat (g 2 2 3).toNat 0).toNat) :: _) _
          rw [(hS_153.1 18 (by decide) (by decide) (by decide) (by decide))]
          exact zs_ireturn rfl rfl (⟨by
    congr 2
    show _ = tGoes (zTL g) p.toNat
    unfold tGoes
    have e1 : tkd (zTL g) p.toNat = g 15 2 p.toNat := rfl
    have e2 : tv (zTL g) p.toNat = g 16 2 p.toNat := rfl
    have e3 : tn (zTL g) = g 2 2 0 := rfl
    have e4 : tmv (zTL g) = g 2 2 8 := rfl
    have e5 : tnp (zTL g) = g 2 2 3 := rfl
    have e6 : tho (zTL g) = g 18 2 := rfl
    rw [e1, e2, e3, e4, e5, e6]
    first
    | (exfalso; omega)
    | (rw [if_pos (by omega)])
    | (rw [if_neg (by omega), if_pos (by omega)])
    | (rw [if_neg (by omega), if_neg (by omega), if_pos (by omega)])
    | (rw [if_neg (by omega), if_neg (by omega), if_neg (by omega), if_pos (by omega), if_pos (by omega)])
    | (rw [if_neg (by omega), if_neg (by omega), if_neg (by omega), if_pos (by omega), if_neg (by omega)])
    | (rw [if_neg (by omega), if_neg (by omega), if_neg (by omega), if_neg (by omega), if_pos (by omega), if_neg (by rintro ⟨z1, z2⟩; first | omega | exact hc_146 (of_decide_eq_true z2)), if_pos (by omega)])
    | (rw [if_neg (by omega), if_neg (by omega), if_neg (by omega), if_neg (by omega), if_pos (by omega), if_neg (by rintro ⟨z1, z2⟩; first | omega | exact hc_146 (of_decide_eq_true z2)), if_neg (by omega)])
    | (rw [if_neg (by omega), if_neg (by omega), if_neg (by omega), if_neg (by omega), if_neg (by omega)]), hS_153, hL_153⟩)
        · refine zs_aload_n (j := 0) (i := 0) rfl rfl rfl ?_
          refine zs_iload_n (j := 1) (i := 1) rfl rfl rfl ?_
          refine zs_callV (host := "") rfl kX1_105 vX1_least (c_X1_least p) [ZI p] [] rfl (zroom_of (by omega)) rfl (Nat.le_of_ble_eq_true rfl) (⟨rfl, hL_153, (by rw [hS_153.1 2 (by decide) (by decide) (by decide) (by decide)]; exact hpp)⟩) (fun r_164 g_164 hq_164 => ?_)
          obtain ⟨hr_164, hS_164, hL_164⟩ := hq_164
          rw [hr_164, hS_153.townL]
          show ZVV _ _ _ 167 _ [ZI (tLeast (zTL g) p.toNat)] g_164
          refine zs_goto 179 rfl (by omega) ?_
          exact zs_ireturn rfl rfl (⟨by
    congr 2
    show _ = tGoes (zTL g) p.toNat
    unfold tGoes
    have e1 : tkd (zTL g) p.toNat = g 15 2 p.toNat := rfl
    have e2 : tv (zTL g) p.toNat = g 16 2 p.toNat := rfl
    have e3 : tn (zTL g) = g 2 2 0 := rfl
    have e4 : tmv (zTL g) = g 2 2 8 := rfl
    have e5 : tnp (zTL g) = g 2 2 3 := rfl
    have e6 : tho (zTL g) = g 18 2 := rfl
    rw [e1, e2, e3, e4, e5, e6]
    first
    | (exfalso; omega)
    | (rw [if_pos (by omega)])
    | (rw [if_neg (by omega), if_pos (by omega)])
    | (rw [if_neg (by omega), if_neg (by omega), if_pos (by omega)])
    | (rw [if_neg (by omega), if_neg (by omega), if_neg (by omega), if_pos (by omega), if_pos (by omega)])
    | (rw [if_neg (by omega), if_neg (by omega), if_neg (by omega), if_pos (by omega), if_neg (by omega)])
    | (rw [if_neg (by omega), if_neg (by omega), if_neg (by omega), if_neg (by omega), if_pos (by omega), if_neg (by rintro ⟨z1, z2⟩; first | omega | exact hc_146 (of_decide_eq_true z2)), if_pos (by omega)])
    | (rw [if_neg (by omega), if_neg (by omega), if_neg (by omega), if_neg (by omega), if_pos (by omega), if_neg (by rintro ⟨z1, z2⟩; first | omega | exact hc_146 (of_decide_eq_true z2)), if_neg (by omega)])
    | (rw [if_neg (by omega), if_neg (by omega), if_neg (by omega), if_neg (by omega), if_neg (by omega)]), hS_153.tr hS_164, hL_164⟩)
      · refine zs_aload_n (j := 0) (i := 0) rfl rfl rfl ?_
        refine zs_getfield (f := 1) (k := 0) rfl rfl (trivial) ?_
        show ZVV _ _ _ _ _ (ZR 2 2 :: _) _
        refine zs_iload_n (j := 2) (i := 2) rfl rfl rfl ?_
        refine zs_callV (host := "") rfl kX1_99 vX2_whoIn (c_X2_whoIn 2 (g 16 2 p.toNat)) [ZI (g 16 2 p.toNat)] [] rfl (zroom_of (by omega)) rfl (Nat.le_of_ble_eq_true rfl) (⟨rfl, hn6⟩) (fun r_142 g_142 hq_142 => ?_)
        obtain ⟨hr_142, hg_142⟩ := hq_142
        rw [hr_142, hg_142]
        show ZVV _ _ _ 145 _ [ZI (zwho (g 2 2 3) (g 18 2) (g 16 2 p.toNat))] _
        refine zs_iconst (n := (-1)) rfl ⟨by omega, by omega⟩ ?_
        refine zs_icmp_ne 151 rfl (by omega) (fun hc_146 => ?_) (fun hc_146 => ?_)
        · refine zs_aload_n (j := 0) (i := 0) rfl rfl rfl ?_
          refine zs_iload_n (j := 1) (i := 1) rfl rfl rfl ?_
          refine zs_callV (host := "") rfl kX1_102 vX1_partnerOf (c_X1_partnerOf p) [ZI p] [] rfl (zroom_of (by omega)) rfl (Nat.le_of_ble_eq_true rfl) (⟨rfl, hp.1, hp.2.1, hpp⟩) (fun r_153 g_153 hq_153 => ?_)
          obtain ⟨hr_153, hS_153, hL_153⟩ := hq_153
          rw [hr_153]
          show ZVV _ _ _ 156 _ [ZI (tPart (zTL g) p.toNat (g 2 2 3).toNat 0)] g_153
          refine zs_istore_n (j := 3) (i := 3) rfl rfl (by decide) (by intro r x hr; have hr2 : r = 2 := (by omega); subst hr2; intro z; cases z) ?_
          show ZVV _ _ _ _ [ZR 1 0, ZI p, ZI (g 16 2 p.toNat), ZI (tPart (zTL g) p.toNat (g 2 2 3).toNat 0)] _ _
          refine zs_iload_n (j := 3) (i := 3) rfl rfl rfl ?_
          have hpr := tPart_rng (zTL g) p.toNat (g 2 2 3).toNat 0
          refine zs_iconst (n := (-1)) rfl ⟨by omega, by omega⟩ ?_
          refine zs_icmp_ne 170 rfl (by omega) (fun hc_159 => ?_) (fun hc_159 => ?_)
          · have hpr := tPart_rng (zTL g) p.toNat (g 2 2 3).toNat 0
            refine zs_aload_n (j := 0) (i := 0) rfl rfl rfl ?_
            refine zs_getfield (f := 1) (k := 0) rfl rfl (trivial) ?_
            show ZVV _ _ _ _ _ (ZR 2 2 :: _) _
            refine zs_getfield (f := 2) (k := 7) rfl rfl (trivial) ?_
            show ZVV _ _ _ _ _ (ZR 18 2 :: _) _
            refine zs_iload_n (j := 3) (i := 3) rfl rfl rfl ?_
            refine zs_iald (n := 6) rfl rfl (by omega) (by omega) ?_
            show ZVV _ _ _ _ _ (ZI (g_153 18 2 (tPart (zTL g) p.toNat (g 2 2 3).toNat 0).toNat) :: _) _
            rw [(hS_153.1 18 (by decide) (by decide) (by decide) (by decide))]
            exact zs_ireturn rfl rfl (⟨by
    congr 2
    show _ = tGoes (zTL g) p.toNat
    unfold tGoes
    have e1 : tkd (zTL g) p.toNat = g 15 2 p.toNat := rfl
    have e2 : tv (zTL g) p.toNat = g 16 2 p.toNat := rfl
    have e3 : tn (zTL g) = g 2 2 0 := rfl
    have e4 : tmv (zTL g) = g 2 2 8 := rfl
    have e5 : tnp (zTL g) = g 2 2 3 := rfl
    have e6 : tho (zTL g) = g 18 2 := rfl
    rw [e1, e2, e3, e4, e5, e6]
    first
    | (exfalso; omega)
    | (rw [if_pos (by omega)])
    | (rw [if_neg (by omega), if_pos (by omega)])
    | (rw [if_neg (by omega), if_neg (by omega), if_pos (by omega)])
    | (rw [if_neg (by omega), if_neg (by omega), if_neg (by omega), if_pos (by omega), if_pos (by omega)])
    | (rw [if_neg (by omega), if_neg (by omega), if_neg (by omega), if_pos (by omega), if_neg (by omega)])
    | (rw [if_neg (by omega), if_neg (by omega), if_neg (by omega), if_neg (by omega), if_pos (by omega), if_neg (by rintro ⟨z1, z2⟩; first | omega | exact hc_146 (of_decide_eq_true z2)), if_pos (by omega)])
    | (rw [if_neg (by omega), if_neg (by omega), if_neg (by omega), if_neg (by omega), if_pos (by omega), if_neg (by rintro ⟨z1, z2⟩; first | omega | exact hc_146 (of_decide_eq_true z2)), if_neg (by omega)])
    | (rw [if_neg (by omega), if_neg (by omega), if_neg (by omega), if_neg (by omega), if_neg (by omega)]), hS_153, hL_153⟩)
          · refine zs_aload_n (j := 0) (i := 0) rfl rfl rfl ?_
            refine zs_iload_n (j := 1) (i := 1) rfl rfl rfl ?_
            refine zs_callV (host := "") rfl kX1_105 vX1_least (c_X1_least p) [ZI p] [] rfl (zroom_of (by omega)) rfl (Nat.le_of_ble_eq_true rfl) (⟨rfl, hL_153, (by rw [hS_153.1 2 (by decide) (by decide) (by decide) (by decide)]; exact hpp)⟩) (fun r_164 g_164 hq_164 => ?_)
            obtain ⟨hr_164, hS_164, hL_164⟩ := hq_164
            rw [hr_164, hS_153.townL]
            show ZVV _ _ _ 167 _ [ZI (tLeast (zTL g) p.toNat)] g_164
            refine zs_goto 179 rfl (by omega) ?_
            exact zs_ireturn rfl rfl (⟨by
    congr 2
    show _ = tGoes (zTL g) p.toNat
    unfold tGoes
    have e1 : tkd (zTL g) p.toNat = g 15 2 p.toNat := rfl
    have e2 : tv (zTL g) p.toNat = g 16 2 p.toNat := rfl
    have e3 : tn (zTL g) = g 2 2 0 := rfl
    have e4 : tmv (zTL g) = g 2 2 8 := rfl
    have e5 : tnp (zTL g) = g 2 2 3 := rfl
    have e6 : tho (zTL g) = g 18 2 := rfl
    rw [e1, e2, e3, e4, e5, e6]
    first
    | (exfalso; omega)
    | (rw [if_pos (by omega)])
    | (rw [if_neg (by omega), if_pos (by omega)])
    | (rw [if_neg (by omega), if_neg (by omega), if_pos (by omega)])
    | (rw [if_neg (by omega), if_neg (by omega), if_neg (by omega), if_pos (by omega), if_pos (by omega)])
    | (rw [if_neg (by omega), if_neg (by omega), if_neg (by omega), if_pos (by omega), if_neg (by omega)])
    | (rw [if_neg (by omega), if_neg (by omega), if_neg (by omega), if_neg (by omega), if_pos (by omega), if_neg (by rintro ⟨z1, z2⟩; first | omega | exact hc_146 (of_decide_eq_true z2)), if_pos (by omega)])
    | (rw [if_neg (by omega), if_neg (by omega), if_neg (by omega), if_neg (by omega), if_pos (by omega), if_neg (by rintro ⟨z1, z2⟩; first | omega | exact hc_146 (of_decide_eq_true z2)), if_neg (by omega)])
    | (rw [if_neg (by omega), if_neg (by omega), if_neg (by omega), if_neg (by omega), if_neg (by omega)]), hS_153.tr hS_164, hL_164⟩)
        · refine zs_iload_n (j := 2) (i := 2) rfl rfl rfl ?_
          exact zs_ireturn rfl rfl (⟨by
    congr 2
    show _ = tGoes (zTL g) p.toNat
    unfold tGoes
    have e1 : tkd (zTL g) p.toNat = g 15 2 p.toNat := rfl
    have e2 : tv (zTL g) p.toNat = g 16 2 p.toNat := rfl
    have e3 : tn (zTL g) = g 2 2 0 := rfl
    have e4 : tmv (zTL g) = g 2 2 8 := rfl
    have e5 : tnp (zTL g) = g 2 2 3 := rfl
    have e6 : tho (zTL g) = g 18 2 := rfl
    rw [e1, e2, e3, e4, e5, e6]
    first
    | (exfalso; omega)
    | (rw [if_pos (by omega)])
    | (rw [if_neg (by omega), if_pos (by omega)])
    | (rw [if_neg (by omega), if_neg (by omega), if_pos (by omega)])
    | (rw [if_neg (by omega), if_neg (by omega), if_neg (by omega), if_pos (by omega), if_pos (by omega)])
    | (rw [if_neg (by omega), if_neg (by omega), if_neg (by omega), if_pos (by omega), if_neg (by omega)])
    | (rw [if_neg (by omega), if_neg (by omega), if_neg (by omega), if_neg (by omega), if_pos (by omega), if_pos ⟨by omega, decide_eq_true (Classical.not_not.mp hc_146)⟩])
    | (rw [if_neg (by omega), if_neg (by omega), if_neg (by omega), if_neg (by omega), if_neg (by omega)]), zSL.rf g, hp.1⟩)
  by_cases hs_19_4 : g 15 2 p.toNat = 4
  · refine zs_tsIn 65 rfl (by omega) (by omega) (off := 46) (by rw [hs_19_4]; rfl) (by omega) ?_
    refine zs_aload_n (j := 0) (i := 0) rfl rfl rfl ?_
    refine zs_iload_n (j := 1) (i := 1) rfl rfl rfl ?_
    refine zs_bipush (n := 10) rfl ⟨by omega, by omega⟩ ?_
    refine zs_iload_n (j := 2) (i := 2) rfl rfl rfl ?_
    refine zs_imul_r rfl ⟨by omega, by omega⟩ ?_
    refine zs_callV (host := "") rfl kX1_88 vX1_nearest (c_X1_nearest p (10 * (g 16 2 p.toNat))) [ZI p, ZI (10 * (g 16 2 p.toNat))] [] rfl (zroom_of (by omega)) rfl (Nat.le_of_ble_eq_true rfl) (⟨rfl, hp.1, hpp, h18⟩) (fun r_71 g_71 hq_71 => ?_)
    obtain ⟨hr_71, hS_71, hL_71⟩ := hq_71
    rw [hr_71]
    show ZVV _ _ _ 74 _ [ZI (tNear (zTL g) p.toNat (10 * (g 16 2 p.toNat)) (g 2 2 0).toNat 0 (-5) 8)] g_71
    exact zs_ireturn rfl rfl (⟨by
    congr 2
    show _ = tGoes (zTL g) p.toNat
    unfold tGoes
    have e1 : tkd (zTL g) p.toNat = g 15 2 p.toNat := rfl
    have e2 : tv (zTL g) p.toNat = g 16 2 p.toNat := rfl
    have e3 : tn (zTL g) = g 2 2 0 := rfl
    have e4 : tmv (zTL g) = g 2 2 8 := rfl
    have e5 : tnp (zTL g) = g 2 2 3 := rfl
    have e6 : tho (zTL g) = g 18 2 := rfl
    rw [e1, e2, e3, e4, e5, e6]
    first
    | (exfalso; omega)
    | (rw [if_pos (by omega)])
    | (rw [if_neg (by omega), if_pos (by omega)])
    | (rw [if_neg (by omega), if_neg (by omega), if_pos (by omega)])
    | (rw [if_neg (by omega), if_neg (by omega), if_neg (by omega), if_pos (by omega), if_pos (by omega)])
    | (rw [if_neg (by omega), if_neg (by omega), if_neg (by omega), if_pos (by omega), if_neg (by omega)])
    | (rw [if_neg (by omega), if_neg (by omega), if_neg (by omega), if_neg (by omega), if_neg (by omega)]), hS_71, hL_71⟩)
  by_cases hs_19_5 : g 15 2 p.toNat = 5
  · refine zs_tsIn 81 rfl (by omega) (by omega) (off := 62) (by rw [hs_19_5]; rfl) (by omega) ?_
    refine zs_iload_n (j := 2) (i := 2) rfl rfl rfl ?_
    refine zs_iconst (n := 2) rfl ⟨by omega, by omega⟩ ?_
    refine zs_iadd_r rfl ⟨by omega, by omega⟩ ?_
    refine zs_if_le 101 rfl (by omega) (fun hc_84 => ?_) (fun hc_84 => ?_)
    · refine zs_bipush (n := (-5)) rfl ⟨by omega, by omega⟩ ?_
      refine zs_goto 111 rfl (by omega) ?_
      exact zs_ireturn rfl rfl (⟨by
    congr 2
    show _ = tGoes (zTL g) p.toNat
    unfold tGoes
    have e1 : tkd (zTL g) p.toNat = g 15 2 p.toNat := rfl
    have e2 : tv (zTL g) p.toNat = g 16 2 p.toNat := rfl
    have e3 : tn (zTL g) = g 2 2 0 := rfl
    have e4 : tmv (zTL g) = g 2 2 8 := rfl
    have e5 : tnp (zTL g) = g 2 2 3 := rfl
    have e6 : tho (zTL g) = g 18 2 := rfl
    rw [e1, e2, e3, e4, e5, e6]
    first
    | (exfalso; omega)
    | (rw [if_pos (by omega)])
    | (rw [if_neg (by omega), if_pos (by omega)])
    | (rw [if_neg (by omega), if_neg (by omega), if_pos (by omega)])
    | (rw [if_neg (by omega), if_neg (by omega), if_neg (by omega), if_pos (by omega), if_pos (by omega)])
    | (rw [if_neg (by omega), if_neg (by omega), if_neg (by omega), if_pos (by omega), if_neg (by omega)])
    | (rw [if_neg (by omega), if_neg (by omega), if_neg (by omega), if_neg (by omega), if_neg (by omega)]), zSL.rf g, hp.1⟩)
    · refine zs_aload_n (j := 0) (i := 0) rfl rfl rfl ?_
      refine zs_getfield (f := 1) (k := 0) rfl rfl (trivial) ?_
      show ZVV _ _ _ _ _ (ZR 2 2 :: _) _
      refine zs_getfield (f := 2) (k := 8) rfl rfl (trivial) ?_
      show ZVV _ _ _ _ _ (ZI (g 2 2 8) :: _) _
      refine zs_iload_n (j := 2) (i := 2) rfl rfl rfl ?_
      refine zs_iconst (n := 2) rfl ⟨by omega, by omega⟩ ?_
      refine zs_iadd_r rfl ⟨by omega, by omega⟩ ?_
      refine zs_irem_p rfl (by omega) (by omega) ?_
      show ZVV _ _ _ 98 _ _ _
      refine zs_if_ne 106 rfl (by omega) (fun hc_98 => ?_) (fun hc_98 => ?_)
      · refine zs_aload_n (j := 0) (i := 0) rfl rfl rfl ?_
        refine zs_iload_n (j := 1) (i := 1) rfl rfl rfl ?_
        refine zs_callV (host := "") rfl kX1_92 vX1_nextBehind (c_X1_nextBehind p) [ZI p] [] rfl (zroom_of (by omega)) rfl (Nat.le_of_ble_eq_true rfl) (⟨rfl, hp.1, hpp, h18⟩) (fun r_108 g_108 hq_108 => ?_)
        obtain ⟨hr_108, hS_108, hL_108⟩ := hq_108
        rw [hr_108]
        show ZVV _ _ _ 111 _ [ZI (tNext (zTL g) p.toNat ((g 2 2 0).toNat - 1) (g 18 2 p.toNat))] g_108
        exact zs_ireturn rfl rfl (⟨by
    congr 2
    show _ = tGoes (zTL g) p.toNat
    unfold tGoes
    have e1 : tkd (zTL g) p.toNat = g 15 2 p.toNat := rfl
    have e2 : tv (zTL g) p.toNat = g 16 2 p.toNat := rfl
    have e3 : tn (zTL g) = g 2 2 0 := rfl
    have e4 : tmv (zTL g) = g 2 2 8 := rfl
    have e5 : tnp (zTL g) = g 2 2 3 := rfl
    have e6 : tho (zTL g) = g 18 2 := rfl
    rw [e1, e2, e3, e4, e5, e6]
    first
    | (exfalso; omega)
    | (rw [if_pos (by omega)])
    | (rw [if_neg (by omega), if_pos (by omega)])
    | (rw [if_neg (by omega), if_neg (by omega), if_pos (by omega)])
    | (rw [if_neg (by omega), if_neg (by omega), if_neg (by omega), if_pos (by omega), if_pos (by omega)])
    | (rw [if_neg (by omega), if_neg (by omega), if_neg (by omega), if_pos (by omega), if_neg (by omega)])
    | (rw [if_neg (by omega), if_neg (by omega), if_neg (by omega), if_neg (by omega), if_neg (by omega)]), hS_108, hL_108⟩)
      · refine zs_bipush (n := (-5)) rfl ⟨by omega, by omega⟩ ?_
        refine zs_goto 111 rfl (by omega) ?_
        exact zs_ireturn rfl rfl (⟨by
    congr 2
    show _ = tGoes (zTL g) p.toNat
    unfold tGoes
    have e1 : tkd (zTL g) p.toNat = g 15 2 p.toNat := rfl
    have e2 : tv (zTL g) p.toNat = g 16 2 p.toNat := rfl
    have e3 : tn (zTL g) = g 2 2 0 := rfl
    have e4 : tmv (zTL g) = g 2 2 8 := rfl
    have e5 : tnp (zTL g) = g 2 2 3 := rfl
    have e6 : tho (zTL g) = g 18 2 := rfl
    rw [e1, e2, e3, e4, e5, e6]
    first
    | (exfalso; omega)
    | (rw [if_pos (by omega)])
    | (rw [if_neg (by omega), if_pos (by omega)])
    | (rw [if_neg (by omega), if_neg (by omega), if_pos (by omega)])
    | (rw [if_neg (by omega), if_neg (by omega), if_neg (by omega), if_pos (by omega), if_pos (by omega)])
    | (rw [if_neg (by omega), if_neg (by omega), if_neg (by omega), if_pos (by omega), if_neg (by omega)])
    | (rw [if_neg (by omega), if_neg (by omega), if_neg (by omega), if_neg (by omega), if_neg (by omega)]), zSL.rf g, hp.1⟩)
  by_cases hs_19_6 : g 15 2 p.toNat = 6
  · refine zs_tsIn 112 rfl (by omega) (by omega) (off := 93) (by rw [hs_19_6]; rfl) (by omega) ?_
    refine zs_aload_n (j := 0) (i := 0) rfl rfl rfl ?_
    refine zs_getfield (f := 1) (k := 0) rfl rfl (trivial) ?_
    show ZVV _ _ _ _ _ (ZR 2 2 :: _) _
    refine zs_getfield (f := 2) (k := 4) rfl rfl (trivial) ?_
    show ZVV _ _ _ _ _ (ZR 15 2 :: _) _
    refine zs_iload_n (j := 1) (i := 1) rfl rfl rfl ?_
    refine zs_iald (n := 6) rfl rfl (by omega) (by omega) ?_
    refine zs_bipush (n := 6) rfl ⟨by omega, by omega⟩ ?_
    refine zs_icmp_ne 151 rfl (by omega) (fun hc_123 => ?_) (fun hc_123 => ?_)
    · refine zs_aload_n (j := 0) (i := 0) rfl rfl rfl ?_
      refine zs_iload_n (j := 1) (i := 1) rfl rfl rfl ?_
      refine zs_callV (host := "") rfl kX1_102 vX1_partnerOf (c_X1_partnerOf p) [ZI p] [] rfl (zroom_of (by omega)) rfl (Nat.le_of_ble_eq_true rfl) (⟨rfl, hp.1, hp.2.1, hpp⟩) (fun r_153 g_153 hq_153 => ?_)
      obtain ⟨hr_153, hS_153, hL_153⟩ := hq_153
      rw [hr_153]
      show ZVV _ _ _ 156 _ [ZI (tPart (zTL g) p.toNat (g 2 2 3).toNat 0)] g_153
      refine zs_istore_n (j := 3) (i := 3) rfl rfl (by decide) (by intro r x hr; have hr2 : r = 2 := (by omega); subst hr2; intro z; cases z) ?_
      show ZVV _ _ _ _ [ZR 1 0, ZI p, ZI (g 16 2 p.toNat), ZI (tPart (zTL g) p.toNat (g 2 2 3).toNat 0)] _ _
      refine zs_iload_n (j := 3) (i := 3) rfl rfl rfl ?_
      have hpr := tPart_rng (zTL g) p.toNat (g 2 2 3).toNat 0
      refine zs_iconst (n := (-1)) rfl ⟨by omega, by omega⟩ ?_
      refine zs_icmp_ne 170 rfl (by omega) (fun hc_159 => ?_) (fun hc_159 => ?_)
      · have hpr := tPart_rng (zTL g) p.toNat (g 2 2 3).toNat 0
        refine zs_aload_n (j := 0) (i := 0) rfl rfl rfl ?_
        refine zs_getfield (f := 1) (k := 0) rfl rfl (trivial) ?_
        show ZVV _ _ _ _ _ (ZR 2 2 :: _) _
        refine zs_getfield (f := 2) (k := 7) rfl rfl (trivial) ?_
        show ZVV _ _ _ _ _ (ZR 18 2 :: _) _
        refine zs_iload_n (j := 3) (i := 3) rfl rfl rfl ?_
        refine zs_iald (n := 6) rfl rfl (by omega) (by omega) ?_
        show ZVV _ _ _ _ _ (ZI (g_153 18 2 (tPart (zTL g) p.toNat (g 2 2 3).toNat 0).toNat) :: _) _
        rw [(hS_153.1 18 (by decide) (by decide) (by decide) (by decide))]
        exact zs_ireturn rfl rfl (⟨by
    congr 2
    show _ = tGoes (zTL g) p.toNat
    unfold tGoes
    have e1 : tkd (zTL g) p.toNat = g 15 2 p.toNat := rfl
    have e2 : tv (zTL g) p.toNat = g 16 2 p.toNat := rfl
    have e3 : tn (zTL g) = g 2 2 0 := rfl
    have e4 : tmv (zTL g) = g 2 2 8 := rfl
    have e5 : tnp (zTL g) = g 2 2 3 := rfl
    have e6 : tho (zTL g) = g 18 2 := rfl
    rw [e1, e2, e3, e4, e5, e6]
    first
    | (exfalso; omega)
    | (rw [if_pos (by omega)])
    | (rw [if_neg (by omega), if_pos (by omega)])
    | (rw [if_neg (by omega), if_neg (by omega), if_pos (by omega)])
    | (rw [if_neg (by omega), if_neg (by omega), if_neg (by omega), if_pos (by omega), if_pos (by omega)])
    | (rw [if_neg (by omega), if_neg (by omega), if_neg (by omega), if_pos (by omega), if_neg (by omega)])
    | (rw [if_neg (by omega), if_neg (by omega), if_neg (by omega), if_neg (by omega), if_pos (by omega), if_neg (by rintro ⟨z1, z2⟩; first | omega | exact hc_146 (of_decide_eq_true z2)), if_pos (by omega)])
    | (rw [if_neg (by omega), if_neg (by omega), if_neg (by omega), if_neg (by omega), if_pos (by omega), if_neg (by rintro ⟨z1, z2⟩; first | omega | exact hc_146 (of_decide_eq_true z2)), if_neg (by omega)])
    | (rw [if_neg (by omega), if_neg (by omega), if_neg (by omega), if_neg (by omega), if_neg (by omega)]), hS_153, hL_153⟩)
      · refine zs_aload_n (j := 0) (i := 0) rfl rfl rfl ?_
        refine zs_iload_n (j := 1) (i := 1) rfl rfl rfl ?_
        refine zs_callV (host := "") rfl kX1_105 vX1_least (c_X1_least p) [ZI p] [] rfl (zroom_of (by omega)) rfl (Nat.le_of_ble_eq_true rfl) (⟨rfl, hL_153, (by rw [hS_153.1 2 (by decide) (by decide) (by decide) (by decide)]; exact hpp)⟩) (fun r_164 g_164 hq_164 => ?_)
        obtain ⟨hr_164, hS_164, hL_164⟩ := hq_164
        rw [hr_164, hS_153.townL]
        show ZVV _ _ _ 167 _ [ZI (tLeast (zTL g) p.toNat)] g_164
        refine zs_goto 179 rfl (by omega) ?_
        exact zs_ireturn rfl rfl (⟨by
    congr 2
    show _ = tGoes (zTL g) p.toNat
    unfold tGoes
    have e1 : tkd (zTL g) p.toNat = g 15 2 p.toNat := rfl
    have e2 : tv (zTL g) p.toNat = g 16 2 p.toNat := rfl
    have e3 : tn (zTL g) = g 2 2 0 := rfl
    have e4 : tmv (zTL g) = g 2 2 8 := rfl
    have e5 : tnp (zTL g) = g 2 2 3 := rfl
    have e6 : tho (zTL g) = g 18 2 := rfl
    rw [e1, e2, e3, e4, e5, e6]
    first
    | (exfalso; omega)
    | (rw [if_pos (by omega)])
    | (rw [if_neg (by omega), if_pos (by omega)])
    | (rw [if_neg (by omega), if_neg (by omega), if_pos (by omega)])
    | (rw [if_neg (by omega), if_neg (by omega), if_neg (by omega), if_pos (by omega), if_pos (by omega)])
    | (rw [if_neg (by omega), if_neg (by omega), if_neg (by omega), if_pos (by omega), if_neg (by omega)])
    | (rw [if_neg (by omega), if_neg (by omega), if_neg (by omega), if_neg (by omega), if_pos (by omega), if_neg (by rintro ⟨z1, z2⟩; first | omega | exact hc_146 (of_decide_eq_true z2)), if_pos (by omega)])
    | (rw [if_neg (by omega), if_neg (by omega), if_neg (by omega), if_neg (by omega), if_pos (by omega), if_neg (by rintro ⟨z1, z2⟩; first | omega | exact hc_146 (of_decide_eq_true z2)), if_neg (by omega)])
    | (rw [if_neg (by omega), if_neg (by omega), if_neg (by omega), if_neg (by omega), if_neg (by omega)]), hS_153.tr hS_164, hL_164⟩)
    · refine zs_iload_n (j := 2) (i := 2) rfl rfl rfl ?_
      refine zs_aload_n (j := 0) (i := 0) rfl rfl rfl ?_
      refine zs_getfield (f := 1) (k := 0) rfl rfl (trivial) ?_
      show ZVV _ _ _ _ _ (ZR 2 2 :: _) _
      refine zs_getfield (f := 2) (k := 0) rfl rfl (trivial) ?_
      show ZVV _ _ _ _ _ (ZI (g 2 2 0) :: _) _
      refine zs_icmp_ge 151 rfl (by omega) (fun hc_134 => ?_) (fun hc_134 => ?_)
      · refine zs_aload_n (j := 0) (i := 0) rfl rfl rfl ?_
        refine zs_iload_n (j := 1) (i := 1) rfl rfl rfl ?_
        refine zs_callV (host := "") rfl kX1_102 vX1_partnerOf (c_X1_partnerOf p) [ZI p] [] rfl (zroom_of (by omega)) rfl (Nat.le_of_ble_eq_true rfl) (⟨rfl, hp.1, hp.2.1, hpp⟩) (fun r_153 g_153 hq_153 => ?_)
        obtain ⟨hr_153, hS_153, hL_153⟩ := hq_153
        rw [hr_153]
        show ZVV _ _ _ 156 _ [ZI (tPart (zTL g) p.toNat (g 2 2 3).toNat 0)] g_153
        refine zs_istore_n (j := 3) (i := 3) rfl rfl (by decide) (by intro r x hr; have hr2 : r = 2 := (by omega); subst hr2; intro z; cases z) ?_
        show ZVV _ _ _ _ [ZR 1 0, ZI p, ZI (g 16 2 p.toNat), ZI (tPart (zTL g) p.toNat (g 2 2 3).toNat 0)] _ _
        refine zs_iload_n (j := 3) (i := 3) rfl rfl rfl ?_
        have hpr := tPart_rng (zTL g) p.toNat (g 2 2 3).toNat 0
        refine zs_iconst (n := (-1)) rfl ⟨by omega, by omega⟩ ?_
        refine zs_icmp_ne 170 rfl (by omega) (fun hc_159 => ?_) (fun hc_159 => ?_)
        · have hpr := tPart_rng (zTL g) p.toNat (g 2 2 3).toNat 0
          refine zs_aload_n (j := 0) (i := 0) rfl rfl rfl ?_
          refine zs_getfield (f := 1) (k := 0) rfl rfl (trivial) ?_
          show ZVV _ _ _ _ _ (ZR 2 2 :: _) _
          refine zs_getfield (f := 2) (k := 7) rfl rfl (trivial) ?_
          show ZVV _ _ _ _ _ (ZR 18 2 :: _) _
          refine zs_iload_n (j := 3) (i := 3) rfl rfl rfl ?_
          refine zs_iald (n := 6) rfl rfl (by omega) (by omega) ?_
          show ZVV _ _ _ _ _ (ZI (g_153 18 2 (tPart (zTL g) p.toNat (g 2 2 3).toNat 0).toNat) :: _) _
          rw [(hS_153.1 18 (by decide) (by decide) (by decide) (by decide))]
          exact zs_ireturn rfl rfl (⟨by
    congr 2
    show _ = tGoes (zTL g) p.toNat
    unfold tGoes
    have e1 : tkd (zTL g) p.toNat = g 15 2 p.toNat := rfl
    have e2 : tv (zTL g) p.toNat = g 16 2 p.toNat := rfl
    have e3 : tn (zTL g) = g 2 2 0 := rfl
    have e4 : tmv (zTL g) = g 2 2 8 := rfl
    have e5 : tnp (zTL g) = g 2 2 3 := rfl
    have e6 : tho (zTL g) = g 18 2 := rfl
    rw [e1, e2, e3, e4, e5, e6]
    first
    | (exfalso; omega)
    | (rw [if_pos (by omega)])
    | (rw [if_neg (by omega), if_pos (by omega)])
    | (rw [if_neg (by omega), if_neg (by omega), if_pos (by omega)])
    | (rw [if_neg (by omega), if_neg (by omega), if_neg (by omega), if_pos (by omega), if_pos (by omega)])
    | (rw [if_neg (by omega), if_neg (by omega), if_neg (by omega), if_pos (by omega), if_neg (by omega)])
    | (rw [if_neg (by omega), if_neg (by omega), if_neg (by omega), if_neg (by omega), if_pos (by omega), if_neg (by rintro ⟨z1, z2⟩; first | omega | exact hc_146 (of_decide_eq_true z2)), if_pos (by omega)])
    | (rw [if_neg (by omega), if_neg (by omega), if_neg (by omega), if_neg (by omega), if_pos (by omega), if_neg (by rintro ⟨z1, z2⟩; first | omega | exact hc_146 (of_decide_eq_true z2)), if_neg (by omega)])
    | (rw [if_neg (by omega), if_neg (by omega), if_neg (by omega), if_neg (by omega), if_neg (by omega)]), hS_153, hL_153⟩)
        · refine zs_aload_n (j := 0) (i := 0) rfl rfl rfl ?_
          refine zs_iload_n (j := 1) (i := 1) rfl rfl rfl ?_
          refine zs_callV (host := "") rfl kX1_105 vX1_least (c_X1_least p) [ZI p] [] rfl (zroom_of (by omega)) rfl (Nat.le_of_ble_eq_true rfl) (⟨rfl, hL_153, (by rw [hS_153.1 2 (by decide) (by decide) (by decide) (by decide)]; exact hpp)⟩) (fun r_164 g_164 hq_164 => ?_)
          obtain ⟨hr_164, hS_164, hL_164⟩ := hq_164
          rw [hr_164, hS_153.townL]
          show ZVV _ _ _ 167 _ [ZI (tLeast (zTL g) p.toNat)] g_164
          refine zs_goto 179 rfl (by omega) ?_
          exact zs_ireturn rfl rfl (⟨by
    congr 2
    show _ = tGoes (zTL g) p.toNat
    unfold tGoes
    have e1 : tkd (zTL g) p.toNat = g 15 2 p.toNat := rfl
    have e2 : tv (zTL g) p.toNat = g 16 2 p.toNat := rfl
    have e3 : tn (zTL g) = g 2 2 0 := rfl
    have e4 : tmv (zTL g) = g 2 2 8 := rfl
    have e5 : tnp (zTL g) = g 2 2 3 := rfl
    have e6 : tho (zTL g) = g 18 2 := rfl
    rw [e1, e2, e3, e4, e5, e6]
    first
    | (exfalso; omega)
    | (rw [if_pos (by omega)])
    | (rw [if_neg (by omega), if_pos (by omega)])
    | (rw [if_neg (by omega), if_neg (by omega), if_pos (by omega)])
    | (rw [if_neg (by omega), if_neg (by omega), if_neg (by omega), if_pos (by omega), if_pos (by omega)])
    | (rw [if_neg (by omega), if_neg (by omega), if_neg (by omega), if_pos (by omega), if_neg (by omega)])
    | (rw [if_neg (by omega), if_neg (by omega), if_neg (by omega), if_neg (by omega), if_pos (by omega), if_neg (by rintro ⟨z1, z2⟩; first | omega | exact hc_146 (of_decide_eq_true z2)), if_pos (by omega)])
    | (rw [if_neg (by omega), if_neg (by omega), if_neg (by omega), if_neg (by omega), if_pos (by omega), if_neg (by rintro ⟨z1, z2⟩; first | omega | exact hc_146 (of_decide_eq_true z2)), if_neg (by omega)])
    | (rw [if_neg (by omega), if_neg (by omega), if_neg (by omega), if_neg (by omega), if_neg (by omega)]), hS_153.tr hS_164, hL_164⟩)
      · refine zs_aload_n (j := 0) (i := 0) rfl rfl rfl ?_
        refine zs_getfield (f := 1) (k := 0) rfl rfl (trivial) ?_
        show ZVV _ _ _ _ _ (ZR 2 2 :: _) _
        refine zs_iload_n (j := 2) (i := 2) rfl rfl rfl ?_
        refine zs_callV (host := "") rfl kX1_99 vX2_whoIn (c_X2_whoIn 2 (g 16 2 p.toNat)) [ZI (g 16 2 p.toNat)] [] rfl (zroom_of (by omega)) rfl (Nat.le_of_ble_eq_true rfl) (⟨rfl, hn6⟩) (fun r_142 g_142 hq_142 => ?_)
        obtain ⟨hr_142, hg_142⟩ := hq_142
        rw [hr_142, hg_142]
        show ZVV _ _ _ 145 _ [ZI (zwho (g 2 2 3) (g 18 2) (g 16 2 p.toNat))] _
        refine zs_iconst (n := (-1)) rfl ⟨by omega, by omega⟩ ?_
        refine zs_icmp_ne 151 rfl (by omega) (fun hc_146 => ?_) (fun hc_146 => ?_)
        · refine zs_aload_n (j := 0) (i := 0) rfl rfl rfl ?_
          refine zs_iload_n (j := 1) (i := 1) rfl rfl rfl ?_
          refine zs_callV (host := "") rfl kX1_102 vX1_partnerOf (c_X1_partnerOf p) [ZI p] [] rfl (zroom_of (by omega)) rfl (Nat.le_of_ble_eq_true rfl) (⟨rfl, hp.1, hp.2.1, hpp⟩) (fun r_153 g_153 hq_153 => ?_)
          obtain ⟨hr_153, hS_153, hL_153⟩ := hq_153
          rw [hr_153]
          show ZVV _ _ _ 156 _ [ZI (tPart (zTL g) p.toNat (g 2 2 3).toNat 0)] g_153
          refine zs_istore_n (j := 3) (i := 3) rfl rfl (by decide) (by intro r x hr; have hr2 : r = 2 := (by omega); subst hr2; intro z; cases z) ?_
          show ZVV _ _ _ _ [ZR 1 0, ZI p, ZI (g 16 2 p.toNat), ZI (tPart (zTL g) p.toNat (g 2 2 3).toNat 0)] _ _
          refine zs_iload_n (j := 3) (i := 3) rfl rfl rfl ?_
          have hpr := tPart_rng (zTL g) p.toNat (g 2 2 3).toNat 0
          refine zs_iconst (n := (-1)) rfl ⟨by omega, by omega⟩ ?_
          refine zs_icmp_ne 170 rfl (by omega) (fun hc_159 => ?_) (fun hc_159 => ?_)
          · have hpr := tPart_rng (zTL g) p.toNat (g 2 2 3).toNat 0
            refine zs_aload_n (j := 0) (i := 0) rfl rfl rfl ?_
            refine zs_getfield (f := 1) (k := 0) rfl rfl (trivial) ?_
            show ZVV _ _ _ _ _ (ZR 2 2 :: _) _
            refine zs_getfield (f := 2) (k := 7) rfl rfl (trivial) ?_
            show ZVV _ _ _ _ _ (ZR 18 2 :: _) _
            refine zs_iload_n (j := 3) (i := 3) rfl rfl rfl ?_
            refine zs_iald (n := 6) rfl rfl (by omega) (by omega) ?_
            show ZVV _ _ _ _ _ (ZI (g_153 18 2 (tPart (zTL g) p.toNat (g 2 2 3).toNat 0).toNat) :: _) _
            rw [(hS_153.1 18 (by decide) (by decide) (by decide) (by decide))]
            exact zs_ireturn rfl rfl (⟨by
    congr 2
    show _ = tGoes (zTL g) p.toNat
    unfold tGoes
    have e1 : tkd (zTL g) p.toNat = g 15 2 p.toNat := rfl
    have e2 : tv (zTL g) p.toNat = g 16 2 p.toNat := rfl
    have e3 : tn (zTL g) = g 2 2 0 := rfl
    have e4 : tmv (zTL g) = g 2 2 8 := rfl
    have e5 : tnp (zTL g) = g 2 2 3 := rfl
    have e6 : tho (zTL g) = g 18 2 := rfl
    rw [e1, e2, e3, e4, e5, e6]
    first
    | (exfalso; omega)
    | (rw [if_pos (by omega)])
    | (rw [if_neg (by omega), if_pos (by omega)])
    | (rw [if_neg (by omega), if_neg (by omega), if_pos (by omega)])
    | (rw [if_neg (by omega), if_neg (by omega), if_neg (by omega), if_pos (by omega), if_pos (by omega)])
    | (rw [if_neg (by omega), if_neg (by omega), if_neg (by omega), if_pos (by omega), if_neg (by omega)])
    | (rw [if_neg (by omega), if_neg (by omega), if_neg (by omega), if_neg (by omega), if_pos (by omega), if_neg (by rintro ⟨z1, z2⟩; first | omega | exact hc_146 (of_decide_eq_true z2)), if_pos (by omega)])
    | (rw [if_neg (by omega), if_neg (by omega), if_neg (by omega), if_neg (by omega), if_pos (by omega), if_neg (by rintro ⟨z1, z2⟩; first | omega | exact hc_146 (of_decide_eq_true z2)), if_neg (by omega)])
    | (rw [if_neg (by omega), if_neg (by omega), if_neg (by omega), if_neg (by omega), if_neg (by omega)]), hS_153, hL_153⟩)
          · refine zs_aload_n (j := 0) (i := 0) rfl rfl rfl ?_
            refine zs_iload_n (j := 1) (i := 1) rfl rfl rfl ?_
            refine zs_callV (host := "") rfl kX1_105 vX1_least (c_X1_least p) [ZI p] [] rfl (zroom_of (by omega)) rfl (Nat.le_of_ble_eq_true rfl) (⟨rfl, hL_153, (by rw [hS_153.1 2 (by decide) (by decide) (by decide) (by decide)]; exact hpp)⟩) (fun r_164 g_164 hq_164 => ?_)
            obtain ⟨hr_164, hS_164, hL_164⟩ := hq_164
            rw [hr_164, hS_153.townL]
            show ZVV _ _ _ 167 _ [ZI (tLeast (zTL g) p.toNat)] g_164
            refine zs_goto 179 rfl (by omega) ?_
            exact zs_ireturn rfl rfl (⟨by
    congr 2
    show _ = tGoes (zTL g) p.toNat
    unfold tGoes
    have e1 : tkd (zTL g) p.toNat = g 15 2 p.toNat := rfl
    have e2 : tv (zTL g) p.toNat = g 16 2 p.toNat := rfl
    have e3 : tn (zTL g) = g 2 2 0 := rfl
    have e4 : tmv (zTL g) = g 2 2 8 := rfl
    have e5 : tnp (zTL g) = g 2 2 3 := rfl
    have e6 : tho (zTL g) = g 18 2 := rfl
    rw [e1, e2, e3, e4, e5, e6]
    first
    | (exfalso; omega)
    | (rw [if_pos (by omega)])
    | (rw [if_neg (by omega), if_pos (by omega)])
    | (rw [if_neg (by omega), if_neg (by omega), if_pos (by omega)])
    | (rw [if_neg (by omega), if_neg (by omega), if_neg (by omega), if_pos (by omega), if_pos (by omega)])
    | (rw [if_neg (by omega), if_neg (by omega), if_neg (by omega), if_pos (by omega), if_neg (by omega)])
    | (rw [if_neg (by omega), if_neg (by omega), if_neg (by omega), if_neg (by omega), if_pos (by omega), if_neg (by rintro ⟨z1, z2⟩; first | omega | exact hc_146 (of_decide_eq_true z2)), if_pos (by omega)])
    | (rw [if_neg (by omega), if_neg (by omega), if_neg (by omega), if_neg (by omega), if_pos (by omega), if_neg (by rintro ⟨z1, z2⟩; first | omega | exact hc_146 (of_decide_eq_true z2)), if_neg (by omega)])
    | (rw [if_neg (by omega), if_neg (by omega), if_neg (by omega), if_neg (by omega), if_neg (by omega)]), hS_153.tr hS_164, hL_164⟩)
        · refine zs_iload_n (j := 2) (i := 2) rfl rfl rfl ?_
          exact zs_ireturn rfl rfl (⟨by
    congr 2
    show _ = tGoes (zTL g) p.toNat
    unfold tGoes
    have e1 : tkd (zTL g) p.toNat = g 15 2 p.toNat := rfl
    have e2 : tv (zTL g) p.toNat = g 16 2 p.toNat := rfl
    have e3 : tn (zTL g) = g 2 2 0 := rfl
    have e4 : tmv (zTL g) = g 2 2 8 := rfl
    have e5 : tnp (zTL g) = g 2 2 3 := rfl
    have e6 : tho (zTL g) = g 18 2 := rfl
    rw [e1, e2, e3, e4, e5, e6]
    first
    | (exfalso; omega)
    | (rw [if_pos (by omega)])
    | (rw [if_neg (by omega), if_pos (by omega)])
    | (rw [if_neg (by omega), if_neg (by omega), if_pos (by omega)])
    | (rw [if_neg (by omega), if_neg (by omega), if_neg (by omega), if_pos (by omega), if_pos (by omega)])
    | (rw [if_neg (by omega), if_neg (by omega), if_neg (by omega), if_pos (by omega), if_neg (by omega)])
    | (rw [if_neg (by omega), if_neg (by omega), if_neg (by omega), if_neg (by omega), if_pos (by omega), if_pos ⟨by omega, decide_eq_true (Classical.not_not.mp hc_146)⟩])
    | (rw [if_neg (by omega), if_neg (by omega), if_neg (by omega), if_neg (by omega), if_neg (by omega)]), zSL.rf g, hp.1⟩)
  refine zs_tsOut 180 rfl (by omega) (by omega) ?_
  refine zs_aload_n (j := 0) (i := 0) rfl rfl rfl ?_
  refine zs_iload_n (j := 1) (i := 1) rfl rfl rfl ?_
  refine zs_callV (host := "") rfl kX1_105 vX1_least (c_X1_least p) [ZI p] [] rfl (zroom_of (by omega)) rfl (Nat.le_of_ble_eq_true rfl) (⟨rfl, hp.1, hpp⟩) (fun r_182 g_182 hq_182 => ?_)
  obtain ⟨hr_182, hS_182, hL_182⟩ := hq_182
  rw [hr_182]
  show ZVV _ _ _ 185 _ [ZI (tLeast (zTL g) p.toNat)] g_182
  exact zs_ireturn rfl rfl (⟨by
    congr 2
    show _ = tGoes (zTL g) p.toNat
    unfold tGoes
    have e1 : tkd (zTL g) p.toNat = g 15 2 p.toNat := rfl
    have e2 : tv (zTL g) p.toNat = g 16 2 p.toNat := rfl
    have e3 : tn (zTL g) = g 2 2 0 := rfl
    have e4 : tmv (zTL g) = g 2 2 8 := rfl
    have e5 : tnp (zTL g) = g 2 2 3 := rfl
    have e6 : tho (zTL g) = g 18 2 := rfl
    rw [e1, e2, e3, e4, e5, e6]
    first
    | (exfalso; omega)
    | (rw [if_pos (by omega)])
    | (rw [if_neg (by omega), if_pos (by omega)])
    | (rw [if_neg (by omega), if_neg (by omega), if_pos (by omega)])
    | (rw [if_neg (by omega), if_neg (by omega), if_neg (by omega), if_pos (by omega), if_pos (by omega)])
    | (rw [if_neg (by omega), if_neg (by omega), if_neg (by omega), if_pos (by omega), if_neg (by omega)])
    | (rw [if_neg (by omega), if_neg (by omega), if_neg (by omega), if_neg (by omega), if_neg (by omega)]), hS_182, hL_182⟩)

