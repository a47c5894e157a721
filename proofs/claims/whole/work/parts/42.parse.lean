set_option maxHeartbeats 4000000 in
theorem c_X5_readNumber (g0 : ZG) (j : Nat) (s : PS) : ZC mX5_readNumber 3 (fun av g => av = [ZR 5 0] ∧ g = pset g0 j s ∧ PB s) (fun _ g r g' => r = some (ZI (pNum (lkf g0) s).1) ∧ g' = pset g0 j (pNum (lkf g0) s).2) := by
  refine zc_of gX5_readNumber (fun av g hp => by obtain ⟨rfl, -⟩ := hp; exact Nat.le_of_ble_eq_true rfl) (fun Y av g hwf hrg hp hok => ?_)
  obtain ⟨rfl, hp⟩ := hp
  show ZVV _ _ _ 0 [ZR 5 0, ZX 99, ZX 99] [] _
  obtain ⟨rfl, hB⟩ := hp
  obtain ⟨a, fl, out⟩ := s
  cases fl
  · refine zs_iconst (n := 0) rfl ⟨by omega, by omega⟩ ?_
    refine zs_istore_n (j := 1) (i := 1) rfl rfl (by decide) (by intro r x hr; have hr2 : r = 0 := (by omega); subst hr2; intro z; cases z) ?_
    show ZVV _ _ _ _ [ZR 5 0, ZI 0, ZX 99] _ _
    refine zs_iconst (n := 0) rfl ⟨by omega, by omega⟩ ?_
    refine zs_istore_n (j := 2) (i := 2) rfl rfl (by decide) (by intro r x hr; have hr2 : r = 1 := (by omega); subst hr2; intro z; cases z) ?_
    show ZVV _ _ _ _ [ZR 5 0, ZI 0, ZI 0] _ _
    refine zs_iload_n (j := 2) (i := 2) rfl rfl rfl ?_
    refine zs_iconst (n := 2) rfl ⟨by omega, by omega⟩ ?_
    refine zs_icmp_ge 75 rfl (by omega) (fun hc_6 => ?_) (fun hc_6 => ?_)
    · exfalso; omega
    · refine zs_aload_n (j := 0) (i := 0) rfl rfl rfl ?_
      refine zs_getfield (f := 5) (k := 4) rfl rfl (trivial) ?_
      show ZVV _ _ _ _ _ (ZI (lkf g0 a) :: _) _
      refine zs_bipush (n := 48) rfl ⟨by omega, by omega⟩ ?_
      refine zs_icmp_lt 60 rfl (by omega) (fun hc_15 => ?_) (fun hc_15 => ?_)
      · refine zs_iload_n (j := 2) (i := 2) rfl rfl rfl ?_
        refine zs_if_ne 69 rfl (by omega) (fun hc_61 => ?_) (fun hc_61 => ?_)
        · exfalso; omega
        · refine zs_aload_n (j := 0) (i := 0) rfl rfl rfl ?_
          refine zs_iconst (n := 1) rfl ⟨by omega, by omega⟩ ?_
          refine zs_putfield (f := 5) (k := 5) (x := 1) rfl rfl (zpvZ (x := 1) ⟨by omega, by omega⟩) ?_
          rw [show zup (pset g0 j (a, false, out)) 5 0 5 1 = pset g0 j (a, true, out) from pset_fl g0 j (a, false, out) true]
          refine zs_iinc_r (i := 2) rfl rfl (by intro r x hr; have hr2 : r = 1 := (by omega); subst hr2; intro z; cases z) ⟨by omega, by omega⟩ ?_
          show ZVV _ _ _ _ [ZR 5 0, ZI 0, ZI (0 + 1)] _ _
          refine zs_goto 4 rfl (by omega) ?_
          refine zs_iload_n (j := 2) (i := 2) rfl rfl rfl ?_
          refine zs_iconst (n := 2) rfl ⟨by omega, by omega⟩ ?_
          show ZVV _ _ _ 6 _ _ _
          refine zs_icmp_ge 75 rfl (by omega) (fun hc_6 => ?_) (fun hc_6 => ?_)
          · exfalso; omega
          · refine zs_aload_n (j := 0) (i := 0) rfl rfl rfl ?_
            refine zs_getfield (f := 5) (k := 4) rfl rfl (trivial) ?_
            show ZVV _ _ _ _ _ (ZI (lkf g0 a) :: _) _
            refine zs_bipush (n := 48) rfl ⟨by omega, by omega⟩ ?_
            refine zs_icmp_lt 60 rfl (by omega) (fun hc_15 => ?_) (fun hc_15 => ?_)
            · refine zs_iload_n (j := 2) (i := 2) rfl rfl rfl ?_
              refine zs_if_ne 69 rfl (by omega) (fun hc_61 => ?_) (fun hc_61 => ?_)
              · skip
                refine zs_iinc_r (i := 2) rfl rfl (by intro r x hr; have hr2 : r = 1 := (by omega); subst hr2; intro z; cases z) ⟨by omega, by omega⟩ ?_
                show ZVV _ _ _ _ [ZR 5 0, ZI 0, ZI (0 + 1 + 1)] _ _
                refine zs_goto 4 rfl (by omega) ?_
                refine zs_iload_n (j := 2) (i := 2) rfl rfl rfl ?_
                refine zs_iconst (n := 2) rfl ⟨by omega, by omega⟩ ?_
                refine zs_icmp_ge 75 rfl (by omega) (fun hc_6 => ?_) (fun hc_6 => ?_)
                · refine zs_iload_n (j := 1) (i := 1) rfl rfl rfl ?_
                  exact zs_ireturn rfl rfl (⟨by unfold pNum; rw [if_pos (Or.inr (show ¬ (48 ≤ lkf g0 a ∧ lkf g0 a ≤ 57) by omega))], by unfold pNum; rw [if_pos (Or.inr (show ¬ (48 ≤ lkf g0 a ∧ lkf g0 a ≤ 57) by omega))]⟩)
                · exfalso; omega
              · exfalso; omega
            · refine zs_aload_n (j := 0) (i := 0) rfl rfl rfl ?_
              refine zs_getfield (f := 5) (k := 4) rfl rfl (trivial) ?_
              show ZVV _ _ _ _ _ (ZI (lkf g0 a) :: _) _
              refine zs_bipush (n := 57) rfl ⟨by omega, by omega⟩ ?_
              refine zs_icmp_gt 60 rfl (by omega) (fun hc_24 => ?_) (fun hc_24 => ?_)
              · refine zs_iload_n (j := 2) (i := 2) rfl rfl rfl ?_
                refine zs_if_ne 69 rfl (by omega) (fun hc_61 => ?_) (fun hc_61 => ?_)
                · skip
                  refine zs_iinc_r (i := 2) rfl rfl (by intro r x hr; have hr2 : r = 1 := (by omega); subst hr2; intro z; cases z) ⟨by omega, by omega⟩ ?_
                  show ZVV _ _ _ _ [ZR 5 0, ZI 0, ZI (0 + 1 + 1)] _ _
                  refine zs_goto 4 rfl (by omega) ?_
                  refine zs_iload_n (j := 2) (i := 2) rfl rfl rfl ?_
                  refine zs_iconst (n := 2) rfl ⟨by omega, by omega⟩ ?_
                  refine zs_icmp_ge 75 rfl (by omega) (fun hc_6 => ?_) (fun hc_6 => ?_)
                  · refine zs_iload_n (j := 1) (i := 1) rfl rfl rfl ?_
                    exact zs_ireturn rfl rfl (⟨by unfold pNum; rw [if_pos (Or.inr (show ¬ (48 ≤ lkf g0 a ∧ lkf g0 a ≤ 57) by omega))], by unfold pNum; rw [if_pos (Or.inr (show ¬ (48 ≤ lkf g0 a ∧ lkf g0 a ≤ 57) by omega))]⟩)
                  · exfalso; omega
                · exfalso; omega
              · refine zs_aload_n (j := 0) (i := 0) rfl rfl rfl ?_
                refine zs_getfield (f := 5) (k := 5) rfl rfl (trivial) ?_
                show ZVV _ _ _ _ _ (ZI 1 :: _) _
                refine zs_if_ne 60 rfl (by omega) (fun hc_31 => ?_) (fun hc_31 => ?_)
                · refine zs_iload_n (j := 2) (i := 2) rfl rfl rfl ?_
                  refine zs_if_ne 69 rfl (by omega) (fun hc_61 => ?_) (fun hc_61 => ?_)
                  · skip
                    refine zs_iinc_r (i := 2) rfl rfl (by intro r x hr; have hr2 : r = 1 := (by omega); subst hr2; intro z; cases z) ⟨by omega, by omega⟩ ?_
                    show ZVV _ _ _ _ [ZR 5 0, ZI 0, ZI (0 + 1 + 1)] _ _
                    refine zs_goto 4 rfl (by omega) ?_
                    refine zs_iload_n (j := 2) (i := 2) rfl rfl rfl ?_
                    refine zs_iconst (n := 2) rfl ⟨by omega, by omega⟩ ?_
                    refine zs_icmp_ge 75 rfl (by omega) (fun hc_6 => ?_) (fun hc_6 => ?_)
                    · refine zs_iload_n (j := 1) (i := 1) rfl rfl rfl ?_
                      exact zs_ireturn rfl rfl (⟨by unfold pNum; rw [if_pos (Or.inr (show ¬ (48 ≤ lkf g0 a ∧ lkf g0 a ≤ 57) by omega))], by unfold pNum; rw [if_pos (Or.inr (show ¬ (48 ≤ lkf g0 a ∧ lkf g0 a ≤ 57) by omega))]⟩)
                    · exfalso; omega
                  · exfalso; omega
                · exfalso; omega
      · refine zs_aload_n (j := 0) (i := 0) rfl rfl rfl ?_
        refine zs_getfield (f := 5) (k := 4) rfl rfl (trivial) ?_
        show ZVV _ _ _ _ _ (ZI (lkf g0 a) :: _) _
        refine zs_bipush (n := 57) rfl ⟨by omega, by omega⟩ ?_
        refine zs_icmp_gt 60 rfl (by omega) (fun hc_24 => ?_) (fun hc_24 => ?_)
        · refine zs_iload_n (j := 2) (i := 2) rfl rfl rfl ?_
          refine zs_if_ne 69 rfl (by omega) (fun hc_61 => ?_) (fun hc_61 => ?_)
          · exfalso; omega
          · refine zs_aload_n (j := 0) (i := 0) rfl rfl rfl ?_
            refine zs_iconst (n := 1) rfl ⟨by omega, by omega⟩ ?_
            refine zs_putfield (f := 5) (k := 5) (x := 1) rfl rfl (zpvZ (x := 1) ⟨by omega, by omega⟩) ?_
            rw [show zup (pset g0 j (a, false, out)) 5 0 5 1 = pset g0 j (a, true, out) from pset_fl g0 j (a, false, out) true]
            refine zs_iinc_r (i := 2) rfl rfl (by intro r x hr; have hr2 : r = 1 := (by omega); subst hr2; intro z; cases z) ⟨by omega, by omega⟩ ?_
            show ZVV _ _ _ _ [ZR 5 0, ZI 0, ZI (0 + 1)] _ _
            refine zs_goto 4 rfl (by omega) ?_
            refine zs_iload_n (j := 2) (i := 2) rfl rfl rfl ?_
            refine zs_iconst (n := 2) rfl ⟨by omega, by omega⟩ ?_
            show ZVV _ _ _ 6 _ _ _
            refine zs_icmp_ge 75 rfl (by omega) (fun hc_6 => ?_) (fun hc_6 => ?_)
            · exfalso; omega
            · refine zs_aload_n (j := 0) (i := 0) rfl rfl rfl ?_
              refine zs_getfield (f := 5) (k := 4) rfl rfl (trivial) ?_
              show ZVV _ _ _ _ _ (ZI (lkf g0 a) :: _) _
              refine zs_bipush (n := 48) rfl ⟨by omega, by omega⟩ ?_
              refine zs_icmp_lt 60 rfl (by omega) (fun hc_15 => ?_) (fun hc_15 => ?_)
              · refine zs_iload_n (j := 2) (i := 2) rfl rfl rfl ?_
                refine zs_if_ne 69 rfl (by omega) (fun hc_61 => ?_) (fun hc_61 => ?_)
                · skip
                  refine zs_iinc_r (i := 2) rfl rfl (by intro r x hr; have hr2 : r = 1 := (by omega); subst hr2; intro z; cases z) ⟨by omega, by omega⟩ ?_
                  show ZVV _ _ _ _ [ZR 5 0, ZI 0, ZI (0 + 1 + 1)] _ _
                  refine zs_goto 4 rfl (by omega) ?_
                  refine zs_iload_n (j := 2) (i := 2) rfl rfl rfl ?_
                  refine zs_iconst (n := 2) rfl ⟨by omega, by omega⟩ ?_
                  refine zs_icmp_ge 75 rfl (by omega) (fun hc_6 => ?_) (fun hc_6 => ?_)
                  · refine zs_iload_n (j := 1) (i := 1) rfl rfl rfl ?_
                    exact zs_ireturn rfl rfl (⟨by unfold pNum; rw [if_pos (Or.inr (show ¬ (48 ≤ lkf g0 a ∧ lkf g0 a ≤ 57) by omega))], by unfold pNum; rw [if_pos (Or.inr (show ¬ (48 ≤ lkf g0 a ∧ lkf g0 a ≤ 57) by omega))]⟩)
                  · exfalso; omega
                · exfalso; omega
              · refine zs_aload_n (j := 0) (i := 0) rfl rfl rfl ?_
                refine zs_getfield (f := 5) (k := 4) rfl rfl (trivial) ?_
                show ZVV _ _ _ _ _ (ZI (lkf g0 a) :: _) _
                refine zs_bipush (n := 57) rfl ⟨by omega, by omega⟩ ?_
                refine zs_icmp_gt 60 rfl (by omega) (fun hc_24 => ?_) (fun hc_24 => ?_)
                · refine zs_iload_n (j := 2) (i := 2) rfl rfl rfl ?_
                  refine zs_if_ne 69 rfl (by omega) (fun hc_61 => ?_) (fun hc_61 => ?_)
                  · skip
                    refine zs_iinc_r (i := 2) rfl rfl (by intro r x hr; have hr2 : r = 1 := (by omega); subst hr2; intro z; cases z) ⟨by omega, by omega⟩ ?_
                    show ZVV _ _ _ _ [ZR 5 0, ZI 0, ZI (0 + 1 + 1)] _ _
                    refine zs_goto 4 rfl (by omega) ?_
                    refine zs_iload_n (j := 2) (i := 2) rfl rfl rfl ?_
                    refine zs_iconst (n := 2) rfl ⟨by omega, by omega⟩ ?_
                    refine zs_icmp_ge 75 rfl (by omega) (fun hc_6 => ?_) (fun hc_6 => ?_)
                    · refine zs_iload_n (j := 1) (i := 1) rfl rfl rfl ?_
                      exact zs_ireturn rfl rfl (⟨by unfold pNum; rw [if_pos (Or.inr (show ¬ (48 ≤ lkf g0 a ∧ lkf g0 a ≤ 57) by omega))], by unfold pNum; rw [if_pos (Or.inr (show ¬ (48 ≤ lkf g0 a ∧ lkf g0 a ≤ 57) by omega))]⟩)
                    · exfalso; omega
                  · exfalso; omega
                · refine zs_aload_n (j := 0) (i := 0) rfl rfl rfl ?_
                  refine zs_getfield (f := 5) (k := 5) rfl rfl (trivial) ?_
                  show ZVV _ _ _ _ _ (ZI 1 :: _) _
                  refine zs_if_ne 60 rfl (by omega) (fun hc_31 => ?_) (fun hc_31 => ?_)
                  · refine zs_iload_n (j := 2) (i := 2) rfl rfl rfl ?_
                    refine zs_if_ne 69 rfl (by omega) (fun hc_61 => ?_) (fun hc_61 => ?_)
                    · skip
                      refine zs_iinc_r (i := 2) rfl rfl (by intro r x hr; have hr2 : r = 1 := (by omega); subst hr2; intro z; cases z) ⟨by omega, by omega⟩ ?_
                      show ZVV _ _ _ _ [ZR 5 0, ZI 0, ZI (0 + 1 + 1)] _ _
                      refine zs_goto 4 rfl (by omega) ?_
                      refine zs_iload_n (j := 2) (i := 2) rfl rfl rfl ?_
                      refine zs_iconst (n := 2) rfl ⟨by omega, by omega⟩ ?_
                      refine zs_icmp_ge 75 rfl (by omega) (fun hc_6 => ?_) (fun hc_6 => ?_)
                      · refine zs_iload_n (j := 1) (i := 1) rfl rfl rfl ?_
                        exact zs_ireturn rfl rfl (⟨by unfold pNum; rw [if_pos (Or.inr (show ¬ (48 ≤ lkf g0 a ∧ lkf g0 a ≤ 57) by omega))], by unfold pNum; rw [if_pos (Or.inr (show ¬ (48 ≤ lkf g0 a ∧ lkf g0 a ≤ 57) by omega))]⟩)
                      · exfalso; omega
                    · exfalso; omega
                  · exfalso; omega
        · refine zs_aload_n (j := 0) (i := 0) rfl rfl rfl ?_
          refine zs_getfield (f := 5) (k := 5) rfl rfl (trivial) ?_
          show ZVV _ _ _ _ _ (ZI 0 :: _) _
          refine zs_if_ne 60 rfl (by omega) (fun hc_31 => ?_) (fun hc_31 => ?_)
          · exfalso; omega
          · refine zs_iload_n (j := 1) (i := 1) rfl rfl rfl ?_
            refine zs_bipush (n := 10) rfl ⟨by omega, by omega⟩ ?_
            refine zs_imul_r rfl ⟨by omega, by omega⟩ ?_
            refine zs_aload_n (j := 0) (i := 0) rfl rfl rfl ?_
            refine zs_getfield (f := 5) (k := 4) rfl rfl (trivial) ?_
            show ZVV _ _ _ _ _ (ZI (lkf g0 a) :: _) _
            refine zs_iadd_r rfl ⟨by omega, by omega⟩ ?_
            refine zs_bipush (n := 48) rfl ⟨by omega, by omega⟩ ?_
            show ZVV _ _ _ 45 _ _ _
            refine zs_isub_r rfl ⟨by omega, by omega⟩ ?_
            refine zs_istore_n (j := 1) (i := 1) rfl rfl (by decide) (by intro r x hr; have hr2 : r = 0 := (by omega); subst hr2; intro z; cases z) ?_
            show ZVV _ _ _ _ [ZR 5 0, ZI (((0 * 10) + (lkf g0 a)) - 48), ZI 0] _ _
            refine zs_aload_n (j := 0) (i := 0) rfl rfl rfl ?_
            refine zs_aload_n (j := 0) (i := 0) rfl rfl rfl ?_
            refine zs_getfield (f := 5) (k := 3) rfl rfl (trivial) ?_
            show ZVV _ _ _ _ _ (ZI a :: _) _
            refine zs_iconst (n := 1) rfl ⟨by omega, by omega⟩ ?_
            refine zs_iadd_r rfl ⟨by have h9 : (0 : Int) ≤ a ∧ a ≤ 100 := hB.1; omega, by have h9 : (0 : Int) ≤ a ∧ a ≤ 100 := hB.1; omega⟩ ?_
            refine zs_callV (host := "") rfl kX5_32 vX5_lookAt (c_X5_lookAtR (a + 1)) [ZI (a + 1)] [] rfl (zroom_of (by omega)) rfl (Nat.le_of_ble_eq_true rfl) ⟨rfl, trivial⟩ (fun r_54 g_54 hq_54 => ?_)
            obtain ⟨hr_54, hg_54⟩ := hq_54
            rw [show lkf (pset g0 j (a, false, out)) = lkf g0 from rfl, pset_at] at hg_54
            rw [hr_54, hg_54]
            show ZVV _ _ _ 57 _ [] _
            rw [show pset g0 j (a + 1, ((a, false, out)).2) = pset g0 j (a + 1, false, out) from rfl]
            show ZVV _ _ _ 57 _ _ _
            refine zs_goto 69 rfl (by omega) ?_
            skip
            refine zs_iinc_r (i := 2) rfl rfl (by intro r x hr; have hr2 : r = 1 := (by omega); subst hr2; intro z; cases z) ⟨by omega, by omega⟩ ?_
            show ZVV _ _ _ _ [ZR 5 0, ZI (((0 * 10) + (lkf g0 a)) - 48), ZI (0 + 1)] _ _
            refine zs_goto 4 rfl (by omega) ?_
            refine zs_iload_n (j := 2) (i := 2) rfl rfl rfl ?_
            refine zs_iconst (n := 2) rfl ⟨by omega, by omega⟩ ?_
            refine zs_icmp_ge 75 rfl (by omega) (fun hc_6 => ?_) (fun hc_6 => ?_)
            · exfalso; omega
            · refine zs_aload_n (j := 0) (i := 0) rfl rfl rfl ?_
              refine zs_getfield (f := 5) (k := 4) rfl rfl (trivial) ?_
              show ZVV _ _ _ _ _ (ZI (lkf g0 (a + 1)) :: _) _
              refine zs_bipush (n := 48) rfl ⟨by omega, by omega⟩ ?_
              refine zs_icmp_lt 60 rfl (by omega) (fun hc_15 => ?_) (fun hc_15 => ?_)
              · refine zs_iload_n (j := 2) (i := 2) rfl rfl rfl ?_
                refine zs_if_ne 69 rfl (by omega) (fun hc_61 => ?_) (fun hc_61 => ?_)
                · skip
                  refine zs_iinc_r (i := 2) rfl rfl (by intro r x hr; have hr2 : r = 1 := (by omega); subst hr2; intro z; cases z) ⟨by omega, by omega⟩ ?_
                  show ZVV _ _ _ _ [ZR 5 0, ZI (((0 * 10) + (lkf g0 a)) - 48), ZI (0 + 1 + 1)] _ _
                  refine zs_goto 4 rfl (by omega) ?_
                  refine zs_iload_n (j := 2) (i := 2) rfl rfl rfl ?_
                  refine zs_iconst (n := 2) rfl ⟨by omega, by omega⟩ ?_
                  refine zs_icmp_ge 75 rfl (by omega) (fun hc_6 => ?_) (fun hc_6 => ?_)
                  · refine zs_iload_n (j := 1) (i := 1) rfl rfl rfl ?_
                    exact zs_ireturn rfl rfl (⟨by unfold pNum; rw [if_neg (show ¬ ((a, false, out).2.1 = true ∨ ¬ (48 ≤ lkf g0 a ∧ lkf g0 a ≤ 57)) from fun z => z.elim (fun y => nomatch y) (fun y => y ⟨by omega, by omega⟩)), if_neg (show ¬ (48 ≤ lkf g0 (a + 1) ∧ lkf g0 (a + 1) ≤ 57) by omega)]; show some (ZI _) = some (ZI _); congr 2; dsimp only; omega, by unfold pNum; rw [if_neg (show ¬ ((a, false, out).2.1 = true ∨ ¬ (48 ≤ lkf g0 a ∧ lkf g0 a ≤ 57)) from fun z => z.elim (fun y => nomatch y) (fun y => y ⟨by omega, by omega⟩)), if_neg (show ¬ (48 ≤ lkf g0 (a + 1) ∧ lkf g0 (a + 1) ≤ 57) by omega)]⟩)
                  · exfalso; omega
                · exfalso; omega
              · refine zs_aload_n (j := 0) (i := 0) rfl rfl rfl ?_
                refine zs_getfield (f := 5) (k := 4) rfl rfl (trivial) ?_
                show ZVV _ _ _ _ _ (ZI (lkf g0 (a + 1)) :: _) _
                refine zs_bipush (n := 57) rfl ⟨by omega, by omega⟩ ?_
                refine zs_icmp_gt 60 rfl (by omega) (fun hc_24 => ?_) (fun hc_24 => ?_)
                · refine zs_iload_n (j := 2) (i := 2) rfl rfl rfl ?_
                  refine zs_if_ne 69 rfl (by omega) (fun hc_61 => ?_) (fun hc_61 => ?_)
                  · skip
                    refine zs_iinc_r (i := 2) rfl rfl (by intro r x hr; have hr2 : r = 1 := (by omega); subst hr2; intro z; cases z) ⟨by omega, by omega⟩ ?_
                    show ZVV _ _ _ _ [ZR 5 0, ZI (((0 * 10) + (lkf g0 a)) - 48), ZI (0 + 1 + 1)] _ _
                    refine zs_goto 4 rfl (by omega) ?_
                    refine zs_iload_n (j := 2) (i := 2) rfl rfl rfl ?_
                    refine zs_iconst (n := 2) rfl ⟨by omega, by omega⟩ ?_
                    refine zs_icmp_ge 75 rfl (by omega) (fun hc_6 => ?_) (fun hc_6 => ?_)
                    · refine zs_iload_n (j := 1) (i := 1) rfl rfl rfl ?_
                      exact zs_ireturn rfl rfl (⟨by unfold pNum; rw [if_neg (show ¬ ((a, false, out).2.1 = true ∨ ¬ (48 ≤ lkf g0 a ∧ lkf g0 a ≤ 57)) from fun z => z.elim (fun y => nomatch y) (fun y => y ⟨by omega, by omega⟩)), if_neg (show ¬ (48 ≤ lkf g0 (a + 1) ∧ lkf g0 (a + 1) ≤ 57) by omega)]; show some (ZI _) = some (ZI _); congr 2; dsimp only; omega, by unfold pNum; rw [if_neg (show ¬ ((a, false, out).2.1 = true ∨ ¬ (48 ≤ lkf g0 a ∧ lkf g0 a ≤ 57)) from fun z => z.elim (fun y => nomatch y) (fun y => y ⟨by omega, by omega⟩)), if_neg (show ¬ (48 ≤ lkf g0 (a + 1) ∧ lkf g0 (a + 1) ≤ 57) by omega)]⟩)
                    · exfalso; omega
                  · exfalso; omega
                · refine zs_aload_n (j := 0) (i := 0) rfl rfl rfl ?_
                  refine zs_getfield (f := 5) (k := 5) rfl rfl (trivial) ?_
                  show ZVV _ _ _ _ _ (ZI 0 :: _) _
                  refine zs_if_ne 60 rfl (by omega) (fun hc_31 => ?_) (fun hc_31 => ?_)
                  · exfalso; omega
                  · refine zs_iload_n (j := 1) (i := 1) rfl rfl rfl ?_
                    refine zs_bipush (n := 10) rfl ⟨by omega, by omega⟩ ?_
                    refine zs_imul_r rfl ⟨by omega, by omega⟩ ?_
                    refine zs_aload_n (j := 0) (i := 0) rfl rfl rfl ?_
                    refine zs_getfield (f := 5) (k := 4) rfl rfl (trivial) ?_
                    show ZVV _ _ _ _ _ (ZI (lkf g0 (a + 1)) :: _) _
                    refine zs_iadd_r rfl ⟨by omega, by omega⟩ ?_
                    refine zs_bipush (n := 48) rfl ⟨by omega, by omega⟩ ?_
                    show ZVV _ _ _ 45 _ _ _
                    refine zs_isub_r rfl ⟨by omega, by omega⟩ ?_
                    refine zs_istore_n (j := 1) (i := 1) rfl rfl (by decide) (by intro r x hr; have hr2 : r = 0 := (by omega); subst hr2; intro z; cases z) ?_
                    show ZVV _ _ _ _ [ZR 5 0, ZI ((((((0 * 10) + (lkf g0 a)) - 48) * 10) + (lkf g0 (a + 1))) - 48), ZI (0 + 1)] _ _
                    refine zs_aload_n (j := 0) (i := 0) rfl rfl rfl ?_
                    refine zs_aload_n (j := 0) (i := 0) rfl rfl rfl ?_
                    refine zs_getfield (f := 5) (k := 3) rfl rfl (trivial) ?_
                    show ZVV _ _ _ _ _ (ZI (a + 1) :: _) _
                    refine zs_iconst (n := 1) rfl ⟨by omega, by omega⟩ ?_
                    refine zs_iadd_r rfl ⟨by have h9 : (0 : Int) ≤ a ∧ a ≤ 100 := hB.1; omega, by have h9 : (0 : Int) ≤ a ∧ a ≤ 100 := hB.1; omega⟩ ?_
                    refine zs_callV (host := "") rfl kX5_32 vX5_lookAt (c_X5_lookAtR ((a + 1) + 1)) [ZI ((a + 1) + 1)] [] rfl (zroom_of (by omega)) rfl (Nat.le_of_ble_eq_true rfl) ⟨rfl, trivial⟩ (fun r_54 g_54 hq_54 => ?_)
                    obtain ⟨hr_54, hg_54⟩ := hq_54
                    rw [show lkf (pset g0 j (a + 1, false, out)) = lkf g0 from rfl, pset_at] at hg_54
                    rw [hr_54, hg_54]
                    show ZVV _ _ _ 57 _ [] _
                    rw [show pset g0 j ((a + 1) + 1, ((a + 1, false, out)).2) = pset g0 j ((a + 1) + 1, false, out) from rfl]
                    show ZVV _ _ _ 57 _ _ _
                    refine zs_goto 69 rfl (by omega) ?_
                    skip
                    refine zs_iinc_r (i := 2) rfl rfl (by intro r x hr; have hr2 : r = 1 := (by omega); subst hr2; intro z; cases z) ⟨by omega, by omega⟩ ?_
                    show ZVV _ _ _ _ [ZR 5 0, ZI ((((((0 * 10) + (lkf g0 a)) - 48) * 10) + (lkf g0 (a + 1))) - 48), ZI (0 + 1 + 1)] _ _
                    refine zs_goto 4 rfl (by omega) ?_
                    refine zs_iload_n (j := 2) (i := 2) rfl rfl rfl ?_
                    refine zs_iconst (n := 2) rfl ⟨by omega, by omega⟩ ?_
                    refine zs_icmp_ge 75 rfl (by omega) (fun hc_6 => ?_) (fun hc_6 => ?_)
                    · refine zs_iload_n (j := 1) (i := 1) rfl rfl rfl ?_
                      exact zs_ireturn rfl rfl (⟨by unfold pNum; rw [if_neg (show ¬ ((a, false, out).2.1 = true ∨ ¬ (48 ≤ lkf g0 a ∧ lkf g0 a ≤ 57)) from fun z => z.elim (fun y => nomatch y) (fun y => y ⟨by omega, by omega⟩)), if_pos (show 48 ≤ lkf g0 (a + 1) ∧ lkf g0 (a + 1) ≤ 57 by omega)]; show some (ZI _) = some (ZI _); congr 2; dsimp only; omega, by unfold pNum; rw [if_neg (show ¬ ((a, false, out).2.1 = true ∨ ¬ (48 ≤ lkf g0 a ∧ lkf g0 a ≤ 57)) from fun z => z.elim (fun y => nomatch y) (fun y => y ⟨by omega, by omega⟩)), if_pos (show 48 ≤ lkf g0 (a + 1) ∧ lkf g0 (a + 1) ≤ 57 by omega)]; show pset g0 j (a + 1 + 1, false, out) = pset g0 j (a + 2, false, out); rw [Int.add_assoc]; rfl⟩)
                    · exfalso; omega
  · refine zs_iconst (n := 0) rfl ⟨by omega, by omega⟩ ?_
    refine zs_istore_n (j := 1) (i := 1) rfl rfl (by decide) (by intro r x hr; have hr2 : r = 0 := (by omega); subst hr2; intro z; cases z) ?_
    show ZVV _ _ _ _ [ZR 5 0, ZI 0, ZX 99] _ _
    refine zs_iconst (n := 0) rfl ⟨by omega, by omega⟩ ?_
    refine zs_istore_n (j := 2) (i := 2) rfl rfl (by decide) (by intro r x hr; have hr2 : r = 1 := (by omega); subst hr2; intro z; cases z) ?_
    show ZVV _ _ _ _ [ZR 5 0, ZI 0, ZI 0] _ _
    refine zs_iload_n (j := 2) (i := 2) rfl rfl rfl ?_
    refine zs_iconst (n := 2) rfl ⟨by omega, by omega⟩ ?_
    refine zs_icmp_ge 75 rfl (by omega) (fun hc_6 => ?_) (fun hc_6 => ?_)
    · exfalso; omega
    · refine zs_aload_n (j := 0) (i := 0) rfl rfl rfl ?_
      refine zs_getfield (f := 5) (k := 4) rfl rfl (trivial) ?_
      show ZVV _ _ _ _ _ (ZI (lkf g0 a) :: _) _
      refine zs_bipush (n := 48) rfl ⟨by omega, by omega⟩ ?_
      refine zs_icmp_lt 60 rfl (by omega) (fun hc_15 => ?_) (fun hc_15 => ?_)
      · refine zs_iload_n (j := 2) (i := 2) rfl rfl rfl ?_
        refine zs_if_ne 69 rfl (by omega) (fun hc_61 => ?_) (fun hc_61 => ?_)
        · exfalso; omega
        · refine zs_aload_n (j := 0) (i := 0) rfl rfl rfl ?_
          refine zs_iconst (n := 1) rfl ⟨by omega, by omega⟩ ?_
          refine zs_putfield (f := 5) (k := 5) (x := 1) rfl rfl (zpvZ (x := 1) ⟨by omega, by omega⟩) ?_
          rw [show zup (pset g0 j (a, true, out)) 5 0 5 1 = pset g0 j (a, true, out) from pset_fl g0 j (a, true, out) true]
          refine zs_iinc_r (i := 2) rfl rfl (by intro r x hr; have hr2 : r = 1 := (by omega); subst hr2; intro z; cases z) ⟨by omega, by omega⟩ ?_
          show ZVV _ _ _ _ [ZR 5 0, ZI 0, ZI (0 + 1)] _ _
          refine zs_goto 4 rfl (by omega) ?_
          refine zs_iload_n (j := 2) (i := 2) rfl rfl rfl ?_
          refine zs_iconst (n := 2) rfl ⟨by omega, by omega⟩ ?_
          show ZVV _ _ _ 6 _ _ _
          refine zs_icmp_ge 75 rfl (by omega) (fun hc_6 => ?_) (fun hc_6 => ?_)
          · exfalso; omega
          · refine zs_aload_n (j := 0) (i := 0) rfl rfl rfl ?_
            refine zs_getfield (f := 5) (k := 4) rfl rfl (trivial) ?_
            show ZVV _ _ _ _ _ (ZI (lkf g0 a) :: _) _
            refine zs_bipush (n := 48) rfl ⟨by omega, by omega⟩ ?_
            refine zs_icmp_lt 60 rfl (by omega) (fun hc_15 => ?_) (fun hc_15 => ?_)
            · refine zs_iload_n (j := 2) (i := 2) rfl rfl rfl ?_
              refine zs_if_ne 69 rfl (by omega) (fun hc_61 => ?_) (fun hc_61 => ?_)
              · skip
                refine zs_iinc_r (i := 2) rfl rfl (by intro r x hr; have hr2 : r = 1 := (by omega); subst hr2; intro z; cases z) ⟨by omega, by omega⟩ ?_
                show ZVV _ _ _ _ [ZR 5 0, ZI 0, ZI (0 + 1 + 1)] _ _
                refine zs_goto 4 rfl (by omega) ?_
                refine zs_iload_n (j := 2) (i := 2) rfl rfl rfl ?_
                refine zs_iconst (n := 2) rfl ⟨by omega, by omega⟩ ?_
                refine zs_icmp_ge 75 rfl (by omega) (fun hc_6 => ?_) (fun hc_6 => ?_)
                · refine zs_iload_n (j := 1) (i := 1) rfl rfl rfl ?_
                  exact zs_ireturn rfl rfl (⟨rfl, by unfold pNum; rw [if_pos (Or.inl rfl)]⟩)
                · exfalso; omega
              · exfalso; omega
            · refine zs_aload_n (j := 0) (i := 0) rfl rfl rfl ?_
              refine zs_getfield (f := 5) (k := 4) rfl rfl (trivial) ?_
              show ZVV _ _ _ _ _ (ZI (lkf g0 a) :: _) _
              refine zs_bipush (n := 57) rfl ⟨by omega, by omega⟩ ?_
              refine zs_icmp_gt 60 rfl (by omega) (fun hc_24 => ?_) (fun hc_24 => ?_)
              · refine zs_iload_n (j := 2) (i := 2) rfl rfl rfl ?_
                refine zs_if_ne 69 rfl (by omega) (fun hc_61 => ?_) (fun hc_61 => ?_)
                · skip
                  refine zs_iinc_r (i := 2) rfl rfl (by intro r x hr; have hr2 : r = 1 := (by omega); subst hr2; intro z; cases z) ⟨by omega, by omega⟩ ?_
                  show ZVV _ _ _ _ [ZR 5 0, ZI 0, ZI (0 + 1 + 1)] _ _
                  refine zs_goto 4 rfl (by omega) ?_
                  refine zs_iload_n (j := 2) (i := 2) rfl rfl rfl ?_
                  refine zs_iconst (n := 2) rfl ⟨by omega, by omega⟩ ?_
                  refine zs_icmp_ge 75 rfl (by omega) (fun hc_6 => ?_) (fun hc_6 => ?_)
                  · refine zs_iload_n (j := 1) (i := 1) rfl rfl rfl ?_
                    exact zs_ireturn rfl rfl (⟨rfl, by unfold pNum; rw [if_pos (Or.inl rfl)]⟩)
                  · exfalso; omega
                · exfalso; omega
              · refine zs_aload_n (j := 0) (i := 0) rfl rfl rfl ?_
                refine zs_getfield (f := 5) (k := 5) rfl rfl (trivial) ?_
                show ZVV _ _ _ _ _ (ZI 1 :: _) _
                refine zs_if_ne 60 rfl (by omega) (fun hc_31 => ?_) (fun hc_31 => ?_)
                · refine zs_iload_n (j := 2) (i := 2) rfl rfl rfl ?_
                  refine zs_if_ne 69 rfl (by omega) (fun hc_61 => ?_) (fun hc_61 => ?_)
                  · skip
                    refine zs_iinc_r (i := 2) rfl rfl (by intro r x hr; have hr2 : r = 1 := (by omega); subst hr2; intro z; cases z) ⟨by omega, by omega⟩ ?_
                    show ZVV _ _ _ _ [ZR 5 0, ZI 0, ZI (0 + 1 + 1)] _ _
                    refine zs_goto 4 rfl (by omega) ?_
                    refine zs_iload_n (j := 2) (i := 2) rfl rfl rfl ?_
                    refine zs_iconst (n := 2) rfl ⟨by omega, by omega⟩ ?_
                    refine zs_icmp_ge 75 rfl (by omega) (fun hc_6 => ?_) (fun hc_6 => ?_)
                    · refine zs_iload_n (j := 1) (i := 1) rfl rfl rfl ?_
                      exact zs_ireturn rfl rfl (⟨rfl, by unfold pNum; rw [if_pos (Or.inl rfl)]⟩)
                    · exfalso; omega
                  · exfalso; omega
                · exfalso; omega
      · refine zs_aload_n (j := 0) (i := 0) rfl rfl rfl ?_
        refine zs_getfield (f := 5) (k := 4) rfl rfl (trivial) ?_
        show ZVV _ _ _ _ _ (ZI (lkf g0 a) :: _) _
        refine zs_bipush (n := 57) rfl ⟨by omega, by omega⟩ ?_
        refine zs_icmp_gt 60 rfl (by omega) (fun hc_24 => ?_) (fun hc_24 => ?_)
        · refine zs_iload_n (j := 2) (i := 2) rfl rfl rfl ?_
          refine zs_if_ne 69 rfl (by omega) (fun hc_61 => ?_) (fun hc_61 => ?_)
          · exfalso; omega
          · refine zs_aload_n (j := 0) (i := 0) rfl rfl rfl ?_
            refine zs_iconst (n := 1) rfl ⟨by omega, by omega⟩ ?_
            refine zs_putfield (f := 5) (k := 5) (x := 1) rfl rfl (zpvZ (x := 1) ⟨by omega, by omega⟩) ?_
            rw [show zup (pset g0 j (a, true, out)) 5 0 5 1 = pset g0 j (a, true, out) from pset_fl g0 j (a, true, out) true]
            refine zs_iinc_r (i := 2) rfl rfl (by intro r x hr; have hr2 : r = 1 := (by omega); subst hr2; intro z; cases z) ⟨by omega, by omega⟩ ?_
            show ZVV _ _ _ _ [ZR 5 0, ZI 0, ZI (0 + 1)] _ _
            refine zs_goto 4 rfl (by omega) ?_
            refine zs_iload_n (j := 2) (i := 2) rfl rfl rfl ?_
            refine zs_iconst (n := 2) rfl ⟨by omega, by omega⟩ ?_
            show ZVV _ _ _ 6 _ _ _
            refine zs_icmp_ge 75 rfl (by omega) (fun hc_6 => ?_) (fun hc_6 => ?_)
            · exfalso; omega
            · refine zs_aload_n (j := 0) (i := 0) rfl rfl rfl ?_
              refine zs_getfield (f := 5) (k := 4) rfl rfl (trivial) ?_
              show ZVV _ _ _ _ _ (ZI (lkf g0 a) :: _) _
              refine zs_bipush (n := 48) rfl ⟨by omega, by omega⟩ ?_
              refine zs_icmp_lt 60 rfl (by omega) (fun hc_15 => ?_) (fun hc_15 => ?_)
              · refine zs_iload_n (j := 2) (i := 2) rfl rfl rfl ?_
                refine zs_if_ne 69 rfl (by omega) (fun hc_61 => ?_) (fun hc_61 => ?_)
                · skip
                  refine zs_iinc_r (i := 2) rfl rfl (by intro r x hr; have hr2 : r = 1 := (by omega); subst hr2; intro z; cases z) ⟨by omega, by omega⟩ ?_
                  show ZVV _ _ _ _ [ZR 5 0, ZI 0, ZI (0 + 1 + 1)] _ _
                  refine zs_goto 4 rfl (by omega) ?_
                  refine zs_iload_n (j := 2) (i := 2) rfl rfl rfl ?_
                  refine zs_iconst (n := 2) rfl ⟨by omega, by omega⟩ ?_
                  refine zs_icmp_ge 75 rfl (by omega) (fun hc_6 => ?_) (fun hc_6 => ?_)
                  · refine zs_iload_n (j := 1) (i := 1) rfl rfl rfl ?_
                    exact zs_ireturn rfl rfl (⟨rfl, by unfold pNum; rw [if_pos (Or.inl rfl)]⟩)
                  · exfalso; omega
                · exfalso; omega
              · refine zs_aload_n (j := 0) (i := 0) rfl rfl rfl ?_
                refine zs_getfield (f := 5) (k := 4) rfl rfl (trivial) ?_
                show ZVV _ _ _ _ _ (ZI (lkf g0 a) :: _) _
                refine zs_bipush (n := 57) rfl ⟨by omega, by omega⟩ ?_
                refine zs_icmp_gt 60 rfl (by omega) (fun hc_24 => ?_) (fun hc_24 => ?_)
                · refine zs_iload_n (j := 2) (i := 2) rfl rfl rfl ?_
                  refine zs_if_ne 69 rfl (by omega) (fun hc_61 => ?_) (fun hc_61 => ?_)
                  · skip
                    refine zs_iinc_r (i := 2) rfl rfl (by intro r x hr; have hr2 : r = 1 := (by omega); subst hr2; intro z; cases z) ⟨by omega, by omega⟩ ?_
                    show ZVV _ _ _ _ [ZR 5 0, ZI 0, ZI (0 + 1 + 1)] _ _
                    refine zs_goto 4 rfl (by omega) ?_
                    refine zs_iload_n (j := 2) (i := 2) rfl rfl rfl ?_
                    refine zs_iconst (n := 2) rfl ⟨by omega, by omega⟩ ?_
                    refine zs_icmp_ge 75 rfl (by omega) (fun hc_6 => ?_) (fun hc_6 => ?_)
                    · refine zs_iload_n (j := 1) (i := 1) rfl rfl rfl ?_
                      exact zs_ireturn rfl rfl (⟨rfl, by unfold pNum; rw [if_pos (Or.inl rfl)]⟩)
                    · exfalso; omega
                  · exfalso; omega
                · refine zs_aload_n (j := 0) (i := 0) rfl rfl rfl ?_
                  refine zs_getfield (f := 5) (k := 5) rfl rfl (trivial) ?_
                  show ZVV _ _ _ _ _ (ZI 1 :: _) _
                  refine zs_if_ne 60 rfl (by omega) (fun hc_31 => ?_) (fun hc_31 => ?_)
                  · refine zs_iload_n (j := 2) (i := 2) rfl rfl rfl ?_
                    refine zs_if_ne 69 rfl (by omega) (fun hc_61 => ?_) (fun hc_61 => ?_)
                    · skip
                      refine zs_iinc_r (i := 2) rfl rfl (by intro r x hr; have hr2 : r = 1 := (by omega); subst hr2; intro z; cases z) ⟨by omega, by omega⟩ ?_
                      show ZVV _ _ _ _ [ZR 5 0, ZI 0, ZI (0 + 1 + 1)] _ _
                      refine zs_goto 4 rfl (by omega) ?_
                      refine zs_iload_n (j := 2) (i := 2) rfl rfl rfl ?_
                      refine zs_iconst (n := 2) rfl ⟨by omega, by omega⟩ ?_
                      refine zs_icmp_ge 75 rfl (by omega) (fun hc_6 => ?_) (fun hc_6 => ?_)
                      · refine zs_iload_n (j := 1) (i := 1) rfl rfl rfl ?_
                        exact zs_ireturn rfl rfl (⟨rfl, by unfold pNum; rw [if_pos (Or.inl rfl)]⟩)
                      · exfalso; omega
                    · exfalso; omega
                  · exfalso; omega
        · refine zs_aload_n (j := 0) (i := 0) rfl rfl rfl ?_
          refine zs_getfield (f := 5) (k := 5) rfl rfl (trivial) ?_
          show ZVV _ _ _ _ _ (ZI 1 :: _) _
          refine zs_if_ne 60 rfl (by omega) (fun hc_31 => ?_) (fun hc_31 => ?_)
          · refine zs_iload_n (j := 2) (i := 2) rfl rfl rfl ?_
            refine zs_if_ne 69 rfl (by omega) (fun hc_61 => ?_) (fun hc_61 => ?_)
            · exfalso; omega
            · refine zs_aload_n (j := 0) (i := 0) rfl rfl rfl ?_
              refine zs_iconst (n := 1) rfl ⟨by omega, by omega⟩ ?_
              refine zs_putfield (f := 5) (k := 5) (x := 1) rfl rfl (zpvZ (x := 1) ⟨by omega, by omega⟩) ?_
              rw [show zup (pset g0 j (a, true, out)) 5 0 5 1 = pset g0 j (a, true, out) from pset_fl g0 j (a, true, out) true]
              refine zs_iinc_r (i := 2) rfl rfl (by intro r x hr; have hr2 : r = 1 := (by omega); subst hr2; intro z; cases z) ⟨by omega, by omega⟩ ?_
              show ZVV _ _ _ _ [ZR 5 0, ZI 0, ZI (0 + 1)] _ _
              refine zs_goto 4 rfl (by omega) ?_
              refine zs_iload_n (j := 2) (i := 2) rfl rfl rfl ?_
              refine zs_iconst (n := 2) rfl ⟨by omega, by omega⟩ ?_
              show ZVV _ _ _ 6 _ _ _
              refine zs_icmp_ge 75 rfl (by omega) (fun hc_6 => ?_) (fun hc_6 => ?_)
              · exfalso; omega
              · refine zs_aload_n (j := 0) (i := 0) rfl rfl rfl ?_
                refine zs_getfield (f := 5) (k := 4) rfl rfl (trivial) ?_
                show ZVV _ _ _ _ _ (ZI (lkf g0 a) :: _) _
                refine zs_bipush (n := 48) rfl ⟨by omega, by omega⟩ ?_
                refine zs_icmp_lt 60 rfl (by omega) (fun hc_15 => ?_) (fun hc_15 => ?_)
                · refine zs_iload_n (j := 2) (i := 2) rfl rfl rfl ?_
                  refine zs_if_ne 69 rfl (by omega) (fun hc_61 => ?_) (fun hc_61 => ?_)
                  · skip
                    refine zs_iinc_r (i := 2) rfl rfl (by intro r x hr; have hr2 : r = 1 := (by omega); subst hr2; intro z; cases z) ⟨by omega, by omega⟩ ?_
                    show ZVV _ _ _ _ [ZR 5 0, ZI 0, ZI (0 + 1 + 1)] _ _
                    refine zs_goto 4 rfl (by omega) ?_
                    refine zs_iload_n (j := 2) (i := 2) rfl rfl rfl ?_
                    refine zs_iconst (n := 2) rfl ⟨by omega, by omega⟩ ?_
                    refine zs_icmp_ge 75 rfl (by omega) (fun hc_6 => ?_) (fun hc_6 => ?_)
                    · refine zs_iload_n (j := 1) (i := 1) rfl rfl rfl ?_
                      exact zs_ireturn rfl rfl (⟨rfl, by unfold pNum; rw [if_pos (Or.inl rfl)]⟩)
                    · exfalso; omega
                  · exfalso; omega
                · refine zs_aload_n (j := 0) (i := 0) rfl rfl rfl ?_
                  refine zs_getfield (f := 5) (k := 4) rfl rfl (trivial) ?_
                  show ZVV _ _ _ _ _ (ZI (lkf g0 a) :: _) _
                  refine zs_bipush (n := 57) rfl ⟨by omega, by omega⟩ ?_
                  refine zs_icmp_gt 60 rfl (by omega) (fun hc_24 => ?_) (fun hc_24 => ?_)
                  · refine zs_iload_n (j := 2) (i := 2) rfl rfl rfl ?_
                    refine zs_if_ne 69 rfl (by omega) (fun hc_61 => ?_) (fun hc_61 => ?_)
                    · skip
                      refine zs_iinc_r (i := 2) rfl rfl (by intro r x hr; have hr2 : r = 1 := (by omega); subst hr2; intro z; cases z) ⟨by omega, by omega⟩ ?_
                      show ZVV _ _ _ _ [ZR 5 0, ZI 0, ZI (0 + 1 + 1)] _ _
                      refine zs_goto 4 rfl (by omega) ?_
                      refine zs_iload_n (j := 2) (i := 2) rfl rfl rfl ?_
                      refine zs_iconst (n := 2) rfl ⟨by omega, by omega⟩ ?_
                      refine zs_icmp_ge 75 rfl (by omega) (fun hc_6 => ?_) (fun hc_6 => ?_)
                      · refine zs_iload_n (j := 1) (i := 1) rfl rfl rfl ?_
                        exact zs_ireturn rfl rfl (⟨rfl, by unfold pNum; rw [if_pos (Or.inl rfl)]⟩)
                      · exfalso; omega
                    · exfalso; omega
                  · refine zs_aload_n (j := 0) (i := 0) rfl rfl rfl ?_
                    refine zs_getfield (f := 5) (k := 5) rfl rfl (trivial) ?_
                    show ZVV _ _ _ _ _ (ZI 1 :: _) _
                    refine zs_if_ne 60 rfl (by omega) (fun hc_31 => ?_) (fun hc_31 => ?_)
                    · refine zs_iload_n (j := 2) (i := 2) rfl rfl rfl ?_
                      refine zs_if_ne 69 rfl (by omega) (fun hc_61 => ?_) (fun hc_61 => ?_)
                      · skip
                        refine zs_iinc_r (i := 2) rfl rfl (by intro r x hr; have hr2 : r = 1 := (by omega); subst hr2; intro z; cases z) ⟨by omega, by omega⟩ ?_
                        show ZVV _ _ _ _ [ZR 5 0, ZI 0, ZI (0 + 1 + 1)] _ _
                        refine zs_goto 4 rfl (by omega) ?_
                        refine zs_iload_n (j := 2) (i := 2) rfl rfl rfl ?_
                        refine zs_iconst (n := 2) rfl ⟨by omega, by omega⟩ ?_
                        refine zs_icmp_ge 75 rfl (by omega) (fun hc_6 => ?_) (fun hc_6 => ?_)
                        · refine zs_iload_n (j := 1) (i := 1) rfl rfl rfl ?_
                          exact zs_ireturn rfl rfl (⟨rfl, by unfold pNum; rw [if_pos (Or.inl rfl)]⟩)
                        · exfalso; omega
                      · exfalso; omega
                    · exfalso; omega
          · exfalso; omega

theorem l_X5_one13f {Y : ZW} {Q : Option ZV → ZG → Prop} {g0 : ZG} {j : Nat} {a : Int} {out : List Int} (hB : PB (a, false, out)) : ∀ n k : Nat, k + n = 6 → Q (some (ZI (pOne (lkf g0) (zxr 13) n k (a, false, out)).1)) (pset g0 j (pOne (lkf g0) (zxr 13) n k (a, false, out)).2) → ZVV Y mX5_readOneOf (zcx Y 4 Q) 2 [ZR 5 0, ZX 13, ZI (k : Int)] [] (pset g0 j (a, false, out)) := by
  intro n
  induction n with
  | zero =>
    intro k hk hq
    replace hk : (k : Int) = 6 := by omega
    refine zs_iload_n (j := 2) (i := 2) rfl rfl rfl ?_
    refine zs_xload_n (j := 1) (i := 1) (q := 13) rfl rfl rfl (by decide) ?_
    refine zs_callX (i := 3) (by decide) rfl kX5_54 vJ0_length (c_J0_length 3) [] [ZI (k : Int)] rfl (zroom_of (by omega)) rfl (Nat.le_of_ble_eq_true rfl) ⟨rfl, by decide⟩ (fun r_4 g_4 hq_4 => ?_)
    obtain ⟨hr_4, hg_4⟩ := hq_4
    rw [hr_4, hg_4]
    show ZVV _ _ _ 7 _ [ZI 6, ZI (k : Int)] _
    refine zs_icmp_ge 47 rfl (by omega) (fun hc_7 => ?_) (fun hc_7 => ?_)
    · refine zs_aload_n (j := 0) (i := 0) rfl rfl rfl ?_
      refine zs_iconst (n := 1) rfl ⟨by omega, by omega⟩ ?_
      refine zs_putfield (f := 5) (k := 5) (x := 1) rfl rfl (zpvZ (x := 1) ⟨by omega, by omega⟩) ?_
      rw [show zup (pset g0 j (a, false, out)) 5 0 5 1 = pset g0 j (a, true, out) from pset_fl g0 j (a, false, out) true]
      refine zs_iconst (n := 0) rfl ⟨by omega, by omega⟩ ?_
      exact zs_ireturn rfl rfl (hq)
    · exfalso; omega
  | succ n ih =>
    intro k hk hq
    replace hk : (k : Int) + (n + 1) = 6 := by omega
    refine zs_iload_n (j := 2) (i := 2) rfl rfl rfl ?_
    refine zs_xload_n (j := 1) (i := 1) (q := 13) rfl rfl rfl (by decide) ?_
    refine zs_callX (i := 3) (by decide) rfl kX5_54 vJ0_length (c_J0_length 3) [] [ZI (k : Int)] rfl (zroom_of (by omega)) rfl (Nat.le_of_ble_eq_true rfl) ⟨rfl, by decide⟩ (fun r_4 g_4 hq_4 => ?_)
    obtain ⟨hr_4, hg_4⟩ := hq_4
    rw [hr_4, hg_4]
    show ZVV _ _ _ 7 _ [ZI 6, ZI (k : Int)] _
    refine zs_icmp_ge 47 rfl (by omega) (fun hc_7 => ?_) (fun hc_7 => ?_)
    · exfalso; omega
    · refine zs_aload_n (j := 0) (i := 0) rfl rfl rfl ?_
      refine zs_getfield (f := 5) (k := 5) rfl rfl (trivial) ?_
      show ZVV _ _ _ _ _ (ZI 0 :: _) _
      refine zs_if_ne 41 rfl (by omega) (fun hc_14 => ?_) (fun hc_14 => ?_)
      · exfalso; omega
      · refine zs_aload_n (j := 0) (i := 0) rfl rfl rfl ?_
        refine zs_getfield (f := 5) (k := 4) rfl rfl (trivial) ?_
        show ZVV _ _ _ _ _ (ZI (lkf g0 a) :: _) _
        refine zs_xload_n (j := 1) (i := 1) (q := 13) rfl rfl rfl (by decide) ?_
        refine zs_iload_n (j := 2) (i := 2) rfl rfl rfl ?_
        refine zs_callX (i := 3) (by decide) rfl kX5_59 vJ0_charAt (c_J0_charAt 3 (k : Int)) [ZI (k : Int)] [ZI (lkf g0 a)] rfl (zroom_of (by omega)) rfl (Nat.le_of_ble_eq_true rfl) ⟨rfl, by decide, by omega, by show (k : Int) < ((6 : Nat) : Int); omega⟩ (fun r_23 g_23 hq_23 => ?_)
        obtain ⟨hr_23, hg_23⟩ := hq_23
        rw [hr_23, hg_23]
        show ZVV _ _ _ 26 _ [ZI ((zxr 13).getD k 0), ZI (lkf g0 a)] _
        refine zs_icmp_ne 41 rfl (by omega) (fun hc_26 => ?_) (fun hc_26 => ?_)
        · refine zs_iinc_r (i := 2) rfl rfl (by intro r x hr; have hr2 : r = 1 := (by omega); subst hr2; intro z; cases z) ⟨by omega, by omega⟩ ?_
          show ZVV _ _ _ _ [ZR 5 0, ZX 13, ZI ((k : Int) + 1)] _ _
          refine zs_goto 2 rfl (by omega) ?_
          refine ih (k + 1) (by omega) ?_
          have hh := hq
          rw [show pOne (lkf g0) (zxr 13) (n + 1) k (a, false, out) = pOne (lkf g0) (zxr 13) n (k + 1) (a, false, out) from if_neg (fun z => hc_26 z.2)] at hh
          exact hh
        · refine zs_aload_n (j := 0) (i := 0) rfl rfl rfl ?_
          refine zs_aload_n (j := 0) (i := 0) rfl rfl rfl ?_
          refine zs_getfield (f := 5) (k := 3) rfl rfl (trivial) ?_
          show ZVV _ _ _ _ _ (ZI a :: _) _
          refine zs_iconst (n := 1) rfl ⟨by omega, by omega⟩ ?_
          refine zs_iadd_r rfl ⟨by have h9 : (0 : Int) ≤ a ∧ a ≤ 100 := hB.1; omega, by have h9 : (0 : Int) ≤ a ∧ a ≤ 100 := hB.1; omega⟩ ?_
          refine zs_callV (host := "") rfl kX5_32 vX5_lookAt (c_X5_lookAtR (a + 1)) [ZI (a + 1)] [] rfl (zroom_of (by omega)) rfl (Nat.le_of_ble_eq_true rfl) ⟨rfl, trivial⟩ (fun r_36 g_36 hq_36 => ?_)
          obtain ⟨hr_36, hg_36⟩ := hq_36
          rw [show lkf (pset g0 j (a, false, out)) = lkf g0 from rfl, pset_at] at hg_36
          rw [hr_36, hg_36]
          show ZVV _ _ _ 39 _ [] _
          refine zs_iload_n (j := 2) (i := 2) rfl rfl rfl ?_
          show ZVV _ _ _ 40 _ _ _
          exact zs_ireturn rfl rfl (by have hh := hq; rw [show pOne (lkf g0) (zxr 13) (n + 1) k (a, false, out) = ((k : Int), (a + 1, false, out)) from if_pos ⟨rfl, Classical.not_not.mp hc_26⟩] at hh; exact hh)
theorem l_X5_one13t {Y : ZW} {Q : Option ZV → ZG → Prop} {g0 : ZG} {j : Nat} {a : Int} {out : List Int} (hB : PB (a, true, out)) : ∀ n k : Nat, k + n = 6 → Q (some (ZI (pOne (lkf g0) (zxr 13) n k (a, true, out)).1)) (pset g0 j (pOne (lkf g0) (zxr 13) n k (a, true, out)).2) → ZVV Y mX5_readOneOf (zcx Y 4 Q) 2 [ZR 5 0, ZX 13, ZI (k : Int)] [] (pset g0 j (a, true, out)) := by
  intro n
  induction n with
  | zero =>
    intro k hk hq
    replace hk : (k : Int) = 6 := by omega
    refine zs_iload_n (j := 2) (i := 2) rfl rfl rfl ?_
    refine zs_xload_n (j := 1) (i := 1) (q := 13) rfl rfl rfl (by decide) ?_
    refine zs_callX (i := 3) (by decide) rfl kX5_54 vJ0_length (c_J0_length 3) [] [ZI (k : Int)] rfl (zroom_of (by omega)) rfl (Nat.le_of_ble_eq_true rfl) ⟨rfl, by decide⟩ (fun r_4 g_4 hq_4 => ?_)
    obtain ⟨hr_4, hg_4⟩ := hq_4
    rw [hr_4, hg_4]
    show ZVV _ _ _ 7 _ [ZI 6, ZI (k : Int)] _
    refine zs_icmp_ge 47 rfl (by omega) (fun hc_7 => ?_) (fun hc_7 => ?_)
    · refine zs_aload_n (j := 0) (i := 0) rfl rfl rfl ?_
      refine zs_iconst (n := 1) rfl ⟨by omega, by omega⟩ ?_
      refine zs_putfield (f := 5) (k := 5) (x := 1) rfl rfl (zpvZ (x := 1) ⟨by omega, by omega⟩) ?_
      rw [show zup (pset g0 j (a, true, out)) 5 0 5 1 = pset g0 j (a, true, out) from pset_fl g0 j (a, true, out) true]
      refine zs_iconst (n := 0) rfl ⟨by omega, by omega⟩ ?_
      exact zs_ireturn rfl rfl (hq)
    · exfalso; omega
  | succ n ih =>
    intro k hk hq
    replace hk : (k : Int) + (n + 1) = 6 := by omega
    refine zs_iload_n (j := 2) (i := 2) rfl rfl rfl ?_
    refine zs_xload_n (j := 1) (i := 1) (q := 13) rfl rfl rfl (by decide) ?_
    refine zs_callX (i := 3) (by decide) rfl kX5_54 vJ0_length (c_J0_length 3) [] [ZI (k : Int)] rfl (zroom_of (by omega)) rfl (Nat.le_of_ble_eq_true rfl) ⟨rfl, by decide⟩ (fun r_4 g_4 hq_4 => ?_)
    obtain ⟨hr_4, hg_4⟩ := hq_4
    rw [hr_4, hg_4]
    show ZVV _ _ _ 7 _ [ZI 6, ZI (k : Int)] _
    refine zs_icmp_ge 47 rfl (by omega) (fun hc_7 => ?_) (fun hc_7 => ?_)
    · exfalso; omega
    · refine zs_aload_n (j := 0) (i := 0) rfl rfl rfl ?_
      refine zs_getfield (f := 5) (k := 5) rfl rfl (trivial) ?_
      show ZVV _ _ _ _ _ (ZI 1 :: _) _
      refine zs_if_ne 41 rfl (by omega) (fun hc_14 => ?_) (fun hc_14 => ?_)
      · refine zs_iinc_r (i := 2) rfl rfl (by intro r x hr; have hr2 : r = 1 := (by omega); subst hr2; intro z; cases z) ⟨by omega, by omega⟩ ?_
        show ZVV _ _ _ _ [ZR 5 0, ZX 13, ZI ((k : Int) + 1)] _ _
        refine zs_goto 2 rfl (by omega) ?_
        refine ih (k + 1) (by omega) ?_
        have hh := hq
        rw [show pOne (lkf g0) (zxr 13) (n + 1) k (a, true, out) = pOne (lkf g0) (zxr 13) n (k + 1) (a, true, out) from if_neg (fun z => nomatch z.1)] at hh
        exact hh
      · exfalso; omega
theorem c_X5_readOneOf13 (g0 : ZG) (j : Nat) (s : PS) : ZC mX5_readOneOf 4 (fun av g => av = [ZR 5 0, ZX 13] ∧ g = pset g0 j s ∧ PB s) (fun _ g r g' => r = some (ZI (pOne (lkf g0) (zxr 13) 6 0 s).1) ∧ g' = pset g0 j (pOne (lkf g0) (zxr 13) 6 0 s).2) := by
  refine zc_of gX5_readOneOf (fun av g hp => by obtain ⟨rfl, -⟩ := hp; exact Nat.le_of_ble_eq_true rfl) (fun Y av g hwf hrg hp hok => ?_)
  obtain ⟨rfl, hp⟩ := hp
  show ZVV _ _ _ 0 [ZR 5 0, ZX 13, ZX 99] [] _
  obtain ⟨rfl, hB⟩ := hp
  refine zs_iconst (n := 0) rfl ⟨by omega, by omega⟩ ?_
  refine zs_istore_n (j := 2) (i := 2) rfl rfl (by decide) (by intro r x hr; have hr2 : r = 1 := (by omega); subst hr2; intro z; cases z) ?_
  show ZVV _ _ _ _ [ZR 5 0, ZX 13, ZI 0] _ _
  obtain ⟨a, fl, out⟩ := s
  cases fl
  · exact l_X5_one13f hB 6 0 rfl ⟨rfl, rfl⟩
  · exact l_X5_one13t hB 6 0 rfl ⟨rfl, rfl⟩

theorem l_X5_one14f {Y : ZW} {Q : Option ZV → ZG → Prop} {g0 : ZG} {j : Nat} {a : Int} {out : List Int} (hB : PB (a, false, out)) : ∀ n k : Nat, k + n = 3 → Q (some (ZI (pOne (lkf g0) (zxr 14) n k (a, false, out)).1)) (pset g0 j (pOne (lkf g0) (zxr 14) n k (a, false, out)).2) → ZVV Y mX5_readOneOf (zcx Y 4 Q) 2 [ZR 5 0, ZX 14, ZI (k : Int)] [] (pset g0 j (a, false, out)) := by
  intro n
  induction n with
  | zero =>
    intro k hk hq
    replace hk : (k : Int) = 3 := by omega
    refine zs_iload_n (j := 2) (i := 2) rfl rfl rfl ?_
    refine zs_xload_n (j := 1) (i := 1) (q := 14) rfl rfl rfl (by decide) ?_
    refine zs_callX (i := 4) (by decide) rfl kX5_54 vJ0_length (c_J0_length 4) [] [ZI (k : Int)] rfl (zroom_of (by omega)) rfl (Nat.le_of_ble_eq_true rfl) ⟨rfl, by decide⟩ (fun r_4 g_4 hq_4 => ?_)
    obtain ⟨hr_4, hg_4⟩ := hq_4
    rw [hr_4, hg_4]
    show ZVV _ _ _ 7 _ [ZI 3, ZI (k : Int)] _
    refine zs_icmp_ge 47 rfl (by omega) (fun hc_7 => ?_) (fun hc_7 => ?_)
    · refine zs_aload_n (j := 0) (i := 0) rfl rfl rfl ?_
      refine zs_iconst (n := 1) rfl ⟨by omega, by omega⟩ ?_
      refine zs_putfield (f := 5) (k := 5) (x := 1) rfl rfl (zpvZ (x := 1) ⟨by omega, by omega⟩) ?_
      rw [show zup (pset g0 j (a, false, out)) 5 0 5 1 = pset g0 j (a, true, out) from pset_fl g0 j (a, false, out) true]
      refine zs_iconst (n := 0) rfl ⟨by omega, by omega⟩ ?_
      exact zs_ireturn rfl rfl (hq)
    · exfalso; omega
  | succ n ih =>
    intro k hk hq
    replace hk : (k : Int) + (n + 1) = 3 := by omega
    refine zs_iload_n (j := 2) (i := 2) rfl rfl rfl ?_
    refine zs_xload_n (j := 1) (i := 1) (q := 14) rfl rfl rfl (by decide) ?_
    refine zs_callX (i := 4) (by decide) rfl kX5_54 vJ0_length (c_J0_length 4) [] [ZI (k : Int)] rfl (zroom_of (by omega)) rfl (Nat.le_of_ble_eq_true rfl) ⟨rfl, by decide⟩ (fun r_4 g_4 hq_4 => ?_)
    obtain ⟨hr_4, hg_4⟩ := hq_4
    rw [hr_4, hg_4]
    show ZVV _ _ _ 7 _ [ZI 3, ZI (k : Int)] _
    refine zs_icmp_ge 47 rfl (by omega) (fun hc_7 => ?_) (fun hc_7 => ?_)
    · exfalso; omega
    · refine zs_aload_n (j := 0) (i := 0) rfl rfl rfl ?_
      refine zs_getfield (f := 5) (k := 5) rfl rfl (trivial) ?_
      show ZVV _ _ _ _ _ (ZI 0 :: _) _
      refine zs_if_ne 41 rfl (by omega) (fun hc_14 => ?_) (fun hc_14 => ?_)
      · exfalso; omega
      · refine zs_aload_n (j := 0) (i := 0) rfl rfl rfl ?_
        refine zs_getfield (f := 5) (k := 4) rfl rfl (trivial) ?_
        show ZVV _ _ _ _ _ (ZI (lkf g0 a) :: _) _
        refine zs_xload_n (j := 1) (i := 1) (q := 14) rfl rfl rfl (by decide) ?_
        refine zs_iload_n (j := 2) (i := 2) rfl rfl rfl ?_
        refine zs_callX (i := 4) (by decide) rfl kX5_59 vJ0_charAt (c_J0_charAt 4 (k : Int)) [ZI (k : Int)] [ZI (lkf g0 a)] rfl (zroom_of (by omega)) rfl (Nat.le_of_ble_eq_true rfl) ⟨rfl, by decide, by omega, by show (k : Int) < ((3 : Nat) : Int); omega⟩ (fun r_23 g_23 hq_23 => ?_)
        obtain ⟨hr_23, hg_23⟩ := hq_23
        rw [hr_23, hg_23]
        show ZVV _ _ _ 26 _ [ZI ((zxr 14).getD k 0), ZI (lkf g0 a)] _
        refine zs_icmp_ne 41 rfl (by omega) (fun hc_26 => ?_) (fun hc_26 => ?_)
        · refine zs_iinc_r (i := 2) rfl rfl (by intro r x hr; have hr2 : r = 1 := (by omega); subst hr2; intro z; cases z) ⟨by omega, by omega⟩ ?_
          show ZVV _ _ _ _ [ZR 5 0, ZX 14, ZI ((k : Int) + 1)] _ _
          refine zs_goto 2 rfl (by omega) ?_
          refine ih (k + 1) (by omega) ?_
          have hh := hq
          rw [show pOne (lkf g0) (zxr 14) (n + 1) k (a, false, out) = pOne (lkf g0) (zxr 14) n (k + 1) (a, false, out) from if_neg (fun z => hc_26 z.2)] at hh
          exact hh
        · refine zs_aload_n (j := 0) (i := 0) rfl rfl rfl ?_
          refine zs_aload_n (j := 0) (i := 0) rfl rfl rfl ?_
          refine zs_getfield (f := 5) (k := 3) rfl rfl (trivial) ?_
          show ZVV _ _ _ _ _ (ZI a :: _) _
          refine zs_iconst (n := 1) rfl ⟨by omega, by omega⟩ ?_
          refine zs_iadd_r rfl ⟨by have h9 : (0 : Int) ≤ a ∧ a ≤ 100 := hB.1; omega, by have h9 : (0 : Int) ≤ a ∧ a ≤ 100 := hB.1; omega⟩ ?_
          refine zs_callV (host := "") rfl kX5_32 vX5_lookAt (c_X5_lookAtR (a + 1)) [ZI (a + 1)] [] rfl (zroom_of (by omega)) rfl (Nat.le_of_ble_eq_true rfl) ⟨rfl, trivial⟩ (fun r_36 g_36 hq_36 => ?_)
          obtain ⟨hr_36, hg_36⟩ := hq_36
          rw [show lkf (pset g0 j (a, false, out)) = lkf g0 from rfl, pset_at] at hg_36
          rw [hr_36, hg_36]
          show ZVV _ _ _ 39 _ [] _
          refine zs_iload_n (j := 2) (i := 2) rfl rfl rfl ?_
          show ZVV _ _ _ 40 _ _ _
          exact zs_ireturn rfl rfl (by have hh := hq; rw [show pOne (lkf g0) (zxr 14) (n + 1) k (a, false, out) = ((k : Int), (a + 1, false, out)) from if_pos ⟨rfl, Classical.not_not.mp hc_26⟩] at hh; exact hh)
theorem l_X5_one14t {Y : ZW} {Q : Option ZV → ZG → Prop} {g0 : ZG} {j : Nat} {a : Int} {out : List Int} (hB : PB (a, true, out)) : ∀ n k : Nat, k + n = 3 → Q (some (ZI (pOne (lkf g0) (zxr 14) n k (a, true, out)).1)) (pset g0 j (pOne (lkf g0) (zxr 14) n k (a, true, out)).2) → ZVV Y mX5_readOneOf (zcx Y 4 Q) 2 [ZR 5 0, ZX 14, ZI (k : Int)] [] (pset g0 j (a, true, out)) := by
  intro n
  induction n with
  | zero =>
    intro k hk hq
    replace hk : (k : Int) = 3 := by omega
    refine zs_iload_n (j := 2) (i := 2) rfl rfl rfl ?_
    refine zs_xload_n (j := 1) (i := 1) (q := 14) rfl rfl rfl (by decide) ?_
    refine zs_callX (i := 4) (by decide) rfl kX5_54 vJ0_length (c_J0_length 4) [] [ZI (k : Int)] rfl (zroom_of (by omega)) rfl (Nat.le_of_ble_eq_true rfl) ⟨rfl, by decide⟩ (fun r_4 g_4 hq_4 => ?_)
    obtain ⟨hr_4, hg_4⟩ := hq_4
    rw [hr_4, hg_4]
    show ZVV _ _ _ 7 _ [ZI 3, ZI (k : Int)] _
    refine zs_icmp_ge 47 rfl (by omega) (fun hc_7 => ?_) (fun hc_7 => ?_)
    · refine zs_aload_n (j := 0) (i := 0) rfl rfl rfl ?_
      refine zs_iconst (n := 1) rfl ⟨by omega, by omega⟩ ?_
      refine zs_putfield (f := 5) (k := 5) (x := 1) rfl rfl (zpvZ (x := 1) ⟨by omega, by omega⟩) ?_
      rw [show zup (pset g0 j (a, true, out)) 5 0 5 1 = pset g0 j (a, true, out) from pset_fl g0 j (a, true, out) true]
      refine zs_iconst (n := 0) rfl ⟨by omega, by omega⟩ ?_
      exact zs_ireturn rfl rfl (hq)
    · exfalso; omega
  | succ n ih =>
    intro k hk hq
    replace hk : (k : Int) + (n + 1) = 3 := by omega
    refine zs_iload_n (j := 2) (i := 2) rfl rfl rfl ?_
    refine zs_xload_n (j := 1) (i := 1) (q := 14) rfl rfl rfl (by decide) ?_
    refine zs_callX (i := 4) (by decide) rfl kX5_54 vJ0_length (c_J0_length 4) [] [ZI (k : Int)] rfl (zroom_of (by omega)) rfl (Nat.le_of_ble_eq_true rfl) ⟨rfl, by decide⟩ (fun r_4 g_4 hq_4 => ?_)
    obtain ⟨hr_4, hg_4⟩ := hq_4
    rw [hr_4, hg_4]
    show ZVV _ _ _ 7 _ [ZI 3, ZI (k : Int)] _
    refine zs_icmp_ge 47 rfl (by omega) (fun hc_7 => ?_) (fun hc_7 => ?_)
    · exfalso; omega
    · refine zs_aload_n (j := 0) (i := 0) rfl rfl rfl ?_
      refine zs_getfield (f := 5) (k := 5) rfl rfl (trivial) ?_
      show ZVV _ _ _ _ _ (ZI 1 :: _) _
      refine zs_if_ne 41 rfl (by omega) (fun hc_14 => ?_) (fun hc_14 => ?_)
      · refine zs_iinc_r (i := 2) rfl rfl (by intro r x hr; have hr2 : r = 1 := (by omega); subst hr2; intro z; cases z) ⟨by omega, by omega⟩ ?_
        show ZVV _ _ _ _ [ZR 5 0, ZX 14, ZI ((k : Int) + 1)] _ _
        refine zs_goto 2 rfl (by omega) ?_
        refine ih (k + 1) (by omega) ?_
        have hh := hq
        rw [show pOne (lkf g0) (zxr 14) (n + 1) k (a, true, out) = pOne (lkf g0) (zxr 14) n (k + 1) (a, true, out) from if_neg (fun z => nomatch z.1)] at hh
        exact hh
      · exfalso; omega
theorem c_X5_readOneOf14 (g0 : ZG) (j : Nat) (s : PS) : ZC mX5_readOneOf 4 (fun av g => av = [ZR 5 0, ZX 14] ∧ g = pset g0 j s ∧ PB s) (fun _ g r g' => r = some (ZI (pOne (lkf g0) (zxr 14) 3 0 s).1) ∧ g' = pset g0 j (pOne (lkf g0) (zxr 14) 3 0 s).2) := by
  refine zc_of gX5_readOneOf (fun av g hp => by obtain ⟨rfl, -⟩ := hp; exact Nat.le_of_ble_eq_true rfl) (fun Y av g hwf hrg hp hok => ?_)
  obtain ⟨rfl, hp⟩ := hp
  show ZVV _ _ _ 0 [ZR 5 0, ZX 14, ZX 99] [] _
  obtain ⟨rfl, hB⟩ := hp
  refine zs_iconst (n := 0) rfl ⟨by omega, by omega⟩ ?_
  refine zs_istore_n (j := 2) (i := 2) rfl rfl (by decide) (by intro r x hr; have hr2 : r = 1 := (by omega); subst hr2; intro z; cases z) ?_
  show ZVV _ _ _ _ [ZR 5 0, ZX 14, ZI 0] _ _
  obtain ⟨a, fl, out⟩ := s
  cases fl
  · exact l_X5_one14f hB 3 0 rfl ⟨rfl, rfl⟩
  · exact l_X5_one14t hB 3 0 rfl ⟨rfl, rfl⟩

