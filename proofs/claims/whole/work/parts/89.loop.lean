/-! the law's loop -/
section LAWL
variable {Y : ZW} {b L : Nat} {xs : Nat → Int32} {i : Nat} {g : ZG}
theorem law_step (H : RR g) (hcl : g 1 0 8 ≤ 899999000) (hi : i + 6 ≤ L) (hL : L ≤ 3072) (K : LGO Y b L xs i g) : ZVV Y mLaw (cxL b L xs Y) 27 (LL i) [] g := by
  refine zs_xload_n (j := 0) (i := 0) (q := 30) zL_27 rfl rfl (by decide) ?_
  refine zs_iload_n (j := 3) (i := 3) (x := (i : Int)) zL_28 rfl rfl ?_
  refine zs_wld zL_29 (by omega) (by omega) ?_
  refine zs_bipush zL_30 ⟨by decide, by decide⟩ ?_
  refine zs_iand zL_32 ?_
  generalize zand (sx xs (i : Int).toNat) 63 = v
  by_cases hv : 0 ≤ v ∧ v ≤ 32
  · rcases (show v = 0 ∨ v = 1 ∨ v = 2 ∨ v = 3 ∨ v = 4 ∨ v = 5 ∨ v = 6 ∨ v = 7 ∨ v = 8 ∨ v = 9 ∨ v = 10 ∨ v = 11 ∨ v = 12 ∨ v = 13 ∨ v = 14 ∨ v = 15 ∨ v = 16 ∨ v = 17 ∨ v = 18 ∨ v = 19 ∨ v = 20 ∨ v = 21 ∨ v = 22 ∨ v = 23 ∨ v = 24 ∨ v = 25 ∨ v = 26 ∨ v = 27 ∨ v = 28 ∨ v = 29 ∨ v = 30 ∨ v = 31 ∨ v = 32 by omega) with rfl | rfl | rfl | rfl | rfl | rfl | rfl | rfl | rfl | rfl | rfl | rfl | rfl | rfl | rfl | rfl | rfl | rfl | rfl | rfl | rfl | rfl | rfl | rfl | rfl | rfl | rfl | rfl | rfl | rfl | rfl | rfl | rfl
    · exact zs_tsIn (off := 147) 180 zL_33 (by decide) (by decide) rfl (by decide) (L_town H hcl hi hL K)
    · exact zs_tsIn (off := 180) 213 zL_33 (by decide) (by decide) rfl (by decide) (L_neighbours H hcl hi hL K)
    · exact zs_tsIn (off := 203) 236 zL_33 (by decide) (by decide) rfl (by decide) (L_person H hcl hi hL K)
    · exact zs_tsIn (off := 256) 289 zL_33 (by decide) (by decide) rfl (by decide) (L_of H hcl hi hL K)
    · exact zs_tsIn (off := 289) 322 zL_33 (by decide) (by decide) rfl (by decide) (L_put H hcl hi hL K)
    · exact zs_tsIn (off := 322) 355 zL_33 (by decide) (by decide) rfl (by decide) (L_feed H hcl hi hL K)
    · exact zs_tsIn (off := 345) 378 zL_33 (by decide) (by decide) rfl (by decide) (L_street H hcl hi hL K)
    · exact zs_tsIn (off := 358) 391 zL_33 (by decide) (by decide) rfl (by decide) (L_told H hcl hi hL K)
    · exact zs_tsIn (off := 381) 414 zL_33 (by decide) (by decide) rfl (by decide) (L_move H hcl hi hL K)
    · exact zs_tsIn (off := 394) 427 zL_33 (by decide) (by decide) rfl (by decide) (L_run H hcl hi hL K)
    · exact zs_tsIn (off := 427) 460 zL_33 (by decide) (by decide) rfl (by decide) (L_rest H hcl hi hL K)
    · exact zs_tsIn (off := 440) 473 zL_33 (by decide) (by decide) rfl (by decide) (L_again H hcl hi hL K)
    · exact zs_tsIn (off := 453) 486 zL_33 (by decide) (by decide) rfl (by decide) (L_mixed H hcl hi hL K)
    · exact zs_tsIn (off := 476) 509 zL_33 (by decide) (by decide) rfl (by decide) (L_few H hcl hi hL K)
    · exact zs_tsIn (off := 489) 522 zL_33 (by decide) (by decide) rfl (by decide) (L_edge H hcl hi hL K)
    · exact zs_tsIn (off := 502) 535 zL_33 (by decide) (by decide) rfl (by decide) (L_begins H hcl hi hL K)
    · exact zs_tsIn (off := 515) 548 zL_33 (by decide) (by decide) rfl (by decide) (L_holds H hcl hi hL K)
    · exact zs_tsIn (off := 528) 561 zL_33 (by decide) (by decide) rfl (by decide) (L_before H hcl hi hL K)
    · exact zs_tsIn (off := 551) 584 zL_33 (by decide) (by decide) rfl (by decide) (L_odds H hcl hi hL K)
    · exact zs_tsIn (off := 585) 618 zL_33 (by decide) (by decide) rfl (by decide) (L_quarter H hcl hi hL K)
    · exact zs_tsIn (off := 629) 662 zL_33 (by decide) (by decide) rfl (by decide) (L_book H hcl hi hL K)
    · exact zs_tsIn (off := 652) 685 zL_33 (by decide) (by decide) rfl (by decide) (L_looked H hcl hi hL K)
    · exact zs_tsIn (off := 665) 698 zL_33 (by decide) (by decide) rfl (by decide) (L_judge H hcl hi hL K)
    · exact zs_tsIn (off := 698) 731 zL_33 (by decide) (by decide) rfl (by decide) (L_image H hcl hi hL K)
    · exact zs_tsIn (off := 711) 744 zL_33 (by decide) (by decide) rfl (by decide) (L_undo H hcl hi hL K)
    · exact zs_tsIn (off := 724) 757 zL_33 (by decide) (by decide) rfl (by decide) (L_act H hcl hi hL K)
    · exact zs_tsIn (off := 767) 800 zL_33 (by decide) (by decide) rfl (by decide) (L_trace H hcl hi hL K)
    · exact zs_tsIn (off := 790) 823 zL_33 (by decide) (by decide) rfl (by decide) (L_taken H hcl hi hL K)
    · exact zs_tsIn (off := 823) 856 zL_33 (by decide) (by decide) rfl (by decide) (L_count H hcl hi hL K)
    · exact zs_tsIn (off := 846) 879 zL_33 (by decide) (by decide) rfl (by decide) (L_tape H hcl hi hL K)
    · exact zs_tsIn (off := 889) 922 zL_33 (by decide) (by decide) rfl (by decide) (L_item H hcl hi hL K)
    · exact zs_tsIn (off := 962) 995 zL_33 (by decide) (by decide) rfl (by decide) (L_read H hcl hi hL K)
    · exact zs_tsIn (off := 996) 1029 zL_33 (by decide) (by decide) rfl (by decide) (L_shift H hcl hi hL K)
  · exact zs_tsOut 1092 zL_33 (by omega) (by decide) (K g H (by omega))
theorem law_loop (hL : L ≤ 3072) : ∀ (n k : Nat) (g : ZG), L < 6 * k + 6 * n + 6 → k ≤ 512 → RR g → g 1 0 8 ≤ 231 * (k : Int) → ZVV Y mLaw (cxL b L xs Y) 18 (LL (6 * k)) [] g := by
  intro n
  induction n with
  | zero =>
    intro k g hn hk H hc
    refine zs_iload_n (j := 3) (i := 3) (x := ((6 * k : Nat) : Int)) zL_18 rfl rfl ?_
    refine zs_xload_n (j := 0) (i := 0) (q := 30) zL_19 rfl rfl (by decide) ?_
    refine zs_wlen hL zL_20 ?_
    refine zs_bipush zL_21 ⟨by decide, by decide⟩ ?_
    refine zs_isub_r zL_23 (by omega) ?_
    refine zs_icmp_gt 1098 zL_24 (by decide) (fun _ => ?_) (fun h => absurd h (by omega))
    refine zs_iconst zL_1098 (by omega) ?_
    exact zs_lawret zL_1099
  | succ n ih =>
    intro k g hn hk H hc
    refine zs_iload_n (j := 3) (i := 3) (x := ((6 * k : Nat) : Int)) zL_18 rfl rfl ?_
    refine zs_xload_n (j := 0) (i := 0) (q := 30) zL_19 rfl rfl (by decide) ?_
    refine zs_wlen hL zL_20 ?_
    refine zs_bipush zL_21 ⟨by decide, by decide⟩ ?_
    refine zs_isub_r zL_23 (by omega) ?_
    refine zs_icmp_gt 1098 zL_24 (by decide) (fun _ => ?_) (fun h => ?_)
    · refine zs_iconst zL_1098 (by omega) ?_
      exact zs_lawret zL_1099
    · refine law_step H (by omega) (by omega) hL (fun g' H' hc' => ?_)
      refine zs_iinc_r zL_1092 rfl (by intro r x hr; have hr2 : r = 2 := (by omega); subst hr2; intro z; cases z) (by omega) ?_
      refine zs_goto 18 zL_1095 (by decide) ?_
      have hk2 := ih (k + 1) g' (by omega) (by omega) H' (by omega)
      have e : ((6 * (k + 1) : Nat) : Int) = ((6 * k : Nat) : Int) + 6 := by omega
      unfold LL at hk2
      rw [e] at hk2
      exact hk2
end LAWL
