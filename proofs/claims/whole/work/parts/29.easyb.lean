def cTown (g : ZG) (n sh : Int) : Int × ZG := if sh < 0 ∨ 2 < sh then (-1, g) else if n < 3 ∨ 8 < n then (-2, g) else if zfst (fun p => decide (n ≤ g 18 0 p)) (g 2 0 3).toNat 0 ≠ -1 then (-3, g) else (g 2 0 0, zlayF (zup (zup g 2 0 0 n) 2 0 1 sh) 0 n sh 0)
theorem l_X7_town {Y : ZW} {Q : Option ZV → ZG → Prop} {g : ZG} {n sh : Int} (hn6 : 0 ≤ g 2 0 3 ∧ g 2 0 3 ≤ 6) (hn : 3 ≤ n ∧ n ≤ 8) (hs : 0 ≤ sh ∧ sh ≤ 2) : ∀ m k : Nat, (k : Int) + m = g 2 0 3 → (zfst (fun p => decide (n ≤ g 18 0 p)) m k ≠ -1 → Q (some (ZI (-3))) g) → (zfst (fun p => decide (n ≤ g 18 0 p)) m k = -1 → Q (some (ZI (g 2 0 0))) (zlayF (zup (zup g 2 0 0 n) 2 0 1 sh) 0 n sh 0)) → ZVV Y mX7_town (zcx Y 4 Q) 27 [ZR 7 0, ZI n, ZI sh, ZI (k : Int)] [] g := by
  intro m
  induction m with
  | zero =>
    intro k hk hq hr
    refine zs_iload_n (j := 3) (i := 3) rfl rfl rfl ?_
    refine zs_aload_n (j := 0) (i := 0) rfl rfl rfl ?_
    refine zs_getfield (f := 7) (k := 5) rfl rfl (trivial) ?_
    show ZVV _ _ _ _ _ (ZR 2 0 :: _) _
    refine zs_getfield (f := 2) (k := 3) rfl rfl (trivial) ?_
    show ZVV _ _ _ _ _ (ZI (g 2 0 3) :: _) _
    refine zs_icmp_ge 60 rfl (by omega) (fun hc_35 => ?_) (fun hc_35 => ?_)
    · refine zs_aload_n (j := 0) (i := 0) rfl rfl rfl ?_
      refine zs_getfield (f := 7) (k := 5) rfl rfl (trivial) ?_
      show ZVV _ _ _ _ _ (ZR 2 0 :: _) _
      refine zs_getfield (f := 2) (k := 0) rfl rfl (trivial) ?_
      show ZVV _ _ _ _ _ (ZI (g 2 0 0) :: _) _
      refine zs_istore_n (j := 3) (i := 3) rfl rfl (by decide) (by intro r x hr; have hr2 : r = 2 := (by omega); subst hr2; intro z; cases z) ?_
      show ZVV _ _ _ _ [ZR 7 0, ZI n, ZI sh, ZI (g 2 0 0)] _ _
      refine zs_aload_n (j := 0) (i := 0) rfl rfl rfl ?_
      refine zs_getfield (f := 7) (k := 5) rfl rfl (trivial) ?_
      show ZVV _ _ _ _ _ (ZR 2 0 :: _) _
      refine zs_iload_n (j := 1) (i := 1) rfl rfl rfl ?_
      show ZVV _ _ _ 73 _ _ _
      refine zs_iload_n (j := 2) (i := 2) rfl rfl rfl ?_
      refine zs_callV (host := "") rfl kX7_76 vX2_layOut (c_X2_layOut 0 n sh) [ZI n, ZI sh] [] rfl (zroom_of (by omega)) rfl (Nat.le_of_ble_eq_true rfl) (⟨rfl, by omega, by omega⟩) (fun r_74 g_74 hq_74 => ?_)
      obtain ⟨hr_74, hg_74⟩ := hq_74
      rw [hr_74, hg_74]
      show ZVV _ _ _ 77 _ [] _
      refine zs_iload_n (j := 3) (i := 3) rfl rfl rfl ?_
      exact zs_ireturn rfl rfl (hr rfl)
    · exfalso; omega
  | succ m ih =>
    intro k hk hq hr
    refine zs_iload_n (j := 3) (i := 3) rfl rfl rfl ?_
    refine zs_aload_n (j := 0) (i := 0) rfl rfl rfl ?_
    refine zs_getfield (f := 7) (k := 5) rfl rfl (trivial) ?_
    show ZVV _ _ _ _ _ (ZR 2 0 :: _) _
    refine zs_getfield (f := 2) (k := 3) rfl rfl (trivial) ?_
    show ZVV _ _ _ _ _ (ZI (g 2 0 3) :: _) _
    refine zs_icmp_ge 60 rfl (by omega) (fun hc_35 => ?_) (fun hc_35 => ?_)
    · exfalso; omega
    · refine zs_aload_n (j := 0) (i := 0) rfl rfl rfl ?_
      refine zs_getfield (f := 7) (k := 5) rfl rfl (trivial) ?_
      show ZVV _ _ _ _ _ (ZR 2 0 :: _) _
      refine zs_getfield (f := 2) (k := 7) rfl rfl (trivial) ?_
      show ZVV _ _ _ _ _ (ZR 18 0 :: _) _
      refine zs_iload_n (j := 3) (i := 3) rfl rfl rfl ?_
      refine zs_iald (n := 6) rfl rfl (by omega) (by omega) ?_
      show ZVV _ _ _ _ _ (ZI (g 18 0 k) :: _) _
      refine zs_iload_n (j := 1) (i := 1) rfl rfl rfl ?_
      refine zs_icmp_lt 54 rfl (by omega) (fun hc_48 => ?_) (fun hc_48 => ?_)
      · refine zs_iinc_r (i := 3) rfl rfl (by intro r x hr; have hr2 : r = 2 := (by omega); subst hr2; intro z; cases z) ⟨by omega, by omega⟩ ?_
        show ZVV _ _ _ _ [ZR 7 0, ZI n, ZI sh, ZI ((k : Int) + 1)] _ _
        refine zs_goto 27 rfl (by omega) ?_
        have hz : decide (n ≤ g 18 0 k) = false := decide_eq_false (by omega)
        exact ih (k + 1) (by omega) (fun z => hq (by rw [zfst_f (P := fun p => decide (n ≤ g 18 0 p)) hz]; exact z)) (fun z => hr (by rw [zfst_f (P := fun p => decide (n ≤ g 18 0 p)) hz]; exact z))
      · refine zs_bipush (n := (-3)) rfl ⟨by omega, by omega⟩ ?_
        exact zs_ireturn rfl rfl (hq (by
      have hz : decide (n ≤ g 18 0 k) = true := decide_eq_true (by omega)
      rw [zfst_t (P := fun p => decide (n ≤ g 18 0 p)) hz]; omega))
theorem c_X7_town (n sh : Int) : ZC mX7_town 4 (fun av g => av = [ZR 7 0, ZI n, ZI sh] ∧ (0 ≤ g 2 0 3 ∧ g 2 0 3 ≤ 6) ∧ True) (fun _ g r g' => r = some (ZI (cTown g n sh).1) ∧ g' = (cTown g n sh).2) := by
  refine zc_of gX7_town (fun av g hp => by obtain ⟨rfl, -⟩ := hp; exact Nat.le_of_ble_eq_true rfl) (fun Y av g hwf hrg hp hok => ?_)
  obtain ⟨rfl, hp⟩ := hp
  show ZVV _ _ _ 0 [ZR 7 0, ZI n, ZI sh, ZX 99] [] _
  have hn6 := hp.1
  refine zs_iload_n (j := 2) (i := 2) rfl rfl rfl ?_
  refine zs_if_lt 9 rfl (by omega) (fun hc_1 => ?_) (fun hc_1 => ?_)
  · refine zs_iconst (n := (-1)) rfl ⟨by omega, by omega⟩ ?_
    exact zs_ireturn rfl rfl (by unfold cTown; first | rw [if_pos (by omega)]; exact ⟨rfl, rfl⟩)
  · refine zs_iload_n (j := 2) (i := 2) rfl rfl rfl ?_
    refine zs_iconst (n := 2) rfl ⟨by omega, by omega⟩ ?_
    refine zs_icmp_le 11 rfl (by omega) (fun hc_6 => ?_) (fun hc_6 => ?_)
    · refine zs_iload_n (j := 1) (i := 1) rfl rfl rfl ?_
      refine zs_iconst (n := 3) rfl ⟨by omega, by omega⟩ ?_
      refine zs_icmp_lt 22 rfl (by omega) (fun hc_13 => ?_) (fun hc_13 => ?_)
      · refine zs_bipush (n := (-2)) rfl ⟨by omega, by omega⟩ ?_
        exact zs_ireturn rfl rfl (by unfold cTown; rw [if_neg (by omega), if_pos (by omega)]; exact ⟨rfl, rfl⟩)
      · refine zs_iload_n (j := 1) (i := 1) rfl rfl rfl ?_
        refine zs_bipush (n := 8) rfl ⟨by omega, by omega⟩ ?_
        refine zs_icmp_le 25 rfl (by omega) (fun hc_19 => ?_) (fun hc_19 => ?_)
        · refine zs_iconst (n := 0) rfl ⟨by omega, by omega⟩ ?_
          refine zs_istore_n (j := 3) (i := 3) rfl rfl (by decide) (by intro r x hr; have hr2 : r = 2 := (by omega); subst hr2; intro z; cases z) ?_
          show ZVV _ _ _ _ [ZR 7 0, ZI n, ZI sh, ZI 0] _ _
          exact l_X7_town hn6 (by omega) (by omega) (g 2 0 3).toNat 0 (by omega) (fun z => by unfold cTown; rw [if_neg (by omega), if_neg (by omega), if_pos z]; exact ⟨rfl, rfl⟩) (fun z => by unfold cTown; rw [if_neg (by omega), if_neg (by omega), if_neg (fun w => w z)]; exact ⟨rfl, rfl⟩)
        · refine zs_bipush (n := (-2)) rfl ⟨by omega, by omega⟩ ?_
          exact zs_ireturn rfl rfl (by unfold cTown; rw [if_neg (by omega), if_pos (by omega)]; exact ⟨rfl, rfl⟩)
    · refine zs_iconst (n := (-1)) rfl ⟨by omega, by omega⟩ ?_
      exact zs_ireturn rfl rfl (by unfold cTown; first | rw [if_pos (by omega)]; exact ⟨rfl, rfl⟩)

def cBook (g : ZG) (t : Int) : Int × ZG := if t = -1 then (0, zup g 2 0 10 0) else if t < 0 ∨ 6 ≤ t / 10 ∨ 8 ≤ t % 10 then (-1, g) else if 12 ≤ g 2 0 10 then (-4, g) else (g 2 0 10 + 1, zup (zup g 19 0 (g 2 0 10).toNat t) 2 0 10 (g 2 0 10 + 1))
theorem c_X7_book (t : Int) : ZC mX7_book 2 (fun av g => av = [ZR 7 0, ZI t] ∧ (0 ≤ g 2 0 10 ∧ g 2 0 10 ≤ 12) ∧ True) (fun _ g r g' => r = some (ZI (cBook g t).1) ∧ g' = (cBook g t).2) := by
  refine zc_of gX7_book (fun av g hp => by obtain ⟨rfl, -⟩ := hp; exact Nat.le_of_ble_eq_true rfl) (fun Y av g hwf hrg hp hok => ?_)
  obtain ⟨rfl, hp⟩ := hp
  show ZVV _ _ _ 0 [ZR 7 0, ZI t] [] _
  have hb := hp.1
  refine zs_iload_n (j := 1) (i := 1) rfl rfl rfl ?_
  refine zs_iconst (n := (-1)) rfl ⟨by omega, by omega⟩ ?_
  refine zs_icmp_ne 15 rfl (by omega) (fun hc_2 => ?_) (fun hc_2 => ?_)
  · refine zs_iload_n (j := 1) (i := 1) rfl rfl rfl ?_
    refine zs_if_lt 37 rfl (by omega) (fun hc_16 => ?_) (fun hc_16 => ?_)
    · refine zs_iconst (n := (-1)) rfl ⟨by omega, by omega⟩ ?_
      exact zs_ireturn rfl rfl (by unfold cBook; first | (rw [if_pos (by omega)]; exact ⟨rfl, rfl⟩) | (rw [if_neg (by omega), if_pos (by omega)]; exact ⟨rfl, rfl⟩) | (rw [if_neg (by omega), if_neg (by omega), if_pos (by omega)]; exact ⟨rfl, rfl⟩) | (rw [if_neg (by omega), if_neg (by omega), if_neg (by omega)]; exact ⟨rfl, rfl⟩))
    · refine zs_iload_n (j := 1) (i := 1) rfl rfl rfl ?_
      refine zs_bipush (n := 10) rfl ⟨by omega, by omega⟩ ?_
      refine zs_idiv_p rfl (by omega) (by omega) ?_
      refine zs_bipush (n := 6) rfl ⟨by omega, by omega⟩ ?_
      refine zs_icmp_ge 37 rfl (by omega) (fun hc_25 => ?_) (fun hc_25 => ?_)
      · refine zs_iconst (n := (-1)) rfl ⟨by omega, by omega⟩ ?_
        exact zs_ireturn rfl rfl (by unfold cBook; first | (rw [if_pos (by omega)]; exact ⟨rfl, rfl⟩) | (rw [if_neg (by omega), if_pos (by omega)]; exact ⟨rfl, rfl⟩) | (rw [if_neg (by omega), if_neg (by omega), if_pos (by omega)]; exact ⟨rfl, rfl⟩) | (rw [if_neg (by omega), if_neg (by omega), if_neg (by omega)]; exact ⟨rfl, rfl⟩))
      · refine zs_iload_n (j := 1) (i := 1) rfl rfl rfl ?_
        refine zs_bipush (n := 10) rfl ⟨by omega, by omega⟩ ?_
        refine zs_irem_p rfl (by omega) (by omega) ?_
        refine zs_bipush (n := 8) rfl ⟨by omega, by omega⟩ ?_
        refine zs_icmp_lt 39 rfl (by omega) (fun hc_34 => ?_) (fun hc_34 => ?_)
        · refine zs_aload_n (j := 0) (i := 0) rfl rfl rfl ?_
          refine zs_getfield (f := 7) (k := 5) rfl rfl (trivial) ?_
          show ZVV _ _ _ _ _ (ZR 2 0 :: _) _
          refine zs_getfield (f := 2) (k := 10) rfl rfl (trivial) ?_
          show ZVV _ _ _ _ _ (ZI (g 2 0 10) :: _) _
          refine zs_bipush (n := 12) rfl ⟨by omega, by omega⟩ ?_
          refine zs_icmp_lt 54 rfl (by omega) (fun hc_48 => ?_) (fun hc_48 => ?_)
          · refine zs_aload_n (j := 0) (i := 0) rfl rfl rfl ?_
            refine zs_getfield (f := 7) (k := 5) rfl rfl (trivial) ?_
            show ZVV _ _ _ _ _ (ZR 2 0 :: _) _
            refine zs_getfield (f := 2) (k := 9) rfl rfl (trivial) ?_
            show ZVV _ _ _ _ _ (ZR 19 0 :: _) _
            refine zs_aload_n (j := 0) (i := 0) rfl rfl rfl ?_
            refine zs_getfield (f := 7) (k := 5) rfl rfl (trivial) ?_
            show ZVV _ _ _ _ _ (ZR 2 0 :: _) _
            refine zs_getfield (f := 2) (k := 10) rfl rfl (trivial) ?_
            show ZVV _ _ _ _ _ (ZI (g 2 0 10) :: _) _
            refine zs_iload_n (j := 1) (i := 1) rfl rfl rfl ?_
            show ZVV _ _ _ 69 _ _ _
            refine zs_iast (n := 12) rfl rfl (by omega) (by omega) ?_
            refine zs_aload_n (j := 0) (i := 0) rfl rfl rfl ?_
            refine zs_getfield (f := 7) (k := 5) rfl rfl (trivial) ?_
            show ZVV _ _ _ _ _ (ZR 2 0 :: _) _
            refine zs_dup rfl (by intro x z; cases z) ?_
            refine zs_getfield (f := 2) (k := 10) rfl rfl (trivial) ?_
            show ZVV _ _ _ _ _ (ZI (g 2 0 10) :: _) _
            refine zs_iconst (n := 1) rfl ⟨by omega, by omega⟩ ?_
            refine zs_iadd_r rfl ⟨by omega, by omega⟩ ?_
            refine zs_putfield (f := 2) (k := 10) (x := (g 2 0 10) + 1) rfl rfl (rfl) ?_
            show ZVV _ _ _ 83 _ _ _
            refine zs_aload_n (j := 0) (i := 0) rfl rfl rfl ?_
            refine zs_getfield (f := 7) (k := 5) rfl rfl (trivial) ?_
            show ZVV _ _ _ _ _ (ZR 2 0 :: _) _
            refine zs_getfield (f := 2) (k := 10) rfl rfl (trivial) ?_
            show ZVV _ _ _ _ _ (ZI ((g 2 0 10) + 1) :: _) _
            exact zs_ireturn rfl rfl (by unfold cBook; first | (rw [if_pos (by omega)]; exact ⟨rfl, rfl⟩) | (rw [if_neg (by omega), if_pos (by omega)]; exact ⟨rfl, rfl⟩) | (rw [if_neg (by omega), if_neg (by omega), if_pos (by omega)]; exact ⟨rfl, rfl⟩) | (rw [if_neg (by omega), if_neg (by omega), if_neg (by omega)]; exact ⟨rfl, rfl⟩))
          · refine zs_bipush (n := (-4)) rfl ⟨by omega, by omega⟩ ?_
            exact zs_ireturn rfl rfl (by unfold cBook; first | (rw [if_pos (by omega)]; exact ⟨rfl, rfl⟩) | (rw [if_neg (by omega), if_pos (by omega)]; exact ⟨rfl, rfl⟩) | (rw [if_neg (by omega), if_neg (by omega), if_pos (by omega)]; exact ⟨rfl, rfl⟩) | (rw [if_neg (by omega), if_neg (by omega), if_neg (by omega)]; exact ⟨rfl, rfl⟩))
        · refine zs_iconst (n := (-1)) rfl ⟨by omega, by omega⟩ ?_
          exact zs_ireturn rfl rfl (by unfold cBook; first | (rw [if_pos (by omega)]; exact ⟨rfl, rfl⟩) | (rw [if_neg (by omega), if_pos (by omega)]; exact ⟨rfl, rfl⟩) | (rw [if_neg (by omega), if_neg (by omega), if_pos (by omega)]; exact ⟨rfl, rfl⟩) | (rw [if_neg (by omega), if_neg (by omega), if_neg (by omega)]; exact ⟨rfl, rfl⟩))
  · refine zs_aload_n (j := 0) (i := 0) rfl rfl rfl ?_
    refine zs_getfield (f := 7) (k := 5) rfl rfl (trivial) ?_
    show ZVV _ _ _ _ _ (ZR 2 0 :: _) _
    refine zs_iconst (n := 0) rfl ⟨by omega, by omega⟩ ?_
    refine zs_putfield (f := 2) (k := 10) (x := 0) rfl rfl (rfl) ?_
    refine zs_iconst (n := 0) rfl ⟨by omega, by omega⟩ ?_
    exact zs_ireturn rfl rfl (by unfold cBook; first | (rw [if_pos (by omega)]; exact ⟨rfl, rfl⟩) | (rw [if_neg (by omega), if_pos (by omega)]; exact ⟨rfl, rfl⟩) | (rw [if_neg (by omega), if_neg (by omega), if_pos (by omega)]; exact ⟨rfl, rfl⟩) | (rw [if_neg (by omega), if_neg (by omega), if_neg (by omega)]; exact ⟨rfl, rfl⟩))

theorem c_X7_image  : ZC mX7_image 2 (fun av g => av = [ZR 7 0] ∧ 0 ≤ g 2 0 11 ∧ True) (fun _ g r g' => r = some (ZI (g 2 0 3)) ∧ g' = zup (zcopyF g 1 0) 7 0 9 1) := by
  refine zc_of gX7_image (fun av g hp => by obtain ⟨rfl, -⟩ := hp; exact Nat.le_of_ble_eq_true rfl) (fun Y av g hwf hrg hp hok => ?_)
  obtain ⟨rfl, hp⟩ := hp
  show ZVV _ _ _ 0 [ZR 7 0] [] _
  refine zs_aload_n (j := 0) (i := 0) rfl rfl rfl ?_
  refine zs_getfield (f := 7) (k := 6) rfl rfl (trivial) ?_
  show ZVV _ _ _ _ _ (ZR 2 1 :: _) _
  refine zs_aload_n (j := 0) (i := 0) rfl rfl rfl ?_
  refine zs_getfield (f := 7) (k := 5) rfl rfl (trivial) ?_
  show ZVV _ _ _ _ _ (ZR 2 0 :: _) _
  refine zs_callV (host := "") rfl kX7_164 vX2_copyFrom (c_X2_copyFrom 1 0) [ZR 2 0] [] rfl (zroom_of (by omega)) rfl (Nat.le_of_ble_eq_true rfl) (⟨rfl, by decide, hp.1⟩) (fun r_8 g_8 hq_8 => ?_)
  obtain ⟨hr_8, hg_8⟩ := hq_8
  rw [hr_8, hg_8]
  show ZVV _ _ _ 11 _ [] _
  refine zs_aload_n (j := 0) (i := 0) rfl rfl rfl ?_
  refine zs_iconst (n := 1) rfl ⟨by omega, by omega⟩ ?_
  show ZVV _ _ _ 13 _ _ _
  refine zs_putfield (f := 7) (k := 9) (x := 1) rfl rfl (zpvZ (x := 1) ⟨by omega, by omega⟩) ?_
  refine zs_aload_n (j := 0) (i := 0) rfl rfl rfl ?_
  refine zs_getfield (f := 7) (k := 6) rfl rfl (trivial) ?_
  show ZVV _ _ _ _ _ (ZR 2 1 :: _) _
  refine zs_getfield (f := 2) (k := 3) rfl rfl (trivial) ?_
  show ZVV _ _ _ _ _ (ZI ((zcopyF g 1 0) 2 1 3) :: _) _
  exact zs_ireturn rfl rfl (⟨rfl, rfl⟩)

theorem c_X7_undo  : ZC mX7_undo 2 (fun av g => av = [ZR 7 0] ∧ 0 ≤ g 2 1 11 ∧ True) (fun _ g r g' => r = some (ZI (if g 7 0 9 = 0 then -3 else g 2 1 3)) ∧ g' = (if g 7 0 9 = 0 then g else zcopyF g 0 1)) := by
  refine zc_of gX7_undo (fun av g hp => by obtain ⟨rfl, -⟩ := hp; exact Nat.le_of_ble_eq_true rfl) (fun Y av g hwf hrg hp hok => ?_)
  obtain ⟨rfl, hp⟩ := hp
  show ZVV _ _ _ 0 [ZR 7 0] [] _
  refine zs_aload_n (j := 0) (i := 0) rfl rfl rfl ?_
  refine zs_getfield (f := 7) (k := 9) rfl rfl (trivial) ?_
  show ZVV _ _ _ _ _ (ZI (g 7 0 9) :: _) _
  refine zs_if_ne 10 rfl (by omega) (fun hc_4 => ?_) (fun hc_4 => ?_)
  · refine zs_aload_n (j := 0) (i := 0) rfl rfl rfl ?_
    refine zs_getfield (f := 7) (k := 5) rfl rfl (trivial) ?_
    show ZVV _ _ _ _ _ (ZR 2 0 :: _) _
    refine zs_aload_n (j := 0) (i := 0) rfl rfl rfl ?_
    refine zs_getfield (f := 7) (k := 6) rfl rfl (trivial) ?_
    show ZVV _ _ _ _ _ (ZR 2 1 :: _) _
    refine zs_callV (host := "") rfl kX7_164 vX2_copyFrom (c_X2_copyFrom 0 1) [ZR 2 1] [] rfl (zroom_of (by omega)) rfl (Nat.le_of_ble_eq_true rfl) (⟨rfl, by decide, hp.1⟩) (fun r_18 g_18 hq_18 => ?_)
    obtain ⟨hr_18, hg_18⟩ := hq_18
    rw [hr_18, hg_18]
    show ZVV _ _ _ 21 _ [] _
    refine zs_aload_n (j := 0) (i := 0) rfl rfl rfl ?_
    refine zs_getfield (f := 7) (k := 5) rfl rfl (trivial) ?_
    show ZVV _ _ _ _ _ (ZR 2 0 :: _) _
    show ZVV _ _ _ 25 _ _ _
    refine zs_getfield (f := 2) (k := 3) rfl rfl (trivial) ?_
    show ZVV _ _ _ _ _ (ZI ((zcopyF g 0 1) 2 0 3) :: _) _
    exact zs_ireturn rfl rfl (by first | (rw [if_pos (by omega), if_pos (by omega)]; exact ⟨rfl, rfl⟩) | (rw [if_neg (by omega), if_neg (by omega)]; exact ⟨rfl, rfl⟩))
  · refine zs_bipush (n := (-3)) rfl ⟨by omega, by omega⟩ ?_
    exact zs_ireturn rfl rfl (by first | (rw [if_pos (by omega), if_pos (by omega)]; exact ⟨rfl, rfl⟩) | (rw [if_neg (by omega), if_neg (by omega)]; exact ⟨rfl, rfl⟩))

def cTrace (g : ZG) (i : Int) : Int × ZG := if i < 0 ∨ g 0 0 3 ≤ i ∨ 20 ≤ i then (-1, g) else (g 10 0 i.toNat, g)
theorem c_X7_trace (i : Int) : ZC mX7_trace 1 (fun av g => av = [ZR 7 0, ZI i] ∧ True) (fun _ g r g' => r = some (ZI (cTrace g i).1) ∧ g' = (cTrace g i).2) := by
  refine zc_of gX7_trace (fun av g hp => by obtain ⟨rfl, -⟩ := hp; exact Nat.le_of_ble_eq_true rfl) (fun Y av g hwf hrg hp hok => ?_)
  obtain ⟨rfl, hp⟩ := hp
  show ZVV _ _ _ 0 [ZR 7 0, ZI i] [] _
  refine zs_iload_n (j := 1) (i := 1) rfl rfl rfl ?_
  refine zs_if_lt 21 rfl (by omega) (fun hc_1 => ?_) (fun hc_1 => ?_)
  · refine zs_iconst (n := (-1)) rfl ⟨by omega, by omega⟩ ?_
    refine zs_goto 34 rfl (by omega) ?_
    exact zs_ireturn rfl rfl (by unfold cTrace; first | (rw [if_pos (by omega)]; exact ⟨rfl, rfl⟩) | (rw [if_neg (by omega)]; exact ⟨rfl, rfl⟩))
  · refine zs_iload_n (j := 1) (i := 1) rfl rfl rfl ?_
    refine zs_aload_n (j := 0) (i := 0) rfl rfl rfl ?_
    refine zs_getfield (f := 7) (k := 3) rfl rfl (trivial) ?_
    show ZVV _ _ _ _ _ (ZR 0 0 :: _) _
    refine zs_getfield (f := 0) (k := 3) rfl rfl (trivial) ?_
    show ZVV _ _ _ _ _ (ZI (g 0 0 3) :: _) _
    refine zs_icmp_ge 21 rfl (by omega) (fun hc_12 => ?_) (fun hc_12 => ?_)
    · refine zs_iconst (n := (-1)) rfl ⟨by omega, by omega⟩ ?_
      refine zs_goto 34 rfl (by omega) ?_
      exact zs_ireturn rfl rfl (by unfold cTrace; first | (rw [if_pos (by omega)]; exact ⟨rfl, rfl⟩) | (rw [if_neg (by omega)]; exact ⟨rfl, rfl⟩))
    · refine zs_iload_n (j := 1) (i := 1) rfl rfl rfl ?_
      refine zs_bipush (n := 20) rfl ⟨by omega, by omega⟩ ?_
      refine zs_icmp_lt 25 rfl (by omega) (fun hc_18 => ?_) (fun hc_18 => ?_)
      · refine zs_aload_n (j := 0) (i := 0) rfl rfl rfl ?_
        refine zs_getfield (f := 7) (k := 3) rfl rfl (trivial) ?_
        show ZVV _ _ _ _ _ (ZR 0 0 :: _) _
        refine zs_getfield (f := 0) (k := 4) rfl rfl (trivial) ?_
        show ZVV _ _ _ _ _ (ZR 10 0 :: _) _
        refine zs_iload_n (j := 1) (i := 1) rfl rfl rfl ?_
        refine zs_iald (n := 20) rfl rfl (by omega) (by omega) ?_
        exact zs_ireturn rfl rfl (by unfold cTrace; first | (rw [if_pos (by omega)]; exact ⟨rfl, rfl⟩) | (rw [if_neg (by omega)]; exact ⟨rfl, rfl⟩))
      · refine zs_iconst (n := (-1)) rfl ⟨by omega, by omega⟩ ?_
        refine zs_goto 34 rfl (by omega) ?_
        exact zs_ireturn rfl rfl (by unfold cTrace; first | (rw [if_pos (by omega)]; exact ⟨rfl, rfl⟩) | (rw [if_neg (by omega)]; exact ⟨rfl, rfl⟩))

def cCount (g : ZG) (w : Int) : Int × ZG := if w = 0 then (g 2 0 3, g) else if w = 1 then (g 7 0 8, g) else if w = 2 then (g 2 0 10, g) else if w = 3 then (g 5 0 0, g) else if w = 4 then (g 0 0 3, g) else (-2, g)
theorem c_X7_count (w : Int) : ZC mX7_count 1 (fun av g => av = [ZR 7 0, ZI w] ∧ True) (fun _ g r g' => r = some (ZI (cCount g w).1) ∧ g' = (cCount g w).2) := by
  refine zc_of gX7_count (fun av g hp => by obtain ⟨rfl, -⟩ := hp; exact Nat.le_of_ble_eq_true rfl) (fun Y av g hwf hrg hp hok => ?_)
  obtain ⟨rfl, hp⟩ := hp
  show ZVV _ _ _ 0 [ZR 7 0, ZI w] [] _
  refine zs_iload_n (j := 1) (i := 1) rfl rfl rfl ?_
  by_cases hs_1_0 : w = 0
  · refine zs_tsIn 36 rfl (by omega) (by omega) (off := 35) (by rw [hs_1_0]; rfl) (by omega) ?_
    refine zs_aload_n (j := 0) (i := 0) rfl rfl rfl ?_
    refine zs_getfield (f := 7) (k := 5) rfl rfl (trivial) ?_
    show ZVV _ _ _ _ _ (ZR 2 0 :: _) _
    refine zs_getfield (f := 2) (k := 3) rfl rfl (trivial) ?_
    show ZVV _ _ _ _ _ (ZI (g 2 0 3) :: _) _
    exact zs_ireturn rfl rfl (by unfold cCount; first | (rw [if_pos (by omega)]; exact ⟨rfl, rfl⟩) | (rw [if_neg (by omega), if_pos (by omega)]; exact ⟨rfl, rfl⟩) | (rw [if_neg (by omega), if_neg (by omega), if_pos (by omega)]; exact ⟨rfl, rfl⟩) | (rw [if_neg (by omega), if_neg (by omega), if_neg (by omega), if_pos (by omega)]; exact ⟨rfl, rfl⟩) | (rw [if_neg (by omega), if_neg (by omega), if_neg (by omega), if_neg (by omega), if_pos (by omega)]; exact ⟨rfl, rfl⟩) | (rw [if_neg (by omega), if_neg (by omega), if_neg (by omega), if_neg (by omega), if_neg (by omega)]; exact ⟨rfl, rfl⟩))
  by_cases hs_1_1 : w = 1
  · refine zs_tsIn 44 rfl (by omega) (by omega) (off := 43) (by rw [hs_1_1]; rfl) (by omega) ?_
    refine zs_aload_n (j := 0) (i := 0) rfl rfl rfl ?_
    refine zs_getfield (f := 7) (k := 8) rfl rfl (trivial) ?_
    show ZVV _ _ _ _ _ (ZI (g 7 0 8) :: _) _
    exact zs_ireturn rfl rfl (by unfold cCount; first | (rw [if_pos (by omega)]; exact ⟨rfl, rfl⟩) | (rw [if_neg (by omega), if_pos (by omega)]; exact ⟨rfl, rfl⟩) | (rw [if_neg (by omega), if_neg (by omega), if_pos (by omega)]; exact ⟨rfl, rfl⟩) | (rw [if_neg (by omega), if_neg (by omega), if_neg (by omega), if_pos (by omega)]; exact ⟨rfl, rfl⟩) | (rw [if_neg (by omega), if_neg (by omega), if_neg (by omega), if_neg (by omega), if_pos (by omega)]; exact ⟨rfl, rfl⟩) | (rw [if_neg (by omega), if_neg (by omega), if_neg (by omega), if_neg (by omega), if_neg (by omega)]; exact ⟨rfl, rfl⟩))
  by_cases hs_1_2 : w = 2
  · refine zs_tsIn 49 rfl (by omega) (by omega) (off := 48) (by rw [hs_1_2]; rfl) (by omega) ?_
    refine zs_aload_n (j := 0) (i := 0) rfl rfl rfl ?_
    refine zs_getfield (f := 7) (k := 5) rfl rfl (trivial) ?_
    show ZVV _ _ _ _ _ (ZR 2 0 :: _) _
    refine zs_getfield (f := 2) (k := 10) rfl rfl (trivial) ?_
    show ZVV _ _ _ _ _ (ZI (g 2 0 10) :: _) _
    exact zs_ireturn rfl rfl (by unfold cCount; first | (rw [if_pos (by omega)]; exact ⟨rfl, rfl⟩) | (rw [if_neg (by omega), if_pos (by omega)]; exact ⟨rfl, rfl⟩) | (rw [if_neg (by omega), if_neg (by omega), if_pos (by omega)]; exact ⟨rfl, rfl⟩) | (rw [if_neg (by omega), if_neg (by omega), if_neg (by omega), if_pos (by omega)]; exact ⟨rfl, rfl⟩) | (rw [if_neg (by omega), if_neg (by omega), if_neg (by omega), if_neg (by omega), if_pos (by omega)]; exact ⟨rfl, rfl⟩) | (rw [if_neg (by omega), if_neg (by omega), if_neg (by omega), if_neg (by omega), if_neg (by omega)]; exact ⟨rfl, rfl⟩))
  by_cases hs_1_3 : w = 3
  · refine zs_tsIn 57 rfl (by omega) (by omega) (off := 56) (by rw [hs_1_3]; rfl) (by omega) ?_
    refine zs_aload_n (j := 0) (i := 0) rfl rfl rfl ?_
    refine zs_getfield (f := 7) (k := 2) rfl rfl (trivial) ?_
    show ZVV _ _ _ _ _ (ZR 5 0 :: _) _
    refine zs_getfield (f := 5) (k := 0) rfl rfl (trivial) ?_
    show ZVV _ _ _ _ _ (ZI (g 5 0 0) :: _) _
    exact zs_ireturn rfl rfl (by unfold cCount; first | (rw [if_pos (by omega)]; exact ⟨rfl, rfl⟩) | (rw [if_neg (by omega), if_pos (by omega)]; exact ⟨rfl, rfl⟩) | (rw [if_neg (by omega), if_neg (by omega), if_pos (by omega)]; exact ⟨rfl, rfl⟩) | (rw [if_neg (by omega), if_neg (by omega), if_neg (by omega), if_pos (by omega)]; exact ⟨rfl, rfl⟩) | (rw [if_neg (by omega), if_neg (by omega), if_neg (by omega), if_neg (by omega), if_pos (by omega)]; exact ⟨rfl, rfl⟩) | (rw [if_neg (by omega), if_neg (by omega), if_neg (by omega), if_neg (by omega), if_neg (by omega)]; exact ⟨rfl, rfl⟩))
  by_cases hs_1_4 : w = 4
  · refine zs_tsIn 65 rfl (by omega) (by omega) (off := 64) (by rw [hs_1_4]; rfl) (by omega) ?_
    refine zs_aload_n (j := 0) (i := 0) rfl rfl rfl ?_
    refine zs_getfield (f := 7) (k := 3) rfl rfl (trivial) ?_
    show ZVV _ _ _ _ _ (ZR 0 0 :: _) _
    refine zs_getfield (f := 0) (k := 3) rfl rfl (trivial) ?_
    show ZVV _ _ _ _ _ (ZI (g 0 0 3) :: _) _
    exact zs_ireturn rfl rfl (by unfold cCount; first | (rw [if_pos (by omega)]; exact ⟨rfl, rfl⟩) | (rw [if_neg (by omega), if_pos (by omega)]; exact ⟨rfl, rfl⟩) | (rw [if_neg (by omega), if_neg (by omega), if_pos (by omega)]; exact ⟨rfl, rfl⟩) | (rw [if_neg (by omega), if_neg (by omega), if_neg (by omega), if_pos (by omega)]; exact ⟨rfl, rfl⟩) | (rw [if_neg (by omega), if_neg (by omega), if_neg (by omega), if_neg (by omega), if_pos (by omega)]; exact ⟨rfl, rfl⟩) | (rw [if_neg (by omega), if_neg (by omega), if_neg (by omega), if_neg (by omega), if_neg (by omega)]; exact ⟨rfl, rfl⟩))
  refine zs_tsOut 73 rfl (by omega) (by omega) ?_
  refine zs_bipush (n := (-2)) rfl ⟨by omega, by omega⟩ ?_
  exact zs_ireturn rfl rfl (by unfold cCount; first | (rw [if_pos (by omega)]; exact ⟨rfl, rfl⟩) | (rw [if_neg (by omega), if_pos (by omega)]; exact ⟨rfl, rfl⟩) | (rw [if_neg (by omega), if_neg (by omega), if_pos (by omega)]; exact ⟨rfl, rfl⟩) | (rw [if_neg (by omega), if_neg (by omega), if_neg (by omega), if_pos (by omega)]; exact ⟨rfl, rfl⟩) | (rw [if_neg (by omega), if_neg (by omega), if_neg (by omega), if_neg (by omega), if_pos (by omega)]; exact ⟨rfl, rfl⟩) | (rw [if_neg (by omega), if_neg (by omega), if_neg (by omega), if_neg (by omega), if_neg (by omega)]; exact ⟨rfl, rfl⟩))

theorem c_X4_isThere (q : Nat) : ZC mX4_isThere 1 (fun av g => av = [ZR 4 q] ∧ True) (fun _ g r g' => r = some (ZI (if g 4 q 0 ≠ -1 then 1 else 0)) ∧ g' = g) := by
  refine zc_of gX4_isThere (fun av g hp => by obtain ⟨rfl, -⟩ := hp; exact Nat.le_of_ble_eq_true rfl) (fun Y av g hwf hrg hp hok => ?_)
  obtain ⟨rfl, hp⟩ := hp
  show ZVV _ _ _ 0 [ZR 4 q] [] _
  refine zs_aload_n (j := 0) (i := 0) rfl rfl rfl ?_
  refine zs_getfield (f := 4) (k := 0) rfl rfl (trivial) ?_
  show ZVV _ _ _ _ _ (ZI (g 4 q 0) :: _) _
  refine zs_iconst (n := (-1)) rfl ⟨by omega, by omega⟩ ?_
  refine zs_icmp_eq 12 rfl (by omega) (fun hc_5 => ?_) (fun hc_5 => ?_)
  · refine zs_iconst (n := 0) rfl ⟨by omega, by omega⟩ ?_
    exact zs_zreturn rfl rfl (by omega) (⟨by first | rw [if_pos (by omega)] | rw [if_neg (by omega)], rfl⟩)
  · refine zs_iconst (n := 1) rfl ⟨by omega, by omega⟩ ?_
    refine zs_goto 13 rfl (by omega) ?_
    exact zs_zreturn rfl rfl (by omega) (⟨by first | rw [if_pos (by omega)] | rw [if_neg (by omega)], rfl⟩)

def mzero (g : ZG) (f q a b : Nat) : ZG := fun x i k => if x = f ∧ (a ≤ k ∧ k < b) ∧ i = q then 0 else g x i k
theorem mzero_s (g : ZG) {f q a b : Nat} (h : a < b) : mzero (zup g f q a 0) f q (a + 1) b = mzero g f q a b := by
  funext x i k
  unfold mzero zup
  by_cases hk : x = f ∧ k = a ∧ i = q
  · obtain ⟨rfl, rfl, rfl⟩ := hk
    rw [if_neg (by omega), if_pos ⟨rfl, rfl, rfl⟩, if_pos ⟨rfl, ⟨by omega, h⟩, rfl⟩]
  · rw [if_neg hk]
    by_cases h2 : x = f ∧ (a ≤ k ∧ k < b) ∧ i = q
    · have h3 : k ≠ a := fun z => hk ⟨h2.1, z, h2.2.2⟩
      rw [if_pos h2, if_pos ⟨h2.1, ⟨by omega, h2.2.1.2⟩, h2.2.2⟩]
    · rw [if_neg h2, if_neg (fun z => h2 ⟨z.1, ⟨by omega, z.2.1.2⟩, z.2.2⟩)]
theorem mzero_e (g : ZG) {f q a b : Nat} (h : b ≤ a) : mzero g f q a b = g := by
  funext x i k; unfold mzero; rw [if_neg (by omega)]
theorem l_X4_become {Y : ZW} {Q : Option ZV → ZG → Prop} {q : Nat} {s n : Int} : ∀ (m k : Nat) (G : ZG), k + m = 60 → Q none (mzero G 21 q k 60) → ZVV Y mX4_become (zcx Y 1 Q) 12 [ZR 4 q, ZI s, ZI n, ZI (k : Int)] [] G := by
  intro m
  induction m with
  | zero =>
    intro k G hk hq
    rw [mzero_e _ (by omega)] at hq
    refine zs_iload_n (j := 3) (i := 3) rfl rfl rfl ?_
    refine zs_bipush (n := 60) rfl ⟨by omega, by omega⟩ ?_
    refine zs_icmp_ge 31 rfl (by omega) (fun hc_15 => ?_) (fun hc_15 => ?_)
    · exact zs_return rfl rfl (hq)
    · exfalso; omega
  | succ m ih =>
    intro k G hk hq
    refine zs_iload_n (j := 3) (i := 3) rfl rfl rfl ?_
    refine zs_bipush (n := 60) rfl ⟨by omega, by omega⟩ ?_
    refine zs_icmp_ge 31 rfl (by omega) (fun hc_15 => ?_) (fun hc_15 => ?_)
    · exfalso; omega
    · refine zs_aload_n (j := 0) (i := 0) rfl rfl rfl ?_
      refine zs_getfield (f := 4) (k := 2) rfl rfl (trivial) ?_
      show ZVV _ _ _ _ _ (ZR 21 q :: _) _
      refine zs_iload_n (j := 3) (i := 3) rfl rfl rfl ?_
      refine zs_lconst (n := 0) rfl ?_
      show ZVV _ _ _ _ _ (ZJ 0 :: _) _
      refine zs_last (n := 60) rfl rfl (by omega) (by omega) ?_
      show ZVV _ _ _ _ _ _ (zup G 21 q k 0)
      refine zs_iinc_r (i := 3) rfl rfl (by intro r x hr; have hr2 : r = 2 := (by omega); subst hr2; intro z; cases z) ⟨by omega, by omega⟩ ?_
      show ZVV _ _ _ _ [ZR 4 q, ZI s, ZI n, ZI ((k : Int) + 1)] _ _
      refine zs_goto 12 rfl (by omega) ?_
      exact ih (k + 1) _ (by omega) (by rw [mzero_s _ (by omega)]; exact hq)
theorem c_X4_become (q : Nat) (s n : Int) : ZC mX4_become 1 (fun av g => av = [ZR 4 q, ZI s, ZI n] ∧ True) (fun _ g r g' => r = none ∧ g' = mzero (zup (zup g 4 q 0 s) 4 q 1 n) 21 q 0 60) := by
  refine zc_of gX4_become (fun av g hp => by obtain ⟨rfl, -⟩ := hp; exact Nat.le_of_ble_eq_true rfl) (fun Y av g hwf hrg hp hok => ?_)
  obtain ⟨rfl, hp⟩ := hp
  show ZVV _ _ _ 0 [ZR 4 q, ZI s, ZI n, ZX 99] [] _
  refine zs_aload_n (j := 0) (i := 0) rfl rfl rfl ?_
  refine zs_iload_n (j := 1) (i := 1) rfl rfl rfl ?_
  refine zs_putfield (f := 4) (k := 0) (x := s) rfl rfl (rfl) ?_
  refine zs_aload_n (j := 0) (i := 0) rfl rfl rfl ?_
  refine zs_iload_n (j := 2) (i := 2) rfl rfl rfl ?_
  refine zs_putfield (f := 4) (k := 1) (x := n) rfl rfl (rfl) ?_
  refine zs_iconst (n := 0) rfl ⟨by omega, by omega⟩ ?_
  show ZVV _ _ _ 11 _ _ _
  refine zs_istore_n (j := 3) (i := 3) rfl rfl (by decide) (by intro r x hr; have hr2 : r = 2 := (by omega); subst hr2; intro z; cases z) ?_
  show ZVV _ _ _ _ [ZR 4 q, ZI s, ZI n, ZI 0] _ _
  exact l_X4_become 60 0 _ rfl ⟨rfl, rfl⟩

theorem c_X4_has (q : Nat) (a n : Int) : ZC mX4_has 1 (fun av g => av = [ZR 4 q, ZI a, ZI n] ∧ 0 ≤ g 4 q 1 ∧ g 4 q 1 ≤ 60) (fun _ g r g' => r = some (ZI (if 0 ≤ a ∧ 0 ≤ n ∧ a ≤ g 4 q 1 ∧ n ≤ g 4 q 1 - a then 1 else 0)) ∧ g' = g) := by
  refine zc_of gX4_has (fun av g hp => by obtain ⟨rfl, -⟩ := hp; exact Nat.le_of_ble_eq_true rfl) (fun Y av g hwf hrg hp hok => ?_)
  obtain ⟨rfl, hp⟩ := hp
  show ZVV _ _ _ 0 [ZR 4 q, ZI a, ZI n] [] _
  refine zs_iload_n (j := 1) (i := 1) rfl rfl rfl ?_
  refine zs_if_lt 30 rfl (by omega) (fun hc_1 => ?_) (fun hc_1 => ?_)
  · refine zs_iconst (n := 0) rfl ⟨by omega, by omega⟩ ?_
    exact zs_zreturn rfl rfl (by omega) (⟨by first | rw [if_pos (by omega)] | rw [if_neg (by omega)], rfl⟩)
  · refine zs_iload_n (j := 2) (i := 2) rfl rfl rfl ?_
    refine zs_if_lt 30 rfl (by omega) (fun hc_5 => ?_) (fun hc_5 => ?_)
    · refine zs_iconst (n := 0) rfl ⟨by omega, by omega⟩ ?_
      exact zs_zreturn rfl rfl (by omega) (⟨by first | rw [if_pos (by omega)] | rw [if_neg (by omega)], rfl⟩)
    · refine zs_iload_n (j := 1) (i := 1) rfl rfl rfl ?_
      refine zs_aload_n (j := 0) (i := 0) rfl rfl rfl ?_
      refine zs_getfield (f := 4) (k := 1) rfl rfl (trivial) ?_
      show ZVV _ _ _ _ _ (ZI (g 4 q 1) :: _) _
      refine zs_icmp_gt 30 rfl (by omega) (fun hc_13 => ?_) (fun hc_13 => ?_)
      · refine zs_iconst (n := 0) rfl ⟨by omega, by omega⟩ ?_
        exact zs_zreturn rfl rfl (by omega) (⟨by first | rw [if_pos (by omega)] | rw [if_neg (by omega)], rfl⟩)
      · refine zs_iload_n (j := 2) (i := 2) rfl rfl rfl ?_
        refine zs_aload_n (j := 0) (i := 0) rfl rfl rfl ?_
        refine zs_getfield (f := 4) (k := 1) rfl rfl (trivial) ?_
        show ZVV _ _ _ _ _ (ZI (g 4 q 1) :: _) _
        refine zs_iload_n (j := 1) (i := 1) rfl rfl rfl ?_
        refine zs_isub_r rfl ⟨by omega, by omega⟩ ?_
        refine zs_icmp_gt 30 rfl (by omega) (fun hc_23 => ?_) (fun hc_23 => ?_)
        · refine zs_iconst (n := 0) rfl ⟨by omega, by omega⟩ ?_
          exact zs_zreturn rfl rfl (by omega) (⟨by first | rw [if_pos (by omega)] | rw [if_neg (by omega)], rfl⟩)
        · refine zs_iconst (n := 1) rfl ⟨by omega, by omega⟩ ?_
          refine zs_goto 31 rfl (by omega) ?_
          exact zs_zreturn rfl rfl (by omega) (⟨by first | rw [if_pos (by omega)] | rw [if_neg (by omega)], rfl⟩)

def zcut (s x : Int) : Int := if s = 0 then (zw x).bmod 256 else if s = 1 then (zw x).bmod 65536 else if s = 2 then zw x else if s = 4 then (if x = 0 then 0 else 1) else x
theorem c_X4_cut (q : Nat) (x : Int) : ZC mX4_cut 1 (fun av g => av = [ZR 4 q, ZJ x] ∧ True) (fun _ g r g' => r = some (ZJ (zcut (g 4 q 0) x)) ∧ g' = g) := by
  refine zc_of gX4_cut (fun av g hp => by obtain ⟨rfl, -⟩ := hp; exact Nat.le_of_ble_eq_true rfl) (fun Y av g hwf hrg hp hok => ?_)
  obtain ⟨rfl, hp⟩ := hp
  show ZVV _ _ _ 0 [ZR 4 q, ZJ x, ZX 99] [] _
  refine zs_aload_n (j := 0) (i := 0) rfl rfl rfl ?_
  refine zs_getfield (f := 4) (k := 0) rfl rfl (trivial) ?_
  show ZVV _ _ _ _ _ (ZI (g 4 q 0) :: _) _
  by_cases hs_4_0 : g 4 q 0 = 0
  · refine zs_tsIn 40 rfl (by omega) (by omega) (off := 36) (by rw [hs_4_0]; rfl) (by omega) ?_
    refine zs_lload_n (j := 1) (i := 1) rfl rfl rfl ?_
    refine zs_l2i rfl ?_
    refine zs_i2b rfl ?_
    refine zs_i2l rfl ?_
    exact zs_lreturn rfl rfl (⟨by
    unfold zcut
    first
    | (rw [if_pos (by omega)])
    | (rw [if_neg (by omega), if_pos (by omega)])
    | (rw [if_neg (by omega), if_neg (by omega), if_pos (by omega)])
    | (rw [if_neg (by omega), if_neg (by omega), if_neg (by omega), if_pos (by omega), if_pos (by omega)])
    | (rw [if_neg (by omega), if_neg (by omega), if_neg (by omega), if_pos (by omega), if_neg (by omega)])
    | (rw [if_neg (by omega), if_neg (by omega), if_neg (by omega), if_neg (by omega)]), rfl⟩)
  by_cases hs_4_1 : g 4 q 0 = 1
  · refine zs_tsIn 45 rfl (by omega) (by omega) (off := 41) (by rw [hs_4_1]; rfl) (by omega) ?_
    refine zs_lload_n (j := 1) (i := 1) rfl rfl rfl ?_
    refine zs_l2i rfl ?_
    refine zs_i2s rfl ?_
    refine zs_i2l rfl ?_
    exact zs_lreturn rfl rfl (⟨by
    unfold zcut
    first
    | (rw [if_pos (by omega)])
    | (rw [if_neg (by omega), if_pos (by omega)])
    | (rw [if_neg (by omega), if_neg (by omega), if_pos (by omega)])
    | (rw [if_neg (by omega), if_neg (by omega), if_neg (by omega), if_pos (by omega), if_pos (by omega)])
    | (rw [if_neg (by omega), if_neg (by omega), if_neg (by omega), if_pos (by omega), if_neg (by omega)])
    | (rw [if_neg (by omega), if_neg (by omega), if_neg (by omega), if_neg (by omega)]), rfl⟩)
  by_cases hs_4_2 : g 4 q 0 = 2
  · refine zs_tsIn 50 rfl (by omega) (by omega) (off := 46) (by rw [hs_4_2]; rfl) (by omega) ?_
    refine zs_lload_n (j := 1) (i := 1) rfl rfl rfl ?_
    refine zs_l2i rfl ?_
    refine zs_i2l rfl ?_
    exact zs_lreturn rfl rfl (⟨by
    unfold zcut
    first
    | (rw [if_pos (by omega)])
    | (rw [if_neg (by omega), if_pos (by omega)])
    | (rw [if_neg (by omega), if_neg (by omega), if_pos (by omega)])
    | (rw [if_neg (by omega), if_neg (by omega), if_neg (by omega), if_pos (by omega), if_pos (by omega)])
    | (rw [if_neg (by omega), if_neg (by omega), if_neg (by omega), if_pos (by omega), if_neg (by omega)])
    | (rw [if_neg (by omega), if_neg (by omega), if_neg (by omega), if_neg (by omega)]), rfl⟩)
  by_cases hs_4_3 : g 4 q 0 = 3
  · refine zs_tsIn 66 rfl (by omega) (by omega) (off := 62) (by rw [hs_4_3]; rfl) (by omega) ?_
    refine zs_lload_n (j := 1) (i := 1) rfl rfl rfl ?_
    exact zs_lreturn rfl rfl (⟨by
    unfold zcut
    first
    | (rw [if_pos (by omega)])
    | (rw [if_neg (by omega), if_pos (by omega)])
    | (rw [if_neg (by omega), if_neg (by omega), if_pos (by omega)])
    | (rw [if_neg (by omega), if_neg (by omega), if_neg (by omega), if_pos (by omega), if_pos (by omega)])
    | (rw [if_neg (by omega), if_neg (by omega), if_neg (by omega), if_pos (by omega), if_neg (by omega)])
    | (rw [if_neg (by omega), if_neg (by omega), if_neg (by omega), if_neg (by omega)]), rfl⟩)
  by_cases hs_4_4 : g 4 q 0 = 4
  · refine zs_tsIn 54 rfl (by omega) (by omega) (off := 50) (by rw [hs_4_4]; rfl) (by omega) ?_
    refine zs_lload_n (j := 1) (i := 1) rfl rfl rfl ?_
    refine zs_lconst (n := 0) rfl ?_
    show ZVV _ _ _ _ _ (ZJ 0 :: _) _
    refine zs_lcmp rfl ?_
    refine zs_if_eq 64 rfl (by omega) (fun hc_57 => ?_) (fun hc_57 => ?_)
    · refine zs_lconst (n := 0) rfl ?_
      show ZVV _ _ _ _ _ (ZJ 0 :: _) _
      exact zs_lreturn rfl rfl (⟨by
    unfold zcut
    first
    | (rw [if_pos (by omega)])
    | (rw [if_neg (by omega), if_pos (by omega)])
    | (rw [if_neg (by omega), if_neg (by omega), if_pos (by omega)])
    | (rw [if_neg (by omega), if_neg (by omega), if_neg (by omega), if_pos (by omega), if_pos (by omega)])
    | (rw [if_neg (by omega), if_neg (by omega), if_neg (by omega), if_pos (by omega), if_neg (by omega)])
    | (rw [if_neg (by omega), if_neg (by omega), if_neg (by omega), if_neg (by omega)]), rfl⟩)
    · refine zs_lconst (n := 1) rfl ?_
      show ZVV _ _ _ _ _ (ZJ 1 :: _) _
      refine zs_goto 65 rfl (by omega) ?_
      exact zs_lreturn rfl rfl (⟨by
    unfold zcut
    first
    | (rw [if_pos (by omega)])
    | (rw [if_neg (by omega), if_pos (by omega)])
    | (rw [if_neg (by omega), if_neg (by omega), if_pos (by omega)])
    | (rw [if_neg (by omega), if_neg (by omega), if_neg (by omega), if_pos (by omega), if_pos (by omega)])
    | (rw [if_neg (by omega), if_neg (by omega), if_neg (by omega), if_pos (by omega), if_neg (by omega)])
    | (rw [if_neg (by omega), if_neg (by omega), if_neg (by omega), if_neg (by omega)]), rfl⟩)
  refine zs_tsOut 66 rfl (by omega) (by omega) ?_
  refine zs_lload_n (j := 1) (i := 1) rfl rfl rfl ?_
  exact zs_lreturn rfl rfl (⟨by
    unfold zcut
    first
    | (rw [if_pos (by omega)])
    | (rw [if_neg (by omega), if_pos (by omega)])
    | (rw [if_neg (by omega), if_neg (by omega), if_pos (by omega)])
    | (rw [if_neg (by omega), if_neg (by omega), if_neg (by omega), if_pos (by omega), if_pos (by omega)])
    | (rw [if_neg (by omega), if_neg (by omega), if_neg (by omega), if_pos (by omega), if_neg (by omega)])
    | (rw [if_neg (by omega), if_neg (by omega), if_neg (by omega), if_neg (by omega)]), rfl⟩)

def cTape (g : ZG) (t s n : Int) : Int × ZG := if ¬ (0 ≤ t ∧ t < 6) then (-1, g) else if s = -1 then (1, mzero (zup (zup g 4 t.toNat 0 s) 4 t.toNat 1 0) 21 t.toNat 0 60) else if s < 0 ∨ 4 < s ∨ 60 < n then (-2, g) else if n < 0 then (-14, g) else (1, mzero (zup (zup g 4 t.toNat 0 s) 4 t.toNat 1 n) 21 t.toNat 0 60)
theorem c_X7_tape (t s n : Int) : ZC mX7_tape 2 (fun av g => av = [ZR 7 0, ZI t, ZI s, ZI n] ∧ True) (fun _ g r g' => r = some (ZI (cTape g t s n).1) ∧ g' = (cTape g t s n).2) := by
  refine zc_of gX7_tape (fun av g hp => by obtain ⟨rfl, -⟩ := hp; exact Nat.le_of_ble_eq_true rfl) (fun Y av g hwf hrg hp hok => ?_)
  obtain ⟨rfl, hp⟩ := hp
  show ZVV _ _ _ 0 [ZR 7 0, ZI t, ZI s, ZI n] [] _
  refine zs_iload_n (j := 1) (i := 1) rfl rfl rfl ?_
  refine zs_callS (host := "") rfl kX7_209 sX7_isTape (c_X7_isTape t) [ZI t] [] rfl (zroom_of (by omega)) rfl (Nat.le_of_ble_eq_true rfl) (⟨rfl, trivial⟩) (fun r_1 g_1 hq_1 => ?_)
  obtain ⟨hr_1, hg_1⟩ := hq_1
  rw [hr_1, hg_1]
  show ZVV _ _ _ 4 _ [ZI (if 0 ≤ t ∧ t < 6 then 1 else 0)] _
  refine zs_if_ne 9 rfl (by omega) (fun hc_4 => ?_) (fun hc_4 => ?_)
  · refine zs_iload_n (j := 2) (i := 2) rfl rfl rfl ?_
    refine zs_iconst (n := (-1)) rfl ⟨by omega, by omega⟩ ?_
    refine zs_icmp_ne 27 rfl (by omega) (fun hc_11 => ?_) (fun hc_11 => ?_)
    · refine zs_iload_n (j := 2) (i := 2) rfl rfl rfl ?_
      refine zs_if_lt 42 rfl (by omega) (fun hc_28 => ?_) (fun hc_28 => ?_)
      · refine zs_bipush (n := (-2)) rfl ⟨by omega, by omega⟩ ?_
        exact zs_ireturn rfl rfl (by unfold cTape; first | (rw [if_pos (by omega)]; exact ⟨rfl, rfl⟩) | (rw [if_neg (by omega), if_pos (by omega)]; exact ⟨rfl, rfl⟩) | (rw [if_neg (by omega), if_neg (by omega), if_pos (by omega)]; exact ⟨rfl, rfl⟩) | (rw [if_neg (by omega), if_neg (by omega), if_neg (by omega), if_pos (by omega)]; exact ⟨rfl, rfl⟩) | (rw [if_neg (by omega), if_neg (by omega), if_neg (by omega), if_neg (by omega)]; exact ⟨rfl, rfl⟩))
      · refine zs_iload_n (j := 2) (i := 2) rfl rfl rfl ?_
        refine zs_iconst (n := 4) rfl ⟨by omega, by omega⟩ ?_
        refine zs_icmp_gt 42 rfl (by omega) (fun hc_33 => ?_) (fun hc_33 => ?_)
        · refine zs_bipush (n := (-2)) rfl ⟨by omega, by omega⟩ ?_
          exact zs_ireturn rfl rfl (by unfold cTape; first | (rw [if_pos (by omega)]; exact ⟨rfl, rfl⟩) | (rw [if_neg (by omega), if_pos (by omega)]; exact ⟨rfl, rfl⟩) | (rw [if_neg (by omega), if_neg (by omega), if_pos (by omega)]; exact ⟨rfl, rfl⟩) | (rw [if_neg (by omega), if_neg (by omega), if_neg (by omega), if_pos (by omega)]; exact ⟨rfl, rfl⟩) | (rw [if_neg (by omega), if_neg (by omega), if_neg (by omega), if_neg (by omega)]; exact ⟨rfl, rfl⟩))
        · refine zs_iload_n (j := 3) (i := 3) rfl rfl rfl ?_
          refine zs_bipush (n := 60) rfl ⟨by omega, by omega⟩ ?_
          refine zs_icmp_le 45 rfl (by omega) (fun hc_39 => ?_) (fun hc_39 => ?_)
          · refine zs_iload_n (j := 3) (i := 3) rfl rfl rfl ?_
            refine zs_if_ge 52 rfl (by omega) (fun hc_46 => ?_) (fun hc_46 => ?_)
            · refine zs_aload_n (j := 0) (i := 0) rfl rfl rfl ?_
              refine zs_getfield (f := 7) (k := 1) rfl rfl (trivial) ?_
              show ZVV _ _ _ _ _ (ZR 26 0 :: _) _
              refine zs_iload_n (j := 1) (i := 1) rfl rfl rfl ?_
              refine zs_aald6 (n := 6) rfl rfl (by omega) (by omega) ?_
              refine zs_iload_n (j := 2) (i := 2) rfl rfl rfl ?_
              refine zs_iload_n (j := 3) (i := 3) rfl rfl rfl ?_
              refine zs_callV (host := "") rfl kX7_252 vX4_become (c_X4_become t.toNat s n) [ZI s, ZI n] [] rfl (zroom_of (by omega)) rfl (Nat.le_of_ble_eq_true rfl) (⟨rfl, trivial⟩) (fun r_60 g_60 hq_60 => ?_)
              obtain ⟨hr_60, hg_60⟩ := hq_60
              rw [hr_60, hg_60]
              show ZVV _ _ _ 63 _ [] _
              show ZVV _ _ _ 63 _ _ _
              refine zs_iconst (n := 1) rfl ⟨by omega, by omega⟩ ?_
              exact zs_ireturn rfl rfl (by unfold cTape; first | (rw [if_pos (by omega)]; exact ⟨rfl, rfl⟩) | (rw [if_neg (by omega), if_pos (by omega)]; exact ⟨rfl, rfl⟩) | (rw [if_neg (by omega), if_neg (by omega), if_pos (by omega)]; exact ⟨rfl, rfl⟩) | (rw [if_neg (by omega), if_neg (by omega), if_neg (by omega), if_pos (by omega)]; exact ⟨rfl, rfl⟩) | (rw [if_neg (by omega), if_neg (by omega), if_neg (by omega), if_neg (by omega)]; exact ⟨rfl, rfl⟩))
            · refine zs_bipush (n := (-14)) rfl ⟨by omega, by omega⟩ ?_
              exact zs_ireturn rfl rfl (by unfold cTape; first | (rw [if_pos (by omega)]; exact ⟨rfl, rfl⟩) | (rw [if_neg (by omega), if_pos (by omega)]; exact ⟨rfl, rfl⟩) | (rw [if_neg (by omega), if_neg (by omega), if_pos (by omega)]; exact ⟨rfl, rfl⟩) | (rw [if_neg (by omega), if_neg (by omega), if_neg (by omega), if_pos (by omega)]; exact ⟨rfl, rfl⟩) | (rw [if_neg (by omega), if_neg (by omega), if_neg (by omega), if_neg (by omega)]; exact ⟨rfl, rfl⟩))
          · refine zs_bipush (n := (-2)) rfl ⟨by omega, by omega⟩ ?_
            exact zs_ireturn rfl rfl (by unfold cTape; first | (rw [if_pos (by omega)]; exact ⟨rfl, rfl⟩) | (rw [if_neg (by omega), if_pos (by omega)]; exact ⟨rfl, rfl⟩) | (rw [if_neg (by omega), if_neg (by omega), if_pos (by omega)]; exact ⟨rfl, rfl⟩) | (rw [if_neg (by omega), if_neg (by omega), if_neg (by omega), if_pos (by omega)]; exact ⟨rfl, rfl⟩) | (rw [if_neg (by omega), if_neg (by omega), if_neg (by omega), if_neg (by omega)]; exact ⟨rfl, rfl⟩))
    · refine zs_aload_n (j := 0) (i := 0) rfl rfl rfl ?_
      refine zs_getfield (f := 7) (k := 1) rfl rfl (trivial) ?_
      show ZVV _ _ _ _ _ (ZR 26 0 :: _) _
      refine zs_iload_n (j := 1) (i := 1) rfl rfl rfl ?_
      refine zs_aald6 (n := 6) rfl rfl (by omega) (by omega) ?_
      refine zs_iload_n (j := 2) (i := 2) rfl rfl rfl ?_
      refine zs_iconst (n := 0) rfl ⟨by omega, by omega⟩ ?_
      refine zs_callV (host := "") rfl kX7_252 vX4_become (c_X4_become t.toNat s 0) [ZI s, ZI 0] [] rfl (zroom_of (by omega)) rfl (Nat.le_of_ble_eq_true rfl) (⟨rfl, trivial⟩) (fun r_22 g_22 hq_22 => ?_)
      obtain ⟨hr_22, hg_22⟩ := hq_22
      rw [hr_22, hg_22]
      show ZVV _ _ _ 25 _ [] _
      show ZVV _ _ _ 25 _ _ _
      refine zs_iconst (n := 1) rfl ⟨by omega, by omega⟩ ?_
      exact zs_ireturn rfl rfl (by unfold cTape; first | (rw [if_pos (by omega)]; exact ⟨rfl, rfl⟩) | (rw [if_neg (by omega), if_pos (by omega)]; exact ⟨rfl, rfl⟩) | (rw [if_neg (by omega), if_neg (by omega), if_pos (by omega)]; exact ⟨rfl, rfl⟩) | (rw [if_neg (by omega), if_neg (by omega), if_neg (by omega), if_pos (by omega)]; exact ⟨rfl, rfl⟩) | (rw [if_neg (by omega), if_neg (by omega), if_neg (by omega), if_neg (by omega)]; exact ⟨rfl, rfl⟩))
  · refine zs_iconst (n := (-1)) rfl ⟨by omega, by omega⟩ ?_
    exact zs_ireturn rfl rfl (by unfold cTape; first | (rw [if_pos (by omega)]; exact ⟨rfl, rfl⟩) | (rw [if_neg (by omega), if_pos (by omega)]; exact ⟨rfl, rfl⟩) | (rw [if_neg (by omega), if_neg (by omega), if_pos (by omega)]; exact ⟨rfl, rfl⟩) | (rw [if_neg (by omega), if_neg (by omega), if_neg (by omega), if_pos (by omega)]; exact ⟨rfl, rfl⟩) | (rw [if_neg (by omega), if_neg (by omega), if_neg (by omega), if_neg (by omega)]; exact ⟨rfl, rfl⟩))

def cItem (g : ZG) (t i x : Int) : Int × ZG := if ¬ (0 ≤ t ∧ t < 6) then (-1, g) else if g 4 t.toNat 0 = -1 then (-11, g) else if i < 0 ∨ g 4 t.toNat 1 ≤ i then (-13, g) else (1, zup g 21 t.toNat i.toNat (zcut (g 4 t.toNat 0) x))
theorem c_X7_item (t i x : Int) : ZC mX7_item 2 (fun av g => av = [ZR 7 0, ZI t, ZI i, ZJ x] ∧ (∀ q : Nat, q < 6 → 0 ≤ g 4 q 1 ∧ g 4 q 1 ≤ 60) ∧ True) (fun _ g r g' => r = some (ZI (cItem g t i x).1) ∧ g' = (cItem g t i x).2) := by
  refine zc_of gX7_item (fun av g hp => by obtain ⟨rfl, -⟩ := hp; exact Nat.le_of_ble_eq_true rfl) (fun Y av g hwf hrg hp hok => ?_)
  obtain ⟨rfl, hp⟩ := hp
  show ZVV _ _ _ 0 [ZR 7 0, ZI t, ZI i, ZJ x, ZX 99, ZX 99] [] _
  refine zs_iload_n (j := 1) (i := 1) rfl rfl rfl ?_
  refine zs_callS (host := "") rfl kX7_209 sX7_isTape (c_X7_isTape t) [ZI t] [] rfl (zroom_of (by omega)) rfl (Nat.le_of_ble_eq_true rfl) (⟨rfl, trivial⟩) (fun r_1 g_1 hq_1 => ?_)
  obtain ⟨hr_1, hg_1⟩ := hq_1
  rw [hr_1, hg_1]
  show ZVV _ _ _ 4 _ [ZI (if 0 ≤ t ∧ t < 6 then 1 else 0)] _
  refine zs_if_ne 9 rfl (by omega) (fun hc_4 => ?_) (fun hc_4 => ?_)
  · have hl := hp.1 t.toNat (by omega)
    refine zs_aload_n (j := 0) (i := 0) rfl rfl rfl ?_
    refine zs_getfield (f := 7) (k := 1) rfl rfl (trivial) ?_
    show ZVV _ _ _ _ _ (ZR 26 0 :: _) _
    refine zs_iload_n (j := 1) (i := 1) rfl rfl rfl ?_
    refine zs_aald6 (n := 6) rfl rfl (by omega) (by omega) ?_
    refine zs_astore (i := 5) rfl (by decide) (by intro r x hr; have hr2 : r = 4 := (by omega); subst hr2; intro z; cases z) ?_
    show ZVV _ _ _ _ [ZR 7 0, ZI t, ZI i, ZJ x, ZX 99, ZR 4 t.toNat] _ _
    refine zs_aload (i := 5) rfl rfl ?_
    refine zs_callV (host := "") rfl kX7_212 vX4_isThere (c_X4_isThere t.toNat) [] [] rfl (zroom_of (by omega)) rfl (Nat.le_of_ble_eq_true rfl) (⟨rfl, trivial⟩) (fun r_19 g_19 hq_19 => ?_)
    obtain ⟨hr_19, hg_19⟩ := hq_19
    rw [hr_19, hg_19]
    show ZVV _ _ _ 22 _ [ZI (if g 4 t.toNat 0 ≠ -1 then 1 else 0)] _
    show ZVV _ _ _ 22 _ _ _
    refine zs_if_ne 28 rfl (by omega) (fun hc_22 => ?_) (fun hc_22 => ?_)
    · refine zs_iload_n (j := 2) (i := 2) rfl rfl rfl ?_
      refine zs_if_lt 41 rfl (by omega) (fun hc_29 => ?_) (fun hc_29 => ?_)
      · refine zs_bipush (n := (-13)) rfl ⟨by omega, by omega⟩ ?_
        exact zs_ireturn rfl rfl (by unfold cItem; first | (rw [if_pos (by omega)]; exact ⟨rfl, rfl⟩) | (rw [if_neg (by omega), if_pos (by omega)]; exact ⟨rfl, rfl⟩) | (rw [if_neg (by omega), if_neg (by omega), if_pos (by omega)]; exact ⟨rfl, rfl⟩) | (rw [if_neg (by omega), if_neg (by omega), if_neg (by omega)]; exact ⟨rfl, rfl⟩))
      · refine zs_iload_n (j := 2) (i := 2) rfl rfl rfl ?_
        refine zs_aload (i := 5) rfl rfl ?_
        refine zs_getfield (f := 4) (k := 1) rfl rfl (trivial) ?_
        show ZVV _ _ _ _ _ (ZI (g 4 t.toNat 1) :: _) _
        refine zs_icmp_lt 44 rfl (by omega) (fun hc_38 => ?_) (fun hc_38 => ?_)
        · refine zs_aload (i := 5) rfl rfl ?_
          refine zs_getfield (f := 4) (k := 2) rfl rfl (trivial) ?_
          show ZVV _ _ _ _ _ (ZR 21 t.toNat :: _) _
          refine zs_iload_n (j := 2) (i := 2) rfl rfl rfl ?_
          refine zs_aload (i := 5) rfl rfl ?_
          refine zs_lload_n (j := 3) (i := 3) rfl rfl rfl ?_
          refine zs_callV (host := "") rfl kX7_255 vX4_cut (c_X4_cut t.toNat x) [ZJ x] [ZI i, ZR 21 t.toNat] rfl (zroom_of (by omega)) rfl (Nat.le_of_ble_eq_true rfl) (⟨rfl, trivial⟩) (fun r_53 g_53 hq_53 => ?_)
          obtain ⟨hr_53, hg_53⟩ := hq_53
          rw [hr_53, hg_53]
          show ZVV _ _ _ 56 _ [ZJ (zcut (g 4 t.toNat 0) x), ZI i, ZR 21 t.toNat] _
          refine zs_last (n := 60) rfl rfl (by omega) (by omega) ?_
          show ZVV _ _ _ 57 _ _ _
          refine zs_iconst (n := 1) rfl ⟨by omega, by omega⟩ ?_
          exact zs_ireturn rfl rfl (by unfold cItem; first | (rw [if_pos (by omega)]; exact ⟨rfl, rfl⟩) | (rw [if_neg (by omega), if_pos (by omega)]; exact ⟨rfl, rfl⟩) | (rw [if_neg (by omega), if_neg (by omega), if_pos (by omega)]; exact ⟨rfl, rfl⟩) | (rw [if_neg (by omega), if_neg (by omega), if_neg (by omega)]; exact ⟨rfl, rfl⟩))
        · refine zs_bipush (n := (-13)) rfl ⟨by omega, by omega⟩ ?_
          exact zs_ireturn rfl rfl (by unfold cItem; first | (rw [if_pos (by omega)]; exact ⟨rfl, rfl⟩) | (rw [if_neg (by omega), if_pos (by omega)]; exact ⟨rfl, rfl⟩) | (rw [if_neg (by omega), if_neg (by omega), if_pos (by omega)]; exact ⟨rfl, rfl⟩) | (rw [if_neg (by omega), if_neg (by omega), if_neg (by omega)]; exact ⟨rfl, rfl⟩))
    · refine zs_bipush (n := (-11)) rfl ⟨by omega, by omega⟩ ?_
      exact zs_ireturn rfl rfl (by unfold cItem; first | (rw [if_pos (by omega)]; exact ⟨rfl, rfl⟩) | (rw [if_neg (by omega), if_pos (by omega)]; exact ⟨rfl, rfl⟩) | (rw [if_neg (by omega), if_neg (by omega), if_pos (by omega)]; exact ⟨rfl, rfl⟩) | (rw [if_neg (by omega), if_neg (by omega), if_neg (by omega)]; exact ⟨rfl, rfl⟩))
  · refine zs_iconst (n := (-1)) rfl ⟨by omega, by omega⟩ ?_
    exact zs_ireturn rfl rfl (by unfold cItem; first | (rw [if_pos (by omega)]; exact ⟨rfl, rfl⟩) | (rw [if_neg (by omega), if_pos (by omega)]; exact ⟨rfl, rfl⟩) | (rw [if_neg (by omega), if_neg (by omega), if_pos (by omega)]; exact ⟨rfl, rfl⟩) | (rw [if_neg (by omega), if_neg (by omega), if_neg (by omega)]; exact ⟨rfl, rfl⟩))

def cRead (g : ZG) (t i : Int) : Int × ZG := if ¬ (0 ≤ t ∧ t < 6) ∨ i < 0 ∨ g 4 t.toNat 1 ≤ i then (-9223372036854775808, g) else (g 21 t.toNat i.toNat, g)
theorem c_X7_read (t i : Int) : ZC mX7_read 2 (fun av g => av = [ZR 7 0, ZI t, ZI i] ∧ (∀ q : Nat, q < 6 → 0 ≤ g 4 q 1 ∧ g 4 q 1 ≤ 60) ∧ True) (fun _ g r g' => r = some (ZJ (cRead g t i).1) ∧ g' = (cRead g t i).2) := by
  refine zc_of gX7_read (fun av g hp => by obtain ⟨rfl, -⟩ := hp; exact Nat.le_of_ble_eq_true rfl) (fun Y av g hwf hrg hp hok => ?_)
  obtain ⟨rfl, hp⟩ := hp
  show ZVV _ _ _ 0 [ZR 7 0, ZI t, ZI i] [] _
  refine zs_iload_n (j := 1) (i := 1) rfl rfl rfl ?_
  refine zs_callS (host := "") rfl kX7_209 sX7_isTape (c_X7_isTape t) [ZI t] [] rfl (zroom_of (by omega)) rfl (Nat.le_of_ble_eq_true rfl) (⟨rfl, trivial⟩) (fun r_1 g_1 hq_1 => ?_)
  obtain ⟨hr_1, hg_1⟩ := hq_1
  rw [hr_1, hg_1]
  show ZVV _ _ _ 4 _ [ZI (if 0 ≤ t ∧ t < 6 then 1 else 0)] _
  refine zs_if_eq 24 rfl (by omega) (fun hc_4 => ?_) (fun hc_4 => ?_)
  · refine zs_ldc2 (x := (-9223372036854775808)) rfl rfl ?_
    exact zs_lreturn rfl rfl (by unfold cRead; first | (rw [if_pos (by omega)]; exact ⟨rfl, rfl⟩) | (rw [if_neg (by omega)]; exact ⟨rfl, rfl⟩))
  · refine zs_iload_n (j := 2) (i := 2) rfl rfl rfl ?_
    refine zs_if_lt 24 rfl (by omega) (fun hc_8 => ?_) (fun hc_8 => ?_)
    · refine zs_ldc2 (x := (-9223372036854775808)) rfl rfl ?_
      exact zs_lreturn rfl rfl (by unfold cRead; first | (rw [if_pos (by omega)]; exact ⟨rfl, rfl⟩) | (rw [if_neg (by omega)]; exact ⟨rfl, rfl⟩))
    · have hl := hp.1 t.toNat (by omega)
      refine zs_iload_n (j := 2) (i := 2) rfl rfl rfl ?_
      refine zs_aload_n (j := 0) (i := 0) rfl rfl rfl ?_
      refine zs_getfield (f := 7) (k := 1) rfl rfl (trivial) ?_
      show ZVV _ _ _ _ _ (ZR 26 0 :: _) _
      refine zs_iload_n (j := 1) (i := 1) rfl rfl rfl ?_
      refine zs_aald6 (n := 6) rfl rfl (by omega) (by omega) ?_
      refine zs_getfield (f := 4) (k := 1) rfl rfl (trivial) ?_
      show ZVV _ _ _ _ _ (ZI (g 4 t.toNat 1) :: _) _
      refine zs_icmp_lt 28 rfl (by omega) (fun hc_21 => ?_) (fun hc_21 => ?_)
      · refine zs_aload_n (j := 0) (i := 0) rfl rfl rfl ?_
        refine zs_getfield (f := 7) (k := 1) rfl rfl (trivial) ?_
        show ZVV _ _ _ _ _ (ZR 26 0 :: _) _
        refine zs_iload_n (j := 1) (i := 1) rfl rfl rfl ?_
        refine zs_aald6 (n := 6) rfl rfl (by omega) (by omega) ?_
        refine zs_getfield (f := 4) (k := 2) rfl rfl (trivial) ?_
        show ZVV _ _ _ _ _ (ZR 21 t.toNat :: _) _
        refine zs_iload_n (j := 2) (i := 2) rfl rfl rfl ?_
        refine zs_lald (n := 60) rfl rfl (by omega) (by omega) ?_
        show ZVV _ _ _ 39 _ _ _
        exact zs_lreturn rfl rfl (by unfold cRead; first | (rw [if_pos (by omega)]; exact ⟨rfl, rfl⟩) | (rw [if_neg (by omega)]; exact ⟨rfl, rfl⟩))
      · refine zs_ldc2 (x := (-9223372036854775808)) rfl rfl ?_
        exact zs_lreturn rfl rfl (by unfold cRead; first | (rw [if_pos (by omega)]; exact ⟨rfl, rfl⟩) | (rw [if_neg (by omega)]; exact ⟨rfl, rfl⟩))

def cShift (g : ZG) (t i u j n : Int) : Int × ZG := if ¬ (0 ≤ t ∧ t < 6) ∨ ¬ (0 ≤ u ∧ u < 6) then (-1, g) else if g 4 t.toNat 0 = -1 ∨ g 4 u.toNat 0 = -1 then (-11, g) else if g 4 t.toNat 0 ≠ g 4 u.toNat 0 then (-12, g) else if n < 0 ∨ ¬ (0 ≤ i ∧ i ≤ g 4 t.toNat 1 ∧ n ≤ g 4 t.toNat 1 - i) ∨ ¬ (0 ≤ j ∧ j ≤ g 4 u.toNat 1 ∧ n ≤ g 4 u.toNat 1 - j) then (-13, g) else (n, zcpy g 21 t.toNat 21 u.toNat i.toNat j.toNat n.toNat)
theorem c_X7_shift (t i u j n : Int) : ZC mX7_shift 2 (fun av g => av = [ZR 7 0, ZI t, ZI i, ZI u, ZI j, ZI n] ∧ (∀ q : Nat, q < 6 → 0 ≤ g 4 q 1 ∧ g 4 q 1 ≤ 60) ∧ True) (fun _ g r g' => r = some (ZI (cShift g t i u j n).1) ∧ g' = (cShift g t i u j n).2) := by
  refine zc_of gX7_shift (fun av g hp => by obtain ⟨rfl, -⟩ := hp; exact Nat.le_of_ble_eq_true rfl) (fun Y av g hwf hrg hp hok => ?_)
  obtain ⟨rfl, hp⟩ := hp
  show ZVV _ _ _ 0 [ZR 7 0, ZI t, ZI i, ZI u, ZI j, ZI n, ZX 99, ZX 99] [] _
  refine zs_iload_n (j := 1) (i := 1) rfl rfl rfl ?_
  refine zs_callS (host := "") rfl kX7_209 sX7_isTape (c_X7_isTape t) [ZI t] [] rfl (zroom_of (by omega)) rfl (Nat.le_of_ble_eq_true rfl) (⟨rfl, trivial⟩) (fun r_1 g_1 hq_1 => ?_)
  obtain ⟨hr_1, hg_1⟩ := hq_1
  rw [hr_1, hg_1]
  show ZVV _ _ _ 4 _ [ZI (if 0 ≤ t ∧ t < 6 then 1 else 0)] _
  refine zs_if_eq 14 rfl (by omega) (fun hc_4 => ?_) (fun hc_4 => ?_)
  · refine zs_iconst (n := (-1)) rfl ⟨by omega, by omega⟩ ?_
    exact zs_ireturn rfl rfl (by unfold cShift; first | (rw [if_pos (by omega)]; exact ⟨rfl, rfl⟩) | (rw [if_neg (by omega), if_pos (by omega)]; exact ⟨rfl, rfl⟩) | (rw [if_neg (by omega), if_neg (by omega), if_pos (by omega)]; exact ⟨rfl, rfl⟩) | (rw [if_neg (by omega), if_neg (by omega), if_neg (by omega), if_pos (by omega)]; exact ⟨rfl, rfl⟩) | (rw [if_neg (by omega), if_neg (by omega), if_neg (by omega), if_neg (by omega)]; exact ⟨rfl, rfl⟩))
  · refine zs_iload_n (j := 3) (i := 3) rfl rfl rfl ?_
    refine zs_callS (host := "") rfl kX7_209 sX7_isTape (c_X7_isTape u) [ZI u] [] rfl (zroom_of (by omega)) rfl (Nat.le_of_ble_eq_true rfl) (⟨rfl, trivial⟩) (fun r_8 g_8 hq_8 => ?_)
    obtain ⟨hr_8, hg_8⟩ := hq_8
    rw [hr_8, hg_8]
    show ZVV _ _ _ 11 _ [ZI (if 0 ≤ u ∧ u < 6 then 1 else 0)] _
    refine zs_if_ne 16 rfl (by omega) (fun hc_11 => ?_) (fun hc_11 => ?_)
    · have hl := hp.1 t.toNat (by omega)
      have hl2 := hp.1 u.toNat (by omega)
      refine zs_aload_n (j := 0) (i := 0) rfl rfl rfl ?_
      refine zs_getfield (f := 7) (k := 1) rfl rfl (trivial) ?_
      show ZVV _ _ _ _ _ (ZR 26 0 :: _) _
      refine zs_iload_n (j := 1) (i := 1) rfl rfl rfl ?_
      refine zs_aald6 (n := 6) rfl rfl (by omega) (by omega) ?_
      refine zs_astore (i := 6) rfl (by decide) (by intro r x hr; have hr2 : r = 5 := (by omega); subst hr2; intro z; cases z) ?_
      show ZVV _ _ _ _ [ZR 7 0, ZI t, ZI i, ZI u, ZI j, ZI n, ZR 4 t.toNat, ZX 99] _ _
      refine zs_aload_n (j := 0) (i := 0) rfl rfl rfl ?_
      refine zs_getfield (f := 7) (k := 1) rfl rfl (trivial) ?_
      show ZVV _ _ _ _ _ (ZR 26 0 :: _) _
      show ZVV _ _ _ 28 _ _ _
      refine zs_iload_n (j := 3) (i := 3) rfl rfl rfl ?_
      refine zs_aald6 (n := 6) rfl rfl (by omega) (by omega) ?_
      refine zs_astore (i := 7) rfl (by decide) (by intro r x hr; have hr2 : r = 6 := (by omega); subst hr2; intro z; cases z) ?_
      show ZVV _ _ _ _ [ZR 7 0, ZI t, ZI i, ZI u, ZI j, ZI n, ZR 4 t.toNat, ZR 4 u.toNat] _ _
      refine zs_aload (i := 6) rfl rfl ?_
      refine zs_callV (host := "") rfl kX7_212 vX4_isThere (c_X4_isThere t.toNat) [] [] rfl (zroom_of (by omega)) rfl (Nat.le_of_ble_eq_true rfl) (⟨rfl, trivial⟩) (fun r_34 g_34 hq_34 => ?_)
      obtain ⟨hr_34, hg_34⟩ := hq_34
      rw [hr_34, hg_34]
      show ZVV _ _ _ 37 _ [ZI (if g 4 t.toNat 0 ≠ -1 then 1 else 0)] _
      refine zs_if_eq 48 rfl (by omega) (fun hc_37 => ?_) (fun hc_37 => ?_)
      · refine zs_bipush (n := (-11)) rfl ⟨by omega, by omega⟩ ?_
        exact zs_ireturn rfl rfl (by unfold cShift; first | (rw [if_pos (by omega)]; exact ⟨rfl, rfl⟩) | (rw [if_neg (by omega), if_pos (by omega)]; exact ⟨rfl, rfl⟩) | (rw [if_neg (by omega), if_neg (by omega), if_pos (by omega)]; exact ⟨rfl, rfl⟩) | (rw [if_neg (by omega), if_neg (by omega), if_neg (by omega), if_pos (by omega)]; exact ⟨rfl, rfl⟩) | (rw [if_neg (by omega), if_neg (by omega), if_neg (by omega), if_neg (by omega)]; exact ⟨rfl, rfl⟩))
      · refine zs_aload (i := 7) rfl rfl ?_
        refine zs_callV (host := "") rfl kX7_212 vX4_isThere (c_X4_isThere u.toNat) [] [] rfl (zroom_of (by omega)) rfl (Nat.le_of_ble_eq_true rfl) (⟨rfl, trivial⟩) (fun r_42 g_42 hq_42 => ?_)
        obtain ⟨hr_42, hg_42⟩ := hq_42
        rw [hr_42, hg_42]
        show ZVV _ _ _ 45 _ [ZI (if g 4 u.toNat 0 ≠ -1 then 1 else 0)] _
        refine zs_if_ne 51 rfl (by omega) (fun hc_45 => ?_) (fun hc_45 => ?_)
        · refine zs_aload (i := 6) rfl rfl ?_
          refine zs_getfield (f := 4) (k := 0) rfl rfl (trivial) ?_
          show ZVV _ _ _ _ _ (ZI (g 4 t.toNat 0) :: _) _
          refine zs_aload (i := 7) rfl rfl ?_
          refine zs_getfield (f := 4) (k := 0) rfl rfl (trivial) ?_
          show ZVV _ _ _ _ _ (ZI (g 4 u.toNat 0) :: _) _
          refine zs_icmp_eq 67 rfl (by omega) (fun hc_61 => ?_) (fun hc_61 => ?_)
          · refine zs_iload (i := 5) rfl rfl ?_
            refine zs_if_lt 95 rfl (by omega) (fun hc_69 => ?_) (fun hc_69 => ?_)
            · refine zs_bipush (n := (-13)) rfl ⟨by omega, by omega⟩ ?_
              exact zs_ireturn rfl rfl (by unfold cShift; first | (rw [if_pos (by omega)]; exact ⟨rfl, rfl⟩) | (rw [if_neg (by omega), if_pos (by omega)]; exact ⟨rfl, rfl⟩) | (rw [if_neg (by omega), if_neg (by omega), if_pos (by omega)]; exact ⟨rfl, rfl⟩) | (rw [if_neg (by omega), if_neg (by omega), if_neg (by omega), if_pos (by omega)]; exact ⟨rfl, rfl⟩) | (rw [if_neg (by omega), if_neg (by omega), if_neg (by omega), if_neg (by omega)]; exact ⟨rfl, rfl⟩))
            · refine zs_aload (i := 6) rfl rfl ?_
              refine zs_iload_n (j := 2) (i := 2) rfl rfl rfl ?_
              refine zs_iload (i := 5) rfl rfl ?_
              refine zs_callV (host := "") rfl kX7_259 vX4_has (c_X4_has t.toNat i n) [ZI i, ZI n] [] rfl (zroom_of (by omega)) rfl (Nat.le_of_ble_eq_true rfl) (⟨rfl, hp.1 _ (by omega)⟩) (fun r_77 g_77 hq_77 => ?_)
              obtain ⟨hr_77, hg_77⟩ := hq_77
              rw [hr_77, hg_77]
              show ZVV _ _ _ 80 _ [ZI (if 0 ≤ i ∧ 0 ≤ n ∧ i ≤ g 4 t.toNat 1 ∧ n ≤ g 4 t.toNat 1 - i then 1 else 0)] _
              refine zs_if_eq 95 rfl (by omega) (fun hc_80 => ?_) (fun hc_80 => ?_)
              · refine zs_bipush (n := (-13)) rfl ⟨by omega, by omega⟩ ?_
                exact zs_ireturn rfl rfl (by unfold cShift; first | (rw [if_pos (by omega)]; exact ⟨rfl, rfl⟩) | (rw [if_neg (by omega), if_pos (by omega)]; exact ⟨rfl, rfl⟩) | (rw [if_neg (by omega), if_neg (by omega), if_pos (by omega)]; exact ⟨rfl, rfl⟩) | (rw [if_neg (by omega), if_neg (by omega), if_neg (by omega), if_pos (by omega)]; exact ⟨rfl, rfl⟩) | (rw [if_neg (by omega), if_neg (by omega), if_neg (by omega), if_neg (by omega)]; exact ⟨rfl, rfl⟩))
              · refine zs_aload (i := 7) rfl rfl ?_
                refine zs_iload (i := 4) rfl rfl ?_
                refine zs_iload (i := 5) rfl rfl ?_
                refine zs_callV (host := "") rfl kX7_259 vX4_has (c_X4_has u.toNat j n) [ZI j, ZI n] [] rfl (zroom_of (by omega)) rfl (Nat.le_of_ble_eq_true rfl) (⟨rfl, hp.1 _ (by omega)⟩) (fun r_89 g_89 hq_89 => ?_)
                obtain ⟨hr_89, hg_89⟩ := hq_89
                rw [hr_89, hg_89]
                show ZVV _ _ _ 92 _ [ZI (if 0 ≤ j ∧ 0 ≤ n ∧ j ≤ g 4 u.toNat 1 ∧ n ≤ g 4 u.toNat 1 - j then 1 else 0)] _
                refine zs_if_ne 98 rfl (by omega) (fun hc_92 => ?_) (fun hc_92 => ?_)
                · refine zs_aload (i := 6) rfl rfl ?_
                  refine zs_getfield (f := 4) (k := 2) rfl rfl (trivial) ?_
                  show ZVV _ _ _ _ _ (ZR 21 t.toNat :: _) _
                  refine zs_iload_n (j := 2) (i := 2) rfl rfl rfl ?_
                  refine zs_aload (i := 7) rfl rfl ?_
                  refine zs_getfield (f := 4) (k := 2) rfl rfl (trivial) ?_
                  show ZVV _ _ _ _ _ (ZR 21 u.toNat :: _) _
                  refine zs_iload (i := 4) rfl rfl ?_
                  refine zs_iload (i := 5) rfl rfl ?_
                  show ZVV _ _ _ 113 _ _ _
                  refine zs_cpl (n0 := 60) (n1 := 60) rfl kX7_262 (zroom_of (by omega)) (Nat.le_of_ble_eq_true rfl) rfl rfl (by omega) (by omega) (by omega) (by omega) (by omega) ?_
                  show ZVV _ _ _ _ _ _ (zcpy g 21 t.toNat 21 u.toNat i.toNat j.toNat n.toNat)
                  refine zs_iload (i := 5) rfl rfl ?_
                  exact zs_ireturn rfl rfl (by unfold cShift; first | (rw [if_pos (by omega)]; exact ⟨rfl, rfl⟩) | (rw [if_neg (by omega), if_pos (by omega)]; exact ⟨rfl, rfl⟩) | (rw [if_neg (by omega), if_neg (by omega), if_pos (by omega)]; exact ⟨rfl, rfl⟩) | (rw [if_neg (by omega), if_neg (by omega), if_neg (by omega), if_pos (by omega)]; exact ⟨rfl, rfl⟩) | (rw [if_neg (by omega), if_neg (by omega), if_neg (by omega), if_neg (by omega)]; exact ⟨rfl, rfl⟩))
                · refine zs_bipush (n := (-13)) rfl ⟨by omega, by omega⟩ ?_
                  exact zs_ireturn rfl rfl (by unfold cShift; first | (rw [if_pos (by omega)]; exact ⟨rfl, rfl⟩) | (rw [if_neg (by omega), if_pos (by omega)]; exact ⟨rfl, rfl⟩) | (rw [if_neg (by omega), if_neg (by omega), if_pos (by omega)]; exact ⟨rfl, rfl⟩) | (rw [if_neg (by omega), if_neg (by omega), if_neg (by omega), if_pos (by omega)]; exact ⟨rfl, rfl⟩) | (rw [if_neg (by omega), if_neg (by omega), if_neg (by omega), if_neg (by omega)]; exact ⟨rfl, rfl⟩))
          · refine zs_bipush (n := (-12)) rfl ⟨by omega, by omega⟩ ?_
            exact zs_ireturn rfl rfl (by unfold cShift; first | (rw [if_pos (by omega)]; exact ⟨rfl, rfl⟩) | (rw [if_neg (by omega), if_pos (by omega)]; exact ⟨rfl, rfl⟩) | (rw [if_neg (by omega), if_neg (by omega), if_pos (by omega)]; exact ⟨rfl, rfl⟩) | (rw [if_neg (by omega), if_neg (by omega), if_neg (by omega), if_pos (by omega)]; exact ⟨rfl, rfl⟩) | (rw [if_neg (by omega), if_neg (by omega), if_neg (by omega), if_neg (by omega)]; exact ⟨rfl, rfl⟩))
        · refine zs_bipush (n := (-11)) rfl ⟨by omega, by omega⟩ ?_
          exact zs_ireturn rfl rfl (by unfold cShift; first | (rw [if_pos (by omega)]; exact ⟨rfl, rfl⟩) | (rw [if_neg (by omega), if_pos (by omega)]; exact ⟨rfl, rfl⟩) | (rw [if_neg (by omega), if_neg (by omega), if_pos (by omega)]; exact ⟨rfl, rfl⟩) | (rw [if_neg (by omega), if_neg (by omega), if_neg (by omega), if_pos (by omega)]; exact ⟨rfl, rfl⟩) | (rw [if_neg (by omega), if_neg (by omega), if_neg (by omega), if_neg (by omega)]; exact ⟨rfl, rfl⟩))
    · refine zs_iconst (n := (-1)) rfl ⟨by omega, by omega⟩ ?_
      exact zs_ireturn rfl rfl (by unfold cShift; first | (rw [if_pos (by omega)]; exact ⟨rfl, rfl⟩) | (rw [if_neg (by omega), if_pos (by omega)]; exact ⟨rfl, rfl⟩) | (rw [if_neg (by omega), if_neg (by omega), if_pos (by omega)]; exact ⟨rfl, rfl⟩) | (rw [if_neg (by omega), if_neg (by omega), if_neg (by omega), if_pos (by omega)]; exact ⟨rfl, rfl⟩) | (rw [if_neg (by omega), if_neg (by omega), if_neg (by omega), if_neg (by omega)]; exact ⟨rfl, rfl⟩))

