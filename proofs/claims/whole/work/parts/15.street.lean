theorem c_X3_clear (j : Nat) : ZC mX3_clear 1 (fun av g => av = [ZR 3 j] ∧ True) (fun _ g r g' => r = none ∧ g' = zup (zup g 3 j 1 0) 3 j 2 0) := by
  refine zc_of gX3_clear (fun av g hp => by obtain ⟨rfl, -⟩ := hp; exact Nat.le_of_ble_eq_true rfl) (fun Y av g hwf hrg hp hok => ?_)
  obtain ⟨rfl, hp⟩ := hp
  show ZVV _ _ _ 0 [ZR 3 j] [] _
  refine zs_aload_n (j := 0) (i := 0) rfl rfl rfl ?_
  refine zs_iconst (n := 0) rfl ⟨by omega, by omega⟩ ?_
  refine zs_putfield (f := 3) (k := 1) (x := 0) rfl rfl (rfl) ?_
  refine zs_aload_n (j := 0) (i := 0) rfl rfl rfl ?_
  refine zs_iconst (n := 0) rfl ⟨by omega, by omega⟩ ?_
  refine zs_putfield (f := 3) (k := 2) (x := 0) rfl rfl (zpvZ (x := 0) ⟨by omega, by omega⟩) ?_
  exact zs_return rfl rfl (⟨rfl, rfl⟩)

theorem c_X3_add (j : Nat) (s nb : Int) : ZC mX3_add 1 (fun av g => av = [ZR 3 j, ZI s, ZI nb] ∧ (0 ≤ g 3 j 1 ∧ g 3 j 1 < 100) ∧ (0 ≤ s ∧ s < 24) ∧ (0 ≤ nb ∧ nb < 100)) (fun _ g r g' => r = none ∧ g' = zup (zup (zup g 20 j (g 3 j 1).toNat (s * 100 + nb)) 3 j 1 (g 3 j 1 + 1)) 3 j 2 (if g 3 j 2 ≠ 0 ∨ s = 21 then 1 else 0)) := by
  refine zc_of gX3_add (fun av g hp => by obtain ⟨rfl, -⟩ := hp; exact Nat.le_of_ble_eq_true rfl) (fun Y av g hwf hrg hp hok => ?_)
  obtain ⟨rfl, hp⟩ := hp
  show ZVV _ _ _ 0 [ZR 3 j, ZI s, ZI nb] [] _
  refine zs_aload_n (j := 0) (i := 0) rfl rfl rfl ?_
  refine zs_getfield (f := 3) (k := 1) rfl rfl (trivial) ?_
  show ZVV _ _ _ _ _ (ZI (g 3 j 1) :: _) _
  refine zs_bipush (n := 100) rfl ⟨by omega, by omega⟩ ?_
  refine zs_icmp_ge 56 rfl (by omega) (fun hc_6 => ?_) (fun hc_6 => ?_)
  · exfalso; omega
  · refine zs_aload_n (j := 0) (i := 0) rfl rfl rfl ?_
    refine zs_getfield (f := 3) (k := 0) rfl rfl (trivial) ?_
    show ZVV _ _ _ _ _ (ZR 20 j :: _) _
    refine zs_aload_n (j := 0) (i := 0) rfl rfl rfl ?_
    refine zs_getfield (f := 3) (k := 1) rfl rfl (trivial) ?_
    show ZVV _ _ _ _ _ (ZI (g 3 j 1) :: _) _
    refine zs_iload_n (j := 1) (i := 1) rfl rfl rfl ?_
    refine zs_bipush (n := 100) rfl ⟨by omega, by omega⟩ ?_
    refine zs_imul_r rfl ⟨by omega, by omega⟩ ?_
    show ZVV _ _ _ 21 _ _ _
    refine zs_iload_n (j := 2) (i := 2) rfl rfl rfl ?_
    refine zs_iadd_r rfl ⟨by omega, by omega⟩ ?_
    refine zs_iast (n := 100) rfl rfl (by omega) (by omega) ?_
    refine zs_aload_n (j := 0) (i := 0) rfl rfl rfl ?_
    refine zs_dup rfl (by intro x z; cases z) ?_
    refine zs_getfield (f := 3) (k := 1) rfl rfl (trivial) ?_
    show ZVV _ _ _ _ _ (ZI (g 3 j 1) :: _) _
    refine zs_iconst (n := 1) rfl ⟨by omega, by omega⟩ ?_
    refine zs_iadd_r rfl ⟨by omega, by omega⟩ ?_
    show ZVV _ _ _ 31 _ _ _
    refine zs_putfield (f := 3) (k := 1) (x := (g 3 j 1) + 1) rfl rfl (rfl) ?_
    refine zs_aload_n (j := 0) (i := 0) rfl rfl rfl ?_
    refine zs_aload_n (j := 0) (i := 0) rfl rfl rfl ?_
    refine zs_getfield (f := 3) (k := 2) rfl rfl (trivial) ?_
    show ZVV _ _ _ _ _ (ZI (g 3 j 2) :: _) _
    refine zs_if_ne 48 rfl (by omega) (fun hc_39 => ?_) (fun hc_39 => ?_)
    · refine zs_iconst (n := 1) rfl ⟨by omega, by omega⟩ ?_
      refine zs_goto 53 rfl (by omega) ?_
      refine zs_putfield (f := 3) (k := 2) (x := 1) rfl rfl (zpvZ (x := 1) ⟨by omega, by omega⟩) ?_
      exact zs_return rfl rfl (⟨rfl, by rw [if_pos (by omega)]⟩)
    · refine zs_iload_n (j := 1) (i := 1) rfl rfl rfl ?_
      refine zs_bipush (n := 21) rfl ⟨by omega, by omega⟩ ?_
      refine zs_icmp_ne 52 rfl (by omega) (fun hc_45 => ?_) (fun hc_45 => ?_)
      · refine zs_iconst (n := 0) rfl ⟨by omega, by omega⟩ ?_
        refine zs_putfield (f := 3) (k := 2) (x := 0) rfl rfl (zpvZ (x := 0) ⟨by omega, by omega⟩) ?_
        exact zs_return rfl rfl (⟨rfl, by rw [if_neg (by omega)]⟩)
      · refine zs_iconst (n := 1) rfl ⟨by omega, by omega⟩ ?_
        refine zs_goto 53 rfl (by omega) ?_
        refine zs_putfield (f := 3) (k := 2) (x := 1) rfl rfl (zpvZ (x := 1) ⟨by omega, by omega⟩) ?_
        exact zs_return rfl rfl (⟨rfl, by rw [if_pos (by omega)]⟩)

def zwres (hw : Int) (x : ZE) : Int × Int × Int := (if hw = 0 then 33 else if 100 < x.2.1 then 100 else x.2.1, x.2.2.1, x.2.2.2)
theorem lb_push1 {bs : List Bool} (h : bs.length ≤ 25) : zor (zshl ((bv bs : Nat) : Int) 1) 1 = ((bv (true :: bs) : Nat) : Int) := lb_push (p := true) h
theorem lb_push0 {bs : List Bool} (h : bs.length ≤ 25) : zor (zshl ((bv bs : Nat) : Int) 1) 0 = ((bv (false :: bs) : Nat) : Int) := lb_push (p := false) h
theorem zhd1 {p : Bool} (h : ¬ ((if p = true then (1 : Int) else 0) ≠ 1)) : p = true := by
  cases p
  · exact absurd (by decide) h
  · rfl
theorem zhd0 {p : Bool} (h : (if p = true then (1 : Int) else 0) ≠ 1) : ¬ p = true := fun z => h (by rw [if_pos z])
set_option maxHeartbeats 4000000 in
theorem l_X3_weigh {Y : ZW} {Q : Option ZV → ZG → Prop} {g : ZG} {j : Nat} {pl : Int} (hp : 0 ≤ pl ∧ pl + 2 < 864) (hl0 : 0 ≤ g 3 j 1 ∧ g 3 j 1 ≤ 100) : ∀ (n k : Nat) (x : ZE) (z9 z10 z11 z12 z13 : ZV), (∀ y, z9 ≠ ZJ y) → (∀ y, z10 ≠ ZJ y) → (∀ y, z11 ≠ ZJ y) → (∀ y, z12 ≠ ZJ y) → (∀ y, z13 ≠ ZJ y) → (k : Int) + n = g 3 j 1 → x.1.length ≤ 20 → zwfs (g 20 j) n k x.1.length → ((0 ≤ x.2.1 ∧ x.2.1 ≤ 100 * k) ∧ (0 ≤ x.2.2.1 ∧ x.2.2.1 ≤ 100) ∧ (0 ≤ x.2.2.2 ∧ x.2.2.2 ≤ 100 * k)) → Q none (zup (zup (zup g 12 0 (pl + 0).toNat (zwres (g 3 j 2) (zev (g 11 0) (g 20 j) n k x)).1) 12 0 (pl + 1).toNat (zwres (g 3 j 2) (zev (g 11 0) (g 20 j) n k x)).2.1) 12 0 (pl + 2).toNat (zwres (g 3 j 2) (zev (g 11 0) (g 20 j) n k x)).2.2) → ZVV Y mX3_weigh (zcx Y 1 Q) 16 [ZR 3 j, ZR 11 0, ZR 12 0, ZI pl, ZI x.2.1, ZI x.2.2.1, ZI x.2.2.2, ZI ((bv x.1 : Nat) : Int), ZI (k : Int), z9, z10, z11, z12, z13] [] g := by
  intro n
  induction n with
  | zero =>
    intro k x z9 z10 z11 z12 z13 hz9 hz10 hz11 hz12 hz13 hk hln hwf hb hq
    rw [show zev (g 11 0) (g 20 j) 0 k x = x from rfl] at hq
    refine zs_iload (i := 8) rfl rfl ?_
    refine zs_aload_n (j := 0) (i := 0) rfl rfl rfl ?_
    refine zs_getfield (f := 3) (k := 1) rfl rfl (trivial) ?_
    show ZVV _ _ _ _ _ (ZI (g 3 j 1) :: _) _
    refine zs_icmp_ge 261 rfl (by omega) (fun hc_22 => ?_) (fun hc_22 => ?_)
    · refine zs_aload_n (j := 2) (i := 2) rfl rfl rfl ?_
      refine zs_iload_n (j := 3) (i := 3) rfl rfl rfl ?_
      refine zs_iconst (n := 0) rfl ⟨by omega, by omega⟩ ?_
      refine zs_iadd_r rfl ⟨by omega, by omega⟩ ?_
      refine zs_aload_n (j := 0) (i := 0) rfl rfl rfl ?_
      refine zs_getfield (f := 3) (k := 2) rfl rfl (trivial) ?_
      show ZVV _ _ _ _ _ (ZI (g 3 j 2) :: _) _
      refine zs_if_ne 277 rfl (by omega) (fun hc_269 => ?_) (fun hc_269 => ?_)
      · refine zs_iload (i := 4) rfl rfl ?_
        refine zs_bipush (n := 100) rfl ⟨by omega, by omega⟩ ?_
        refine zs_icmp_le 289 rfl (by omega) (fun hc_281 => ?_) (fun hc_281 => ?_)
        · refine zs_iload (i := 4) rfl rfl ?_
          refine zs_iast (n := 864) rfl rfl (by omega) (by omega) ?_
          refine zs_aload_n (j := 2) (i := 2) rfl rfl rfl ?_
          refine zs_iload_n (j := 3) (i := 3) rfl rfl rfl ?_
          refine zs_iconst (n := 1) rfl ⟨by omega, by omega⟩ ?_
          refine zs_iadd_r rfl ⟨by omega, by omega⟩ ?_
          refine zs_iload (i := 5) rfl rfl ?_
          show ZVV _ _ _ 298 _ _ _
          refine zs_iast (n := 864) rfl rfl (by omega) (by omega) ?_
          refine zs_aload_n (j := 2) (i := 2) rfl rfl rfl ?_
          refine zs_iload_n (j := 3) (i := 3) rfl rfl rfl ?_
          refine zs_iconst (n := 2) rfl ⟨by omega, by omega⟩ ?_
          refine zs_iadd_r rfl ⟨by omega, by omega⟩ ?_
          refine zs_iload (i := 6) rfl rfl ?_
          refine zs_iast (n := 864) rfl rfl (by omega) (by omega) ?_
          exact zs_return rfl rfl (by first | (rw [show zwres (g 3 j 2) x = (33, x.2.2.1, x.2.2.2) from by unfold zwres; rw [if_pos (by omega)]] at hq; exact hq) | (rw [show zwres (g 3 j 2) x = (100, x.2.2.1, x.2.2.2) from by unfold zwres; rw [if_neg (by omega), if_pos (by omega)]] at hq; exact hq) | (rw [show zwres (g 3 j 2) x = (x.2.1, x.2.2.1, x.2.2.2) from by unfold zwres; rw [if_neg (by omega), if_neg (by omega)]] at hq; exact hq))
        · refine zs_bipush (n := 100) rfl ⟨by omega, by omega⟩ ?_
          refine zs_goto 291 rfl (by omega) ?_
          refine zs_iast (n := 864) rfl rfl (by omega) (by omega) ?_
          refine zs_aload_n (j := 2) (i := 2) rfl rfl rfl ?_
          refine zs_iload_n (j := 3) (i := 3) rfl rfl rfl ?_
          refine zs_iconst (n := 1) rfl ⟨by omega, by omega⟩ ?_
          refine zs_iadd_r rfl ⟨by omega, by omega⟩ ?_
          show ZVV _ _ _ 296 _ _ _
          refine zs_iload (i := 5) rfl rfl ?_
          refine zs_iast (n := 864) rfl rfl (by omega) (by omega) ?_
          refine zs_aload_n (j := 2) (i := 2) rfl rfl rfl ?_
          refine zs_iload_n (j := 3) (i := 3) rfl rfl rfl ?_
          refine zs_iconst (n := 2) rfl ⟨by omega, by omega⟩ ?_
          refine zs_iadd_r rfl ⟨by omega, by omega⟩ ?_
          refine zs_iload (i := 6) rfl rfl ?_
          refine zs_iast (n := 864) rfl rfl (by omega) (by omega) ?_
          show ZVV _ _ _ 306 _ _ _
          exact zs_return rfl rfl (by first | (rw [show zwres (g 3 j 2) x = (33, x.2.2.1, x.2.2.2) from by unfold zwres; rw [if_pos (by omega)]] at hq; exact hq) | (rw [show zwres (g 3 j 2) x = (100, x.2.2.1, x.2.2.2) from by unfold zwres; rw [if_neg (by omega), if_pos (by omega)]] at hq; exact hq) | (rw [show zwres (g 3 j 2) x = (x.2.1, x.2.2.1, x.2.2.2) from by unfold zwres; rw [if_neg (by omega), if_neg (by omega)]] at hq; exact hq))
      · refine zs_bipush (n := 33) rfl ⟨by omega, by omega⟩ ?_
        refine zs_goto 291 rfl (by omega) ?_
        refine zs_iast (n := 864) rfl rfl (by omega) (by omega) ?_
        refine zs_aload_n (j := 2) (i := 2) rfl rfl rfl ?_
        refine zs_iload_n (j := 3) (i := 3) rfl rfl rfl ?_
        refine zs_iconst (n := 1) rfl ⟨by omega, by omega⟩ ?_
        refine zs_iadd_r rfl ⟨by omega, by omega⟩ ?_
        show ZVV _ _ _ 296 _ _ _
        refine zs_iload (i := 5) rfl rfl ?_
        refine zs_iast (n := 864) rfl rfl (by omega) (by omega) ?_
        refine zs_aload_n (j := 2) (i := 2) rfl rfl rfl ?_
        refine zs_iload_n (j := 3) (i := 3) rfl rfl rfl ?_
        refine zs_iconst (n := 2) rfl ⟨by omega, by omega⟩ ?_
        refine zs_iadd_r rfl ⟨by omega, by omega⟩ ?_
        refine zs_iload (i := 6) rfl rfl ?_
        refine zs_iast (n := 864) rfl rfl (by omega) (by omega) ?_
        show ZVV _ _ _ 306 _ _ _
        exact zs_return rfl rfl (by first | (rw [show zwres (g 3 j 2) x = (33, x.2.2.1, x.2.2.2) from by unfold zwres; rw [if_pos (by omega)]] at hq; exact hq) | (rw [show zwres (g 3 j 2) x = (100, x.2.2.1, x.2.2.2) from by unfold zwres; rw [if_neg (by omega), if_pos (by omega)]] at hq; exact hq) | (rw [show zwres (g 3 j 2) x = (x.2.1, x.2.2.1, x.2.2.2) from by unfold zwres; rw [if_neg (by omega), if_neg (by omega)]] at hq; exact hq))
    · exfalso; omega
  | succ n ih =>
    intro k x z9 z10 z11 z12 z13 hz9 hz10 hz11 hz12 hz13 hk hln hwf hb hq
    rw [zev_s] at hq
    rw [zwfs_s] at hwf
    obtain ⟨hst, hht, hwf2⟩ := hwf
    have hlen := zev1_len (fa := g 11 0) (s := g 20 j k / 100) (nb := g 20 j k % 100) (x := x) (by omega) hht hln
    refine zs_iload (i := 8) rfl rfl ?_
    refine zs_aload_n (j := 0) (i := 0) rfl rfl rfl ?_
    refine zs_getfield (f := 3) (k := 1) rfl rfl (trivial) ?_
    show ZVV _ _ _ _ _ (ZI (g 3 j 1) :: _) _
    refine zs_icmp_ge 261 rfl (by omega) (fun hc_22 => ?_) (fun hc_22 => ?_)
    · exfalso; omega
    · refine zs_aload_n (j := 0) (i := 0) rfl rfl rfl ?_
      refine zs_getfield (f := 3) (k := 0) rfl rfl (trivial) ?_
      show ZVV _ _ _ _ _ (ZR 20 j :: _) _
      refine zs_iload (i := 8) rfl rfl ?_
      refine zs_iald (n := 100) rfl rfl (by omega) (by omega) ?_
      show ZVV _ _ _ _ _ (ZI (g 20 j k) :: _) _
      refine zs_bipush (n := 100) rfl ⟨by omega, by omega⟩ ?_
      refine zs_idiv_p rfl (by omega) (by omega) ?_
      refine zs_istore (i := 9) rfl (by decide) (by intro r x hr; have hr2 : r = 8 := (by omega); subst hr2; intro z; cases z) ?_
      show ZVV _ _ _ _ [ZR 3 j, ZR 11 0, ZR 12 0, ZI pl, ZI x.2.1, ZI x.2.2.1, ZI x.2.2.2, ZI ((bv x.1 : Nat) : Int), ZI (k : Int), ZI ((g 20 j k) / 100), z10, z11, z12, z13] _ _
      show ZVV _ _ _ 37 _ _ _
      refine zs_aload_n (j := 0) (i := 0) rfl rfl rfl ?_
      refine zs_getfield (f := 3) (k := 0) rfl rfl (trivial) ?_
      show ZVV _ _ _ _ _ (ZR 20 j :: _) _
      refine zs_iload (i := 8) rfl rfl ?_
      refine zs_iald (n := 100) rfl rfl (by omega) (by omega) ?_
      show ZVV _ _ _ _ _ (ZI (g 20 j k) :: _) _
      refine zs_bipush (n := 100) rfl ⟨by omega, by omega⟩ ?_
      refine zs_irem_p rfl (by omega) (by omega) ?_
      refine zs_istore (i := 10) rfl (by decide) (by intro r x hr; have hr2 : r = 9 := (by omega); subst hr2; intro z; cases z) ?_
      show ZVV _ _ _ _ [ZR 3 j, ZR 11 0, ZR 12 0, ZI pl, ZI x.2.1, ZI x.2.2.1, ZI x.2.2.2, ZI ((bv x.1 : Nat) : Int), ZI (k : Int), ZI ((g 20 j k) / 100), ZI ((g 20 j k) % 100), z11, z12, z13] _ _
      refine zs_iload (i := 7) rfl rfl ?_
      show ZVV _ _ _ 51 _ _ _
      refine zs_iconst (n := 1) rfl ⟨by omega, by omega⟩ ?_
      refine zs_iand rfl ?_
      refine zs_istore (i := 11) rfl (by decide) (by intro r x hr; have hr2 : r = 10 := (by omega); subst hr2; intro z; cases z) ?_
      show ZVV _ _ _ _ [ZR 3 j, ZR 11 0, ZR 12 0, ZI pl, ZI x.2.1, ZI x.2.2.1, ZI x.2.2.2, ZI ((bv x.1 : Nat) : Int), ZI (k : Int), ZI ((g 20 j k) / 100), ZI ((g 20 j k) % 100), ZI (zand ((bv x.1 : Nat) : Int) 1), z12, z13] _ _
      rw [lb_new (by omega)]
      have hnb : (0 : Int) ≤ (if x.1.headD false = true then 1 else 0) ∧ (if x.1.headD false = true then (1 : Int) else 0) ≤ 1 := by split <;> omega
      show ZVV _ _ _ _ [ZR 3 j, ZR 11 0, ZR 12 0, ZI pl, ZI x.2.1, ZI x.2.2.1, ZI x.2.2.2, ZI ((bv x.1 : Nat) : Int), ZI (k : Int), ZI ((g 20 j k) / 100), ZI ((g 20 j k) % 100), ZI (if x.1.headD false = true then 1 else 0), z12, z13] _ _
      refine zs_iload (i := 9) rfl rfl ?_
      by_cases hs_57_18 : (g 20 j k) / 100 = 18
      · refine zs_tsIn 96 rfl (by omega) (by omega) (off := 39) (by rw [hs_57_18]; rfl) (by omega) ?_
        refine zs_iload (i := 7) rfl rfl ?_
        refine zs_iconst (n := 1) rfl ⟨by omega, by omega⟩ ?_
        refine zs_ixor rfl ?_
        refine zs_istore (i := 7) rfl (by decide) (by intro r x hr; have hr2 : r = 6 := (by omega); subst hr2; intro z; cases z) ?_
        show ZVV _ _ _ _ [ZR 3 j, ZR 11 0, ZR 12 0, ZI pl, ZI x.2.1, ZI x.2.2.1, ZI x.2.2.2, ZI (zxor ((bv x.1 : Nat) : Int) 1), ZI (k : Int), ZI ((g 20 j k) / 100), ZI ((g 20 j k) % 100), ZI (if x.1.headD false = true then 1 else 0), z12, z13] _ _
        refine zs_goto 255 rfl (by omega) ?_
        rw [lb_not (by omega)]
        show ZVV _ _ _ _ [ZR 3 j, ZR 11 0, ZR 12 0, ZI pl, ZI x.2.1, ZI x.2.2.1, ZI x.2.2.2, ZI ((bv ((!x.1.headD false) :: x.1.tail) : Nat) : Int), ZI (k : Int), ZI ((g 20 j k) / 100), ZI ((g 20 j k) % 100), ZI (if x.1.headD false = true then 1 else 0), z12, z13] _ _
        refine zs_iinc_r (i := 8) rfl rfl (by intro r x hr; have hr2 : r = 7 := (by omega); subst hr2; intro z; cases z) ⟨by omega, by omega⟩ ?_
        show ZVV _ _ _ _ [ZR 3 j, ZR 11 0, ZR 12 0, ZI pl, ZI x.2.1, ZI x.2.2.1, ZI x.2.2.2, ZI ((bv ((!x.1.headD false) :: x.1.tail) : Nat) : Int), ZI ((k : Int) + 1), ZI ((g 20 j k) / 100), ZI ((g 20 j k) % 100), ZI (if x.1.headD false = true then 1 else 0), z12, z13] _ _
        refine zs_goto 16 rfl (by omega) ?_
        have hz : zev1 (g 11 0) (g 20 j k / 100) (g 20 j k % 100) x = ((!x.1.headD false) :: x.1.tail, x.2.1, x.2.2.1, x.2.2.2) := by
          unfold zev1
          rw [if_pos hs_57_18]
        rw [hz] at hq hlen
        have hln := hlen.2
        exact ih (k + 1) ((!x.1.headD false) :: x.1.tail, x.2.1, x.2.2.1, x.2.2.2) _ _ _ _ _ (by intro y h; cases h) (by intro y h; cases h) (by intro y h; cases h) hz12 hz13 (by omega) hln (by rw [hlen.1]; exact hwf2) ⟨by dsimp only; omega, by dsimp only; omega, by dsimp only; omega⟩ hq
      by_cases hs_57_19 : (g 20 j k) / 100 = 19
      · refine zs_tsIn 105 rfl (by omega) (by omega) (off := 48) (by rw [hs_57_19]; rfl) (by omega) ?_
        refine zs_iload (i := 7) rfl rfl ?_
        refine zs_iconst (n := 1) rfl ⟨by omega, by omega⟩ ?_
        refine zs_ishr rfl ?_
        refine zs_iload (i := 11) rfl rfl ?_
        refine zs_bipush (n := (-2)) rfl ⟨by omega, by omega⟩ ?_
        refine zs_ior rfl ?_
        refine zs_iand rfl ?_
        show ZVV _ _ _ 115 _ _ _
        refine zs_istore (i := 7) rfl (by decide) (by intro r x hr; have hr2 : r = 6 := (by omega); subst hr2; intro z; cases z) ?_
        show ZVV _ _ _ _ [ZR 3 j, ZR 11 0, ZR 12 0, ZI pl, ZI x.2.1, ZI x.2.2.1, ZI x.2.2.2, ZI (zand (zshr ((bv x.1 : Nat) : Int) 1) (zor (if x.1.headD false = true then 1 else 0) (-2))), ZI (k : Int), ZI ((g 20 j k) / 100), ZI ((g 20 j k) % 100), ZI (if x.1.headD false = true then 1 else 0), z12, z13] _ _
        refine zs_goto 255 rfl (by omega) ?_
        rw [lb_and (by omega)]
        show ZVV _ _ _ _ [ZR 3 j, ZR 11 0, ZR 12 0, ZI pl, ZI x.2.1, ZI x.2.2.1, ZI x.2.2.2, ZI ((bv ((x.1.headD false && x.1.tail.headD false) :: x.1.tail.tail) : Nat) : Int), ZI (k : Int), ZI ((g 20 j k) / 100), ZI ((g 20 j k) % 100), ZI (if x.1.headD false = true then 1 else 0), z12, z13] _ _
        refine zs_iinc_r (i := 8) rfl rfl (by intro r x hr; have hr2 : r = 7 := (by omega); subst hr2; intro z; cases z) ⟨by omega, by omega⟩ ?_
        show ZVV _ _ _ _ [ZR 3 j, ZR 11 0, ZR 12 0, ZI pl, ZI x.2.1, ZI x.2.2.1, ZI x.2.2.2, ZI ((bv ((x.1.headD false && x.1.tail.headD false) :: x.1.tail.tail) : Nat) : Int), ZI ((k : Int) + 1), ZI ((g 20 j k) / 100), ZI ((g 20 j k) % 100), ZI (if x.1.headD false = true then 1 else 0), z12, z13] _ _
        refine zs_goto 16 rfl (by omega) ?_
        have hz : zev1 (g 11 0) (g 20 j k / 100) (g 20 j k % 100) x = ((x.1.headD false && x.1.tail.headD false) :: x.1.tail.tail, x.2.1, x.2.2.1, x.2.2.2) := by
          unfold zev1
          rw [if_neg hs_57_18, if_pos hs_57_19]
        rw [hz] at hq hlen
        have hln := hlen.2
        exact ih (k + 1) ((x.1.headD false && x.1.tail.headD false) :: x.1.tail.tail, x.2.1, x.2.2.1, x.2.2.2) _ _ _ _ _ (by intro y h; cases h) (by intro y h; cases h) (by intro y h; cases h) hz12 hz13 (by omega) hln (by rw [hlen.1]; exact hwf2) ⟨by dsimp only; omega, by dsimp only; omega, by dsimp only; omega⟩ hq
      by_cases hs_57_20 : (g 20 j k) / 100 = 20
      · refine zs_tsIn 120 rfl (by omega) (by omega) (off := 63) (by rw [hs_57_20]; rfl) (by omega) ?_
        refine zs_iload (i := 7) rfl rfl ?_
        refine zs_iconst (n := 1) rfl ⟨by omega, by omega⟩ ?_
        refine zs_ishr rfl ?_
        refine zs_iload (i := 11) rfl rfl ?_
        refine zs_ior rfl ?_
        refine zs_istore (i := 7) rfl (by decide) (by intro r x hr; have hr2 : r = 6 := (by omega); subst hr2; intro z; cases z) ?_
        show ZVV _ _ _ _ [ZR 3 j, ZR 11 0, ZR 12 0, ZI pl, ZI x.2.1, ZI x.2.2.1, ZI x.2.2.2, ZI (zor (zshr ((bv x.1 : Nat) : Int) 1) (if x.1.headD false = true then 1 else 0)), ZI (k : Int), ZI ((g 20 j k) / 100), ZI ((g 20 j k) % 100), ZI (if x.1.headD false = true then 1 else 0), z12, z13] _ _
        refine zs_goto 255 rfl (by omega) ?_
        rw [lb_or (by omega)]
        show ZVV _ _ _ _ [ZR 3 j, ZR 11 0, ZR 12 0, ZI pl, ZI x.2.1, ZI x.2.2.1, ZI x.2.2.2, ZI ((bv ((x.1.headD false || x.1.tail.headD false) :: x.1.tail.tail) : Nat) : Int), ZI (k : Int), ZI ((g 20 j k) / 100), ZI ((g 20 j k) % 100), ZI (if x.1.headD false = true then 1 else 0), z12, z13] _ _
        show ZVV _ _ _ 255 _ _ _
        refine zs_iinc_r (i := 8) rfl rfl (by intro r x hr; have hr2 : r = 7 := (by omega); subst hr2; intro z; cases z) ⟨by omega, by omega⟩ ?_
        show ZVV _ _ _ _ [ZR 3 j, ZR 11 0, ZR 12 0, ZI pl, ZI x.2.1, ZI x.2.2.1, ZI x.2.2.2, ZI ((bv ((x.1.headD false || x.1.tail.headD false) :: x.1.tail.tail) : Nat) : Int), ZI ((k : Int) + 1), ZI ((g 20 j k) / 100), ZI ((g 20 j k) % 100), ZI (if x.1.headD false = true then 1 else 0), z12, z13] _ _
        refine zs_goto 16 rfl (by omega) ?_
        have hz : zev1 (g 11 0) (g 20 j k / 100) (g 20 j k % 100) x = ((x.1.headD false || x.1.tail.headD false) :: x.1.tail.tail, x.2.1, x.2.2.1, x.2.2.2) := by
          unfold zev1
          rw [if_neg hs_57_18, if_neg hs_57_19, if_pos hs_57_20]
        rw [hz] at hq hlen
        have hln := hlen.2
        exact ih (k + 1) ((x.1.headD false || x.1.tail.headD false) :: x.1.tail.tail, x.2.1, x.2.2.1, x.2.2.2) _ _ _ _ _ (by intro y h; cases h) (by intro y h; cases h) (by intro y h; cases h) hz12 hz13 (by omega) hln (by rw [hlen.1]; exact hwf2) ⟨by dsimp only; omega, by dsimp only; omega, by dsimp only; omega⟩ hq
      by_cases hs_57_21 : (g 20 j k) / 100 = 21
      · refine zs_tsIn 132 rfl (by omega) (by omega) (off := 75) (by rw [hs_57_21]; rfl) (by omega) ?_
        have hmul : 0 ≤ (if x.1.headD false = true then 1 else 0) * (g 20 j k % 100) ∧ (if x.1.headD false = true then 1 else 0) * (g 20 j k % 100) ≤ 99 := by split <;> omega
        refine zs_iload (i := 4) rfl rfl ?_
        refine zs_iload (i := 11) rfl rfl ?_
        refine zs_iload (i := 10) rfl rfl ?_
        refine zs_imul_r rfl ⟨by omega, by omega⟩ ?_
        refine zs_iadd_r rfl ⟨by omega, by omega⟩ ?_
        refine zs_istore (i := 4) rfl (by decide) (by intro r x hr; have hr2 : r = 3 := (by omega); subst hr2; intro z; cases z) ?_
        show ZVV _ _ _ _ [ZR 3 j, ZR 11 0, ZR 12 0, ZI pl, ZI (x.2.1 + ((if x.1.headD false = true then 1 else 0) * ((g 20 j k) % 100))), ZI x.2.2.1, ZI x.2.2.2, ZI ((bv x.1 : Nat) : Int), ZI (k : Int), ZI ((g 20 j k) / 100), ZI ((g 20 j k) % 100), ZI (if x.1.headD false = true then 1 else 0), z12, z13] _ _
        refine zs_iload (i := 7) rfl rfl ?_
        show ZVV _ _ _ 144 _ _ _
        refine zs_iconst (n := 1) rfl ⟨by omega, by omega⟩ ?_
        refine zs_ishr rfl ?_
        refine zs_istore (i := 7) rfl (by decide) (by intro r x hr; have hr2 : r = 6 := (by omega); subst hr2; intro z; cases z) ?_
        show ZVV _ _ _ _ [ZR 3 j, ZR 11 0, ZR 12 0, ZI pl, ZI (x.2.1 + ((if x.1.headD false = true then 1 else 0) * ((g 20 j k) % 100))), ZI x.2.2.1, ZI x.2.2.2, ZI (zshr ((bv x.1 : Nat) : Int) 1), ZI (k : Int), ZI ((g 20 j k) / 100), ZI ((g 20 j k) % 100), ZI (if x.1.headD false = true then 1 else 0), z12, z13] _ _
        refine zs_goto 255 rfl (by omega) ?_
        rw [lb_pop (by omega)]
        show ZVV _ _ _ _ [ZR 3 j, ZR 11 0, ZR 12 0, ZI pl, ZI (x.2.1 + ((if x.1.headD false = true then 1 else 0) * ((g 20 j k) % 100))), ZI x.2.2.1, ZI x.2.2.2, ZI ((bv (x.1.tail) : Nat) : Int), ZI (k : Int), ZI ((g 20 j k) / 100), ZI ((g 20 j k) % 100), ZI (if x.1.headD false = true then 1 else 0), z12, z13] _ _
        refine zs_iinc_r (i := 8) rfl rfl (by intro r x hr; have hr2 : r = 7 := (by omega); subst hr2; intro z; cases z) ⟨by omega, by omega⟩ ?_
        show ZVV _ _ _ _ [ZR 3 j, ZR 11 0, ZR 12 0, ZI pl, ZI (x.2.1 + ((if x.1.headD false = true then 1 else 0) * ((g 20 j k) % 100))), ZI x.2.2.1, ZI x.2.2.2, ZI ((bv (x.1.tail) : Nat) : Int), ZI ((k : Int) + 1), ZI ((g 20 j k) / 100), ZI ((g 20 j k) % 100), ZI (if x.1.headD false = true then 1 else 0), z12, z13] _ _
        refine zs_goto 16 rfl (by omega) ?_
        have hz : zev1 (g 11 0) (g 20 j k / 100) (g 20 j k % 100) x = (x.1.tail, x.2.1 + ((if x.1.headD false = true then 1 else 0) * ((g 20 j k) % 100)), x.2.2.1, x.2.2.2) := by
          unfold zev1
          rw [if_neg hs_57_18, if_neg hs_57_19, if_neg hs_57_20, if_pos hs_57_21]
        rw [hz] at hq hlen
        have hln := hlen.2
        exact ih (k + 1) (x.1.tail, x.2.1 + ((if x.1.headD false = true then 1 else 0) * ((g 20 j k) % 100)), x.2.2.1, x.2.2.2) _ _ _ _ _ (by intro y h; cases h) (by intro y h; cases h) (by intro y h; cases h) hz12 hz13 (by omega) hln (by rw [hlen.1]; exact hwf2) ⟨by dsimp only; omega, by dsimp only; omega, by dsimp only; omega⟩ hq
      by_cases hs_57_22 : (g 20 j k) / 100 = 22
      · refine zs_tsIn 151 rfl (by omega) (by omega) (off := 94) (by rw [hs_57_22]; rfl) (by omega) ?_
        refine zs_iload (i := 11) rfl rfl ?_
        refine zs_iconst (n := 1) rfl ⟨by omega, by omega⟩ ?_
        refine zs_icmp_ne 169 rfl (by omega) (fun hc_154 => ?_) (fun hc_154 => ?_)
        · refine zs_iload (i := 5) rfl rfl ?_
          refine zs_istore (i := 5) rfl (by decide) (by intro r x hr; have hr2 : r = 4 := (by omega); subst hr2; intro z; cases z) ?_
          show ZVV _ _ _ _ [ZR 3 j, ZR 11 0, ZR 12 0, ZI pl, ZI x.2.1, ZI x.2.2.1, ZI x.2.2.2, ZI ((bv x.1 : Nat) : Int), ZI (k : Int), ZI ((g 20 j k) / 100), ZI ((g 20 j k) % 100), ZI (if x.1.headD false = true then 1 else 0), z12, z13] _ _
          refine zs_iload (i := 7) rfl rfl ?_
          refine zs_iconst (n := 1) rfl ⟨by omega, by omega⟩ ?_
          refine zs_ishr rfl ?_
          refine zs_istore (i := 7) rfl (by decide) (by intro r x hr; have hr2 : r = 6 := (by omega); subst hr2; intro z; cases z) ?_
          show ZVV _ _ _ _ [ZR 3 j, ZR 11 0, ZR 12 0, ZI pl, ZI x.2.1, ZI x.2.2.1, ZI x.2.2.2, ZI (zshr ((bv x.1 : Nat) : Int) 1), ZI (k : Int), ZI ((g 20 j k) / 100), ZI ((g 20 j k) % 100), ZI (if x.1.headD false = true then 1 else 0), z12, z13] _ _
          refine zs_goto 255 rfl (by omega) ?_
          rw [lb_pop (by omega)]
          show ZVV _ _ _ _ [ZR 3 j, ZR 11 0, ZR 12 0, ZI pl, ZI x.2.1, ZI x.2.2.1, ZI x.2.2.2, ZI ((bv (x.1.tail) : Nat) : Int), ZI (k : Int), ZI ((g 20 j k) / 100), ZI ((g 20 j k) % 100), ZI (if x.1.headD false = true then 1 else 0), z12, z13] _ _
          show ZVV _ _ _ 255 _ _ _
          refine zs_iinc_r (i := 8) rfl rfl (by intro r x hr; have hr2 : r = 7 := (by omega); subst hr2; intro z; cases z) ⟨by omega, by omega⟩ ?_
          show ZVV _ _ _ _ [ZR 3 j, ZR 11 0, ZR 12 0, ZI pl, ZI x.2.1, ZI x.2.2.1, ZI x.2.2.2, ZI ((bv (x.1.tail) : Nat) : Int), ZI ((k : Int) + 1), ZI ((g 20 j k) / 100), ZI ((g 20 j k) % 100), ZI (if x.1.headD false = true then 1 else 0), z12, z13] _ _
          refine zs_goto 16 rfl (by omega) ?_
          have hz : zev1 (g 11 0) (g 20 j k / 100) (g 20 j k % 100) x = (x.1.tail, x.2.1, x.2.2.1, x.2.2.2) := by
            unfold zev1
            rw [if_neg hs_57_18, if_neg hs_57_19, if_neg hs_57_20, if_neg hs_57_21, if_pos hs_57_22]
            first | (rw [if_neg (fun z => zhd0 hc_154 z.1)]) | (rw [if_neg (fun z => by omega)])
          rw [hz] at hq hlen
          have hln := hlen.2
          exact ih (k + 1) (x.1.tail, x.2.1, x.2.2.1, x.2.2.2) _ _ _ _ _ (by intro y h; cases h) (by intro y h; cases h) (by intro y h; cases h) hz12 hz13 (by omega) hln (by rw [hlen.1]; exact hwf2) ⟨by dsimp only; omega, by dsimp only; omega, by dsimp only; omega⟩ hq
        · refine zs_iload (i := 10) rfl rfl ?_
          refine zs_iload (i := 5) rfl rfl ?_
          refine zs_icmp_ge 169 rfl (by omega) (fun hc_161 => ?_) (fun hc_161 => ?_)
          · refine zs_iload (i := 5) rfl rfl ?_
            refine zs_istore (i := 5) rfl (by decide) (by intro r x hr; have hr2 : r = 4 := (by omega); subst hr2; intro z; cases z) ?_
            show ZVV _ _ _ _ [ZR 3 j, ZR 11 0, ZR 12 0, ZI pl, ZI x.2.1, ZI x.2.2.1, ZI x.2.2.2, ZI ((bv x.1 : Nat) : Int), ZI (k : Int), ZI ((g 20 j k) / 100), ZI ((g 20 j k) % 100), ZI (if x.1.headD false = true then 1 else 0), z12, z13] _ _
            refine zs_iload (i := 7) rfl rfl ?_
            refine zs_iconst (n := 1) rfl ⟨by omega, by omega⟩ ?_
            refine zs_ishr rfl ?_
            refine zs_istore (i := 7) rfl (by decide) (by intro r x hr; have hr2 : r = 6 := (by omega); subst hr2; intro z; cases z) ?_
            show ZVV _ _ _ _ [ZR 3 j, ZR 11 0, ZR 12 0, ZI pl, ZI x.2.1, ZI x.2.2.1, ZI x.2.2.2, ZI (zshr ((bv x.1 : Nat) : Int) 1), ZI (k : Int), ZI ((g 20 j k) / 100), ZI ((g 20 j k) % 100), ZI (if x.1.headD false = true then 1 else 0), z12, z13] _ _
            refine zs_goto 255 rfl (by omega) ?_
            rw [lb_pop (by omega)]
            show ZVV _ _ _ _ [ZR 3 j, ZR 11 0, ZR 12 0, ZI pl, ZI x.2.1, ZI x.2.2.1, ZI x.2.2.2, ZI ((bv (x.1.tail) : Nat) : Int), ZI (k : Int), ZI ((g 20 j k) / 100), ZI ((g 20 j k) % 100), ZI (if x.1.headD false = true then 1 else 0), z12, z13] _ _
            show ZVV _ _ _ 255 _ _ _
            refine zs_iinc_r (i := 8) rfl rfl (by intro r x hr; have hr2 : r = 7 := (by omega); subst hr2; intro z; cases z) ⟨by omega, by omega⟩ ?_
            show ZVV _ _ _ _ [ZR 3 j, ZR 11 0, ZR 12 0, ZI pl, ZI x.2.1, ZI x.2.2.1, ZI x.2.2.2, ZI ((bv (x.1.tail) : Nat) : Int), ZI ((k : Int) + 1), ZI ((g 20 j k) / 100), ZI ((g 20 j k) % 100), ZI (if x.1.headD false = true then 1 else 0), z12, z13] _ _
            refine zs_goto 16 rfl (by omega) ?_
            have hz : zev1 (g 11 0) (g 20 j k / 100) (g 20 j k % 100) x = (x.1.tail, x.2.1, x.2.2.1, x.2.2.2) := by
              unfold zev1
              rw [if_neg hs_57_18, if_neg hs_57_19, if_neg hs_57_20, if_neg hs_57_21, if_pos hs_57_22]
              first | (rw [if_neg (fun z => zhd0 hc_154 z.1)]) | (rw [if_neg (fun z => by omega)])
            rw [hz] at hq hlen
            have hln := hlen.2
            exact ih (k + 1) (x.1.tail, x.2.1, x.2.2.1, x.2.2.2) _ _ _ _ _ (by intro y h; cases h) (by intro y h; cases h) (by intro y h; cases h) hz12 hz13 (by omega) hln (by rw [hlen.1]; exact hwf2) ⟨by dsimp only; omega, by dsimp only; omega, by dsimp only; omega⟩ hq
          · refine zs_iload (i := 10) rfl rfl ?_
            refine zs_goto 171 rfl (by omega) ?_
            refine zs_istore (i := 5) rfl (by decide) (by intro r x hr; have hr2 : r = 4 := (by omega); subst hr2; intro z; cases z) ?_
            show ZVV _ _ _ _ [ZR 3 j, ZR 11 0, ZR 12 0, ZI pl, ZI x.2.1, ZI ((g 20 j k) % 100), ZI x.2.2.2, ZI ((bv x.1 : Nat) : Int), ZI (k : Int), ZI ((g 20 j k) / 100), ZI ((g 20 j k) % 100), ZI (if x.1.headD false = true then 1 else 0), z12, z13] _ _
            refine zs_iload (i := 7) rfl rfl ?_
            refine zs_iconst (n := 1) rfl ⟨by omega, by omega⟩ ?_
            refine zs_ishr rfl ?_
            refine zs_istore (i := 7) rfl (by decide) (by intro r x hr; have hr2 : r = 6 := (by omega); subst hr2; intro z; cases z) ?_
            show ZVV _ _ _ _ [ZR 3 j, ZR 11 0, ZR 12 0, ZI pl, ZI x.2.1, ZI ((g 20 j k) % 100), ZI x.2.2.2, ZI (zshr ((bv x.1 : Nat) : Int) 1), ZI (k : Int), ZI ((g 20 j k) / 100), ZI ((g 20 j k) % 100), ZI (if x.1.headD false = true then 1 else 0), z12, z13] _ _
            show ZVV _ _ _ 179 _ _ _
            refine zs_goto 255 rfl (by omega) ?_
            rw [lb_pop (by omega)]
            show ZVV _ _ _ _ [ZR 3 j, ZR 11 0, ZR 12 0, ZI pl, ZI x.2.1, ZI ((g 20 j k) % 100), ZI x.2.2.2, ZI ((bv (x.1.tail) : Nat) : Int), ZI (k : Int), ZI ((g 20 j k) / 100), ZI ((g 20 j k) % 100), ZI (if x.1.headD false = true then 1 else 0), z12, z13] _ _
            refine zs_iinc_r (i := 8) rfl rfl (by intro r x hr; have hr2 : r = 7 := (by omega); subst hr2; intro z; cases z) ⟨by omega, by omega⟩ ?_
            show ZVV _ _ _ _ [ZR 3 j, ZR 11 0, ZR 12 0, ZI pl, ZI x.2.1, ZI ((g 20 j k) % 100), ZI x.2.2.2, ZI ((bv (x.1.tail) : Nat) : Int), ZI ((k : Int) + 1), ZI ((g 20 j k) / 100), ZI ((g 20 j k) % 100), ZI (if x.1.headD false = true then 1 else 0), z12, z13] _ _
            refine zs_goto 16 rfl (by omega) ?_
            have hz : zev1 (g 11 0) (g 20 j k / 100) (g 20 j k % 100) x = (x.1.tail, x.2.1, (g 20 j k) % 100, x.2.2.2) := by
              unfold zev1
              rw [if_neg hs_57_18, if_neg hs_57_19, if_neg hs_57_20, if_neg hs_57_21, if_pos hs_57_22]
              rw [if_pos ⟨zhd1 hc_154, by omega⟩]
            rw [hz] at hq hlen
            have hln := hlen.2
            exact ih (k + 1) (x.1.tail, x.2.1, (g 20 j k) % 100, x.2.2.2) _ _ _ _ _ (by intro y h; cases h) (by intro y h; cases h) (by intro y h; cases h) hz12 hz13 (by omega) hln (by rw [hlen.1]; exact hwf2) ⟨by dsimp only; omega, by dsimp only; omega, by dsimp only; omega⟩ hq
      by_cases hs_57_23 : (g 20 j k) / 100 = 23
      · refine zs_tsIn 182 rfl (by omega) (by omega) (off := 125) (by rw [hs_57_23]; rfl) (by omega) ?_
        have hmul : 0 ≤ (if x.1.headD false = true then 1 else 0) * (g 20 j k % 100) ∧ (if x.1.headD false = true then 1 else 0) * (g 20 j k % 100) ≤ 99 := by split <;> omega
        refine zs_iload (i := 6) rfl rfl ?_
        refine zs_iload (i := 11) rfl rfl ?_
        refine zs_iload (i := 10) rfl rfl ?_
        refine zs_imul_r rfl ⟨by omega, by omega⟩ ?_
        refine zs_iadd_r rfl ⟨by omega, by omega⟩ ?_
        refine zs_istore (i := 6) rfl (by decide) (by intro r x hr; have hr2 : r = 5 := (by omega); subst hr2; intro z; cases z) ?_
        show ZVV _ _ _ _ [ZR 3 j, ZR 11 0, ZR 12 0, ZI pl, ZI x.2.1, ZI x.2.2.1, ZI (x.2.2.2 + ((if x.1.headD false = true then 1 else 0) * ((g 20 j k) % 100))), ZI ((bv x.1 : Nat) : Int), ZI (k : Int), ZI ((g 20 j k) / 100), ZI ((g 20 j k) % 100), ZI (if x.1.headD false = true then 1 else 0), z12, z13] _ _
        refine zs_iload (i := 7) rfl rfl ?_
        show ZVV _ _ _ 194 _ _ _
        refine zs_iconst (n := 1) rfl ⟨by omega, by omega⟩ ?_
        refine zs_ishr rfl ?_
        refine zs_istore (i := 7) rfl (by decide) (by intro r x hr; have hr2 : r = 6 := (by omega); subst hr2; intro z; cases z) ?_
        show ZVV _ _ _ _ [ZR 3 j, ZR 11 0, ZR 12 0, ZI pl, ZI x.2.1, ZI x.2.2.1, ZI (x.2.2.2 + ((if x.1.headD false = true then 1 else 0) * ((g 20 j k) % 100))), ZI (zshr ((bv x.1 : Nat) : Int) 1), ZI (k : Int), ZI ((g 20 j k) / 100), ZI ((g 20 j k) % 100), ZI (if x.1.headD false = true then 1 else 0), z12, z13] _ _
        refine zs_goto 255 rfl (by omega) ?_
        rw [lb_pop (by omega)]
        show ZVV _ _ _ _ [ZR 3 j, ZR 11 0, ZR 12 0, ZI pl, ZI x.2.1, ZI x.2.2.1, ZI (x.2.2.2 + ((if x.1.headD false = true then 1 else 0) * ((g 20 j k) % 100))), ZI ((bv (x.1.tail) : Nat) : Int), ZI (k : Int), ZI ((g 20 j k) / 100), ZI ((g 20 j k) % 100), ZI (if x.1.headD false = true then 1 else 0), z12, z13] _ _
        refine zs_iinc_r (i := 8) rfl rfl (by intro r x hr; have hr2 : r = 7 := (by omega); subst hr2; intro z; cases z) ⟨by omega, by omega⟩ ?_
        show ZVV _ _ _ _ [ZR 3 j, ZR 11 0, ZR 12 0, ZI pl, ZI x.2.1, ZI x.2.2.1, ZI (x.2.2.2 + ((if x.1.headD false = true then 1 else 0) * ((g 20 j k) % 100))), ZI ((bv (x.1.tail) : Nat) : Int), ZI ((k : Int) + 1), ZI ((g 20 j k) / 100), ZI ((g 20 j k) % 100), ZI (if x.1.headD false = true then 1 else 0), z12, z13] _ _
        refine zs_goto 16 rfl (by omega) ?_
        have hz : zev1 (g 11 0) (g 20 j k / 100) (g 20 j k % 100) x = (x.1.tail, x.2.1, x.2.2.1, x.2.2.2 + ((if x.1.headD false = true then 1 else 0) * ((g 20 j k) % 100))) := by
          unfold zev1
          rw [if_neg hs_57_18, if_neg hs_57_19, if_neg hs_57_20, if_neg hs_57_21, if_neg hs_57_22, if_pos hs_57_23]
        rw [hz] at hq hlen
        have hln := hlen.2
        exact ih (k + 1) (x.1.tail, x.2.1, x.2.2.1, x.2.2.2 + ((if x.1.headD false = true then 1 else 0) * ((g 20 j k) % 100))) _ _ _ _ _ (by intro y h; cases h) (by intro y h; cases h) (by intro y h; cases h) hz12 hz13 (by omega) hln (by rw [hlen.1]; exact hwf2) ⟨by dsimp only; omega, by dsimp only; omega, by dsimp only; omega⟩ hq
      refine zs_tsOut 201 rfl (by omega) (by omega) ?_
      refine zs_aload_n (j := 1) (i := 1) rfl rfl rfl ?_
      refine zs_iload (i := 9) rfl rfl ?_
      refine zs_iconst (n := 3) rfl ⟨by omega, by omega⟩ ?_
      refine zs_idiv_p rfl (by omega) (by omega) ?_
      refine zs_iald (n := 6) rfl rfl (by omega) (by omega) ?_
      refine zs_istore (i := 12) rfl (by decide) (by intro r x hr; have hr2 : r = 11 := (by omega); subst hr2; intro z; cases z) ?_
      show ZVV _ _ _ _ [ZR 3 j, ZR 11 0, ZR 12 0, ZI pl, ZI x.2.1, ZI x.2.2.1, ZI x.2.2.2, ZI ((bv x.1 : Nat) : Int), ZI (k : Int), ZI ((g 20 j k) / 100), ZI ((g 20 j k) % 100), ZI (if x.1.headD false = true then 1 else 0), ZI (g 11 0 (((g 20 j k) / 100) / 3).toNat), z13] _ _
      refine zs_iload (i := 12) rfl rfl ?_
      show ZVV _ _ _ 211 _ _ _
      refine zs_iload (i := 10) rfl rfl ?_
      refine zs_icmp_ge 220 rfl (by omega) (fun hc_213 => ?_) (fun hc_213 => ?_)
      · refine zs_iload (i := 12) rfl rfl ?_
        refine zs_iload (i := 10) rfl rfl ?_
        refine zs_icmp_ne 231 rfl (by omega) (fun hc_224 => ?_) (fun hc_224 => ?_)
        · refine zs_iconst (n := 2) rfl ⟨by omega, by omega⟩ ?_
          refine zs_istore (i := 13) rfl (by decide) (by intro r x hr; have hr2 : r = 12 := (by omega); subst hr2; intro z; cases z) ?_
          show ZVV _ _ _ _ [ZR 3 j, ZR 11 0, ZR 12 0, ZI pl, ZI x.2.1, ZI x.2.2.1, ZI x.2.2.2, ZI ((bv x.1 : Nat) : Int), ZI (k : Int), ZI ((g 20 j k) / 100), ZI ((g 20 j k) % 100), ZI (if x.1.headD false = true then 1 else 0), ZI (g 11 0 (((g 20 j k) / 100) / 3).toNat), ZI 2] _ _
          refine zs_iload (i := 7) rfl rfl ?_
          refine zs_iconst (n := 1) rfl ⟨by omega, by omega⟩ ?_
          refine zs_ishl rfl ?_
          refine zs_iload (i := 13) rfl rfl ?_
          refine zs_iload (i := 9) rfl rfl ?_
          show ZVV _ _ _ 242 _ _ _
          refine zs_iconst (n := 3) rfl ⟨by omega, by omega⟩ ?_
          refine zs_irem_p rfl (by omega) (by omega) ?_
          refine zs_icmp_ne 251 rfl (by omega) (fun hc_244 => ?_) (fun hc_244 => ?_)
          · refine zs_iconst (n := 0) rfl ⟨by omega, by omega⟩ ?_
            refine zs_ior rfl ?_
            refine zs_istore (i := 7) rfl (by decide) (by intro r x hr; have hr2 : r = 6 := (by omega); subst hr2; intro z; cases z) ?_
            show ZVV _ _ _ _ [ZR 3 j, ZR 11 0, ZR 12 0, ZI pl, ZI x.2.1, ZI x.2.2.1, ZI x.2.2.2, ZI (zor (zshl ((bv x.1 : Nat) : Int) 1) 0), ZI (k : Int), ZI ((g 20 j k) / 100), ZI ((g 20 j k) % 100), ZI (if x.1.headD false = true then 1 else 0), ZI (g 11 0 (((g 20 j k) / 100) / 3).toNat), ZI 2] _ _
            rw [lb_push0 (by omega)]
            show ZVV _ _ _ _ [ZR 3 j, ZR 11 0, ZR 12 0, ZI pl, ZI x.2.1, ZI x.2.2.1, ZI x.2.2.2, ZI ((bv (false :: x.1) : Nat) : Int), ZI (k : Int), ZI ((g 20 j k) / 100), ZI ((g 20 j k) % 100), ZI (if x.1.headD false = true then 1 else 0), ZI (g 11 0 (((g 20 j k) / 100) / 3).toNat), ZI 2] _ _
            refine zs_iinc_r (i := 8) rfl rfl (by intro r x hr; have hr2 : r = 7 := (by omega); subst hr2; intro z; cases z) ⟨by omega, by omega⟩ ?_
            show ZVV _ _ _ _ [ZR 3 j, ZR 11 0, ZR 12 0, ZI pl, ZI x.2.1, ZI x.2.2.1, ZI x.2.2.2, ZI ((bv (false :: x.1) : Nat) : Int), ZI ((k : Int) + 1), ZI ((g 20 j k) / 100), ZI ((g 20 j k) % 100), ZI (if x.1.headD false = true then 1 else 0), ZI (g 11 0 (((g 20 j k) / 100) / 3).toNat), ZI 2] _ _
            refine zs_goto 16 rfl (by omega) ?_
            have hz : zev1 (g 11 0) (g 20 j k / 100) (g 20 j k % 100) x = (false :: x.1, x.2.1, x.2.2.1, x.2.2.2) := by
              unfold zev1
              rw [if_neg hs_57_18, if_neg hs_57_19, if_neg hs_57_20, if_neg hs_57_21, if_neg hs_57_22, if_neg hs_57_23]
              rw [show zcmp (g 11 0) (g 20 j k / 100) (g 20 j k % 100) = false from by unfold zcmp; first | (rw [if_pos (by omega)]; simp; omega) | (rw [if_neg (by omega), if_pos (by omega)]; simp; omega) | (rw [if_neg (by omega), if_neg (by omega)]; simp; omega)]
            rw [hz] at hq hlen
            have hln := hlen.2
            exact ih (k + 1) (false :: x.1, x.2.1, x.2.2.1, x.2.2.2) _ _ _ _ _ (by intro y h; cases h) (by intro y h; cases h) (by intro y h; cases h) (by intro y h; cases h) (by intro y h; cases h) (by omega) hln (by rw [hlen.1]; exact hwf2) ⟨by dsimp only; omega, by dsimp only; omega, by dsimp only; omega⟩ hq
          · refine zs_iconst (n := 1) rfl ⟨by omega, by omega⟩ ?_
            refine zs_goto 252 rfl (by omega) ?_
            refine zs_ior rfl ?_
            refine zs_istore (i := 7) rfl (by decide) (by intro r x hr; have hr2 : r = 6 := (by omega); subst hr2; intro z; cases z) ?_
            show ZVV _ _ _ _ [ZR 3 j, ZR 11 0, ZR 12 0, ZI pl, ZI x.2.1, ZI x.2.2.1, ZI x.2.2.2, ZI (zor (zshl ((bv x.1 : Nat) : Int) 1) 1), ZI (k : Int), ZI ((g 20 j k) / 100), ZI ((g 20 j k) % 100), ZI (if x.1.headD false = true then 1 else 0), ZI (g 11 0 (((g 20 j k) / 100) / 3).toNat), ZI 2] _ _
            rw [lb_push1 (by omega)]
            show ZVV _ _ _ _ [ZR 3 j, ZR 11 0, ZR 12 0, ZI pl, ZI x.2.1, ZI x.2.2.1, ZI x.2.2.2, ZI ((bv (true :: x.1) : Nat) : Int), ZI (k : Int), ZI ((g 20 j k) / 100), ZI ((g 20 j k) % 100), ZI (if x.1.headD false = true then 1 else 0), ZI (g 11 0 (((g 20 j k) / 100) / 3).toNat), ZI 2] _ _
            refine zs_iinc_r (i := 8) rfl rfl (by intro r x hr; have hr2 : r = 7 := (by omega); subst hr2; intro z; cases z) ⟨by omega, by omega⟩ ?_
            show ZVV _ _ _ _ [ZR 3 j, ZR 11 0, ZR 12 0, ZI pl, ZI x.2.1, ZI x.2.2.1, ZI x.2.2.2, ZI ((bv (true :: x.1) : Nat) : Int), ZI ((k : Int) + 1), ZI ((g 20 j k) / 100), ZI ((g 20 j k) % 100), ZI (if x.1.headD false = true then 1 else 0), ZI (g 11 0 (((g 20 j k) / 100) / 3).toNat), ZI 2] _ _
            refine zs_goto 16 rfl (by omega) ?_
            have hz : zev1 (g 11 0) (g 20 j k / 100) (g 20 j k % 100) x = (true :: x.1, x.2.1, x.2.2.1, x.2.2.2) := by
              unfold zev1
              rw [if_neg hs_57_18, if_neg hs_57_19, if_neg hs_57_20, if_neg hs_57_21, if_neg hs_57_22, if_neg hs_57_23]
              rw [show zcmp (g 11 0) (g 20 j k / 100) (g 20 j k % 100) = true from by unfold zcmp; first | (rw [if_pos (by omega)]; simp; omega) | (rw [if_neg (by omega), if_pos (by omega)]; simp; omega) | (rw [if_neg (by omega), if_neg (by omega)]; simp; omega)]
            rw [hz] at hq hlen
            have hln := hlen.2
            exact ih (k + 1) (true :: x.1, x.2.1, x.2.2.1, x.2.2.2) _ _ _ _ _ (by intro y h; cases h) (by intro y h; cases h) (by intro y h; cases h) (by intro y h; cases h) (by intro y h; cases h) (by omega) hln (by rw [hlen.1]; exact hwf2) ⟨by dsimp only; omega, by dsimp only; omega, by dsimp only; omega⟩ hq
        · refine zs_iconst (n := 1) rfl ⟨by omega, by omega⟩ ?_
          refine zs_goto 232 rfl (by omega) ?_
          refine zs_istore (i := 13) rfl (by decide) (by intro r x hr; have hr2 : r = 12 := (by omega); subst hr2; intro z; cases z) ?_
          show ZVV _ _ _ _ [ZR 3 j, ZR 11 0, ZR 12 0, ZI pl, ZI x.2.1, ZI x.2.2.1, ZI x.2.2.2, ZI ((bv x.1 : Nat) : Int), ZI (k : Int), ZI ((g 20 j k) / 100), ZI ((g 20 j k) % 100), ZI (if x.1.headD false = true then 1 else 0), ZI (g 11 0 (((g 20 j k) / 100) / 3).toNat), ZI 1] _ _
          refine zs_iload (i := 7) rfl rfl ?_
          refine zs_iconst (n := 1) rfl ⟨by omega, by omega⟩ ?_
          refine zs_ishl rfl ?_
          refine zs_iload (i := 13) rfl rfl ?_
          show ZVV _ _ _ 240 _ _ _
          refine zs_iload (i := 9) rfl rfl ?_
          refine zs_iconst (n := 3) rfl ⟨by omega, by omega⟩ ?_
          refine zs_irem_p rfl (by omega) (by omega) ?_
          refine zs_icmp_ne 251 rfl (by omega) (fun hc_244 => ?_) (fun hc_244 => ?_)
          · refine zs_iconst (n := 0) rfl ⟨by omega, by omega⟩ ?_
            refine zs_ior rfl ?_
            refine zs_istore (i := 7) rfl (by decide) (by intro r x hr; have hr2 : r = 6 := (by omega); subst hr2; intro z; cases z) ?_
            show ZVV _ _ _ _ [ZR 3 j, ZR 11 0, ZR 12 0, ZI pl, ZI x.2.1, ZI x.2.2.1, ZI x.2.2.2, ZI (zor (zshl ((bv x.1 : Nat) : Int) 1) 0), ZI (k : Int), ZI ((g 20 j k) / 100), ZI ((g 20 j k) % 100), ZI (if x.1.headD false = true then 1 else 0), ZI (g 11 0 (((g 20 j k) / 100) / 3).toNat), ZI 1] _ _
            rw [lb_push0 (by omega)]
            show ZVV _ _ _ _ [ZR 3 j, ZR 11 0, ZR 12 0, ZI pl, ZI x.2.1, ZI x.2.2.1, ZI x.2.2.2, ZI ((bv (false :: x.1) : Nat) : Int), ZI (k : Int), ZI ((g 20 j k) / 100), ZI ((g 20 j k) % 100), ZI (if x.1.headD false = true then 1 else 0), ZI (g 11 0 (((g 20 j k) / 100) / 3).toNat), ZI 1] _ _
            refine zs_iinc_r (i := 8) rfl rfl (by intro r x hr; have hr2 : r = 7 := (by omega); subst hr2; intro z; cases z) ⟨by omega, by omega⟩ ?_
            show ZVV _ _ _ _ [ZR 3 j, ZR 11 0, ZR 12 0, ZI pl, ZI x.2.1, ZI x.2.2.1, ZI x.2.2.2, ZI ((bv (false :: x.1) : Nat) : Int), ZI ((k : Int) + 1), ZI ((g 20 j k) / 100), ZI ((g 20 j k) % 100), ZI (if x.1.headD false = true then 1 else 0), ZI (g 11 0 (((g 20 j k) / 100) / 3).toNat), ZI 1] _ _
            refine zs_goto 16 rfl (by omega) ?_
            have hz : zev1 (g 11 0) (g 20 j k / 100) (g 20 j k % 100) x = (false :: x.1, x.2.1, x.2.2.1, x.2.2.2) := by
              unfold zev1
              rw [if_neg hs_57_18, if_neg hs_57_19, if_neg hs_57_20, if_neg hs_57_21, if_neg hs_57_22, if_neg hs_57_23]
              rw [show zcmp (g 11 0) (g 20 j k / 100) (g 20 j k % 100) = false from by unfold zcmp; first | (rw [if_pos (by omega)]; simp; omega) | (rw [if_neg (by omega), if_pos (by omega)]; simp; omega) | (rw [if_neg (by omega), if_neg (by omega)]; simp; omega)]
            rw [hz] at hq hlen
            have hln := hlen.2
            exact ih (k + 1) (false :: x.1, x.2.1, x.2.2.1, x.2.2.2) _ _ _ _ _ (by intro y h; cases h) (by intro y h; cases h) (by intro y h; cases h) (by intro y h; cases h) (by intro y h; cases h) (by omega) hln (by rw [hlen.1]; exact hwf2) ⟨by dsimp only; omega, by dsimp only; omega, by dsimp only; omega⟩ hq
          · refine zs_iconst (n := 1) rfl ⟨by omega, by omega⟩ ?_
            refine zs_goto 252 rfl (by omega) ?_
            refine zs_ior rfl ?_
            refine zs_istore (i := 7) rfl (by decide) (by intro r x hr; have hr2 : r = 6 := (by omega); subst hr2; intro z; cases z) ?_
            show ZVV _ _ _ _ [ZR 3 j, ZR 11 0, ZR 12 0, ZI pl, ZI x.2.1, ZI x.2.2.1, ZI x.2.2.2, ZI (zor (zshl ((bv x.1 : Nat) : Int) 1) 1), ZI (k : Int), ZI ((g 20 j k) / 100), ZI ((g 20 j k) % 100), ZI (if x.1.headD false = true then 1 else 0), ZI (g 11 0 (((g 20 j k) / 100) / 3).toNat), ZI 1] _ _
            rw [lb_push1 (by omega)]
            show ZVV _ _ _ _ [ZR 3 j, ZR 11 0, ZR 12 0, ZI pl, ZI x.2.1, ZI x.2.2.1, ZI x.2.2.2, ZI ((bv (true :: x.1) : Nat) : Int), ZI (k : Int), ZI ((g 20 j k) / 100), ZI ((g 20 j k) % 100), ZI (if x.1.headD false = true then 1 else 0), ZI (g 11 0 (((g 20 j k) / 100) / 3).toNat), ZI 1] _ _
            refine zs_iinc_r (i := 8) rfl rfl (by intro r x hr; have hr2 : r = 7 := (by omega); subst hr2; intro z; cases z) ⟨by omega, by omega⟩ ?_
            show ZVV _ _ _ _ [ZR 3 j, ZR 11 0, ZR 12 0, ZI pl, ZI x.2.1, ZI x.2.2.1, ZI x.2.2.2, ZI ((bv (true :: x.1) : Nat) : Int), ZI ((k : Int) + 1), ZI ((g 20 j k) / 100), ZI ((g 20 j k) % 100), ZI (if x.1.headD false = true then 1 else 0), ZI (g 11 0 (((g 20 j k) / 100) / 3).toNat), ZI 1] _ _
            refine zs_goto 16 rfl (by omega) ?_
            have hz : zev1 (g 11 0) (g 20 j k / 100) (g 20 j k % 100) x = (true :: x.1, x.2.1, x.2.2.1, x.2.2.2) := by
              unfold zev1
              rw [if_neg hs_57_18, if_neg hs_57_19, if_neg hs_57_20, if_neg hs_57_21, if_neg hs_57_22, if_neg hs_57_23]
              rw [show zcmp (g 11 0) (g 20 j k / 100) (g 20 j k % 100) = true from by unfold zcmp; first | (rw [if_pos (by omega)]; simp; omega) | (rw [if_neg (by omega), if_pos (by omega)]; simp; omega) | (rw [if_neg (by omega), if_neg (by omega)]; simp; omega)]
            rw [hz] at hq hlen
            have hln := hlen.2
            exact ih (k + 1) (true :: x.1, x.2.1, x.2.2.1, x.2.2.2) _ _ _ _ _ (by intro y h; cases h) (by intro y h; cases h) (by intro y h; cases h) (by intro y h; cases h) (by intro y h; cases h) (by omega) hln (by rw [hlen.1]; exact hwf2) ⟨by dsimp only; omega, by dsimp only; omega, by dsimp only; omega⟩ hq
      · refine zs_iconst (n := 0) rfl ⟨by omega, by omega⟩ ?_
        refine zs_goto 232 rfl (by omega) ?_
        refine zs_istore (i := 13) rfl (by decide) (by intro r x hr; have hr2 : r = 12 := (by omega); subst hr2; intro z; cases z) ?_
        show ZVV _ _ _ _ [ZR 3 j, ZR 11 0, ZR 12 0, ZI pl, ZI x.2.1, ZI x.2.2.1, ZI x.2.2.2, ZI ((bv x.1 : Nat) : Int), ZI (k : Int), ZI ((g 20 j k) / 100), ZI ((g 20 j k) % 100), ZI (if x.1.headD false = true then 1 else 0), ZI (g 11 0 (((g 20 j k) / 100) / 3).toNat), ZI 0] _ _
        refine zs_iload (i := 7) rfl rfl ?_
        refine zs_iconst (n := 1) rfl ⟨by omega, by omega⟩ ?_
        refine zs_ishl rfl ?_
        refine zs_iload (i := 13) rfl rfl ?_
        show ZVV _ _ _ 240 _ _ _
        refine zs_iload (i := 9) rfl rfl ?_
        refine zs_iconst (n := 3) rfl ⟨by omega, by omega⟩ ?_
        refine zs_irem_p rfl (by omega) (by omega) ?_
        refine zs_icmp_ne 251 rfl (by omega) (fun hc_244 => ?_) (fun hc_244 => ?_)
        · refine zs_iconst (n := 0) rfl ⟨by omega, by omega⟩ ?_
          refine zs_ior rfl ?_
          refine zs_istore (i := 7) rfl (by decide) (by intro r x hr; have hr2 : r = 6 := (by omega); subst hr2; intro z; cases z) ?_
          show ZVV _ _ _ _ [ZR 3 j, ZR 11 0, ZR 12 0, ZI pl, ZI x.2.1, ZI x.2.2.1, ZI x.2.2.2, ZI (zor (zshl ((bv x.1 : Nat) : Int) 1) 0), ZI (k : Int), ZI ((g 20 j k) / 100), ZI ((g 20 j k) % 100), ZI (if x.1.headD false = true then 1 else 0), ZI (g 11 0 (((g 20 j k) / 100) / 3).toNat), ZI 0] _ _
          rw [lb_push0 (by omega)]
          show ZVV _ _ _ _ [ZR 3 j, ZR 11 0, ZR 12 0, ZI pl, ZI x.2.1, ZI x.2.2.1, ZI x.2.2.2, ZI ((bv (false :: x.1) : Nat) : Int), ZI (k : Int), ZI ((g 20 j k) / 100), ZI ((g 20 j k) % 100), ZI (if x.1.headD false = true then 1 else 0), ZI (g 11 0 (((g 20 j k) / 100) / 3).toNat), ZI 0] _ _
          refine zs_iinc_r (i := 8) rfl rfl (by intro r x hr; have hr2 : r = 7 := (by omega); subst hr2; intro z; cases z) ⟨by omega, by omega⟩ ?_
          show ZVV _ _ _ _ [ZR 3 j, ZR 11 0, ZR 12 0, ZI pl, ZI x.2.1, ZI x.2.2.1, ZI x.2.2.2, ZI ((bv (false :: x.1) : Nat) : Int), ZI ((k : Int) + 1), ZI ((g 20 j k) / 100), ZI ((g 20 j k) % 100), ZI (if x.1.headD false = true then 1 else 0), ZI (g 11 0 (((g 20 j k) / 100) / 3).toNat), ZI 0] _ _
          refine zs_goto 16 rfl (by omega) ?_
          have hz : zev1 (g 11 0) (g 20 j k / 100) (g 20 j k % 100) x = (false :: x.1, x.2.1, x.2.2.1, x.2.2.2) := by
            unfold zev1
            rw [if_neg hs_57_18, if_neg hs_57_19, if_neg hs_57_20, if_neg hs_57_21, if_neg hs_57_22, if_neg hs_57_23]
            rw [show zcmp (g 11 0) (g 20 j k / 100) (g 20 j k % 100) = false from by unfold zcmp; first | (rw [if_pos (by omega)]; simp; omega) | (rw [if_neg (by omega), if_pos (by omega)]; simp; omega) | (rw [if_neg (by omega), if_neg (by omega)]; simp; omega)]
          rw [hz] at hq hlen
          have hln := hlen.2
          exact ih (k + 1) (false :: x.1, x.2.1, x.2.2.1, x.2.2.2) _ _ _ _ _ (by intro y h; cases h) (by intro y h; cases h) (by intro y h; cases h) (by intro y h; cases h) (by intro y h; cases h) (by omega) hln (by rw [hlen.1]; exact hwf2) ⟨by dsimp only; omega, by dsimp only; omega, by dsimp only; omega⟩ hq
        · refine zs_iconst (n := 1) rfl ⟨by omega, by omega⟩ ?_
          refine zs_goto 252 rfl (by omega) ?_
          refine zs_ior rfl ?_
          refine zs_istore (i := 7) rfl (by decide) (by intro r x hr; have hr2 : r = 6 := (by omega); subst hr2; intro z; cases z) ?_
          show ZVV _ _ _ _ [ZR 3 j, ZR 11 0, ZR 12 0, ZI pl, ZI x.2.1, ZI x.2.2.1, ZI x.2.2.2, ZI (zor (zshl ((bv x.1 : Nat) : Int) 1) 1), ZI (k : Int), ZI ((g 20 j k) / 100), ZI ((g 20 j k) % 100), ZI (if x.1.headD false = true then 1 else 0), ZI (g 11 0 (((g 20 j k) / 100) / 3).toNat), ZI 0] _ _
          rw [lb_push1 (by omega)]
          show ZVV _ _ _ _ [ZR 3 j, ZR 11 0, ZR 12 0, ZI pl, ZI x.2.1, ZI x.2.2.1, ZI x.2.2.2, ZI ((bv (true :: x.1) : Nat) : Int), ZI (k : Int), ZI ((g 20 j k) / 100), ZI ((g 20 j k) % 100), ZI (if x.1.headD false = true then 1 else 0), ZI (g 11 0 (((g 20 j k) / 100) / 3).toNat), ZI 0] _ _
          refine zs_iinc_r (i := 8) rfl rfl (by intro r x hr; have hr2 : r = 7 := (by omega); subst hr2; intro z; cases z) ⟨by omega, by omega⟩ ?_
          show ZVV _ _ _ _ [ZR 3 j, ZR 11 0, ZR 12 0, ZI pl, ZI x.2.1, ZI x.2.2.1, ZI x.2.2.2, ZI ((bv (true :: x.1) : Nat) : Int), ZI ((k : Int) + 1), ZI ((g 20 j k) / 100), ZI ((g 20 j k) % 100), ZI (if x.1.headD false = true then 1 else 0), ZI (g 11 0 (((g 20 j k) / 100) / 3).toNat), ZI 0] _ _
          refine zs_goto 16 rfl (by omega) ?_
          have hz : zev1 (g 11 0) (g 20 j k / 100) (g 20 j k % 100) x = (true :: x.1, x.2.1, x.2.2.1, x.2.2.2) := by
            unfold zev1
            rw [if_neg hs_57_18, if_neg hs_57_19, if_neg hs_57_20, if_neg hs_57_21, if_neg hs_57_22, if_neg hs_57_23]
            rw [show zcmp (g 11 0) (g 20 j k / 100) (g 20 j k % 100) = true from by unfold zcmp; first | (rw [if_pos (by omega)]; simp; omega) | (rw [if_neg (by omega), if_pos (by omega)]; simp; omega) | (rw [if_neg (by omega), if_neg (by omega)]; simp; omega)]
          rw [hz] at hq hlen
          have hln := hlen.2
          exact ih (k + 1) (true :: x.1, x.2.1, x.2.2.1, x.2.2.2) _ _ _ _ _ (by intro y h; cases h) (by intro y h; cases h) (by intro y h; cases h) (by intro y h; cases h) (by intro y h; cases h) (by omega) hln (by rw [hlen.1]; exact hwf2) ⟨by dsimp only; omega, by dsimp only; omega, by dsimp only; omega⟩ hq
theorem c_X3_weigh (j : Nat) (pl : Int) : ZC mX3_weigh 1 (fun av g => av = [ZR 3 j, ZR 11 0, ZR 12 0, ZI pl] ∧ (0 ≤ pl ∧ pl + 2 < 864) ∧ (0 ≤ g 3 j 1 ∧ g 3 j 1 ≤ 100) ∧ zwfs (g 20 j) (g 3 j 1).toNat 0 0) (fun _ g r g' => r = none ∧ g' = zup (zup (zup g 12 0 (pl + 0).toNat (zwres (g 3 j 2) (zev (g 11 0) (g 20 j) (g 3 j 1).toNat 0 ([], 0, 100, 0))).1) 12 0 (pl + 1).toNat (zwres (g 3 j 2) (zev (g 11 0) (g 20 j) (g 3 j 1).toNat 0 ([], 0, 100, 0))).2.1) 12 0 (pl + 2).toNat (zwres (g 3 j 2) (zev (g 11 0) (g 20 j) (g 3 j 1).toNat 0 ([], 0, 100, 0))).2.2) := by
  refine zc_of gX3_weigh (fun av g hp => by obtain ⟨rfl, -⟩ := hp; exact Nat.le_of_ble_eq_true rfl) (fun Y av g hwf hrg hp hok => ?_)
  obtain ⟨rfl, hp⟩ := hp
  show ZVV _ _ _ 0 [ZR 3 j, ZR 11 0, ZR 12 0, ZI pl, ZX 99, ZX 99, ZX 99, ZX 99, ZX 99, ZX 99, ZX 99, ZX 99, ZX 99, ZX 99] [] _
  refine zs_iconst (n := 0) rfl ⟨by omega, by omega⟩ ?_
  refine zs_istore (i := 4) rfl (by decide) (by intro r x hr; have hr2 : r = 3 := (by omega); subst hr2; intro z; cases z) ?_
  show ZVV _ _ _ _ [ZR 3 j, ZR 11 0, ZR 12 0, ZI pl, ZI 0, ZX 99, ZX 99, ZX 99, ZX 99, ZX 99, ZX 99, ZX 99, ZX 99, ZX 99] _ _
  refine zs_bipush (n := 100) rfl ⟨by omega, by omega⟩ ?_
  refine zs_istore (i := 5) rfl (by decide) (by intro r x hr; have hr2 : r = 4 := (by omega); subst hr2; intro z; cases z) ?_
  show ZVV _ _ _ _ [ZR 3 j, ZR 11 0, ZR 12 0, ZI pl, ZI 0, ZI 100, ZX 99, ZX 99, ZX 99, ZX 99, ZX 99, ZX 99, ZX 99, ZX 99] _ _
  refine zs_iconst (n := 0) rfl ⟨by omega, by omega⟩ ?_
  refine zs_istore (i := 6) rfl (by decide) (by intro r x hr; have hr2 : r = 5 := (by omega); subst hr2; intro z; cases z) ?_
  show ZVV _ _ _ _ [ZR 3 j, ZR 11 0, ZR 12 0, ZI pl, ZI 0, ZI 100, ZI 0, ZX 99, ZX 99, ZX 99, ZX 99, ZX 99, ZX 99, ZX 99] _ _
  refine zs_iconst (n := 0) rfl ⟨by omega, by omega⟩ ?_
  show ZVV _ _ _ 11 _ _ _
  refine zs_istore (i := 7) rfl (by decide) (by intro r x hr; have hr2 : r = 6 := (by omega); subst hr2; intro z; cases z) ?_
  show ZVV _ _ _ _ [ZR 3 j, ZR 11 0, ZR 12 0, ZI pl, ZI 0, ZI 100, ZI 0, ZI 0, ZX 99, ZX 99, ZX 99, ZX 99, ZX 99, ZX 99] _ _
  refine zs_iconst (n := 0) rfl ⟨by omega, by omega⟩ ?_
  refine zs_istore (i := 8) rfl (by decide) (by intro r x hr; have hr2 : r = 7 := (by omega); subst hr2; intro z; cases z) ?_
  show ZVV _ _ _ _ [ZR 3 j, ZR 11 0, ZR 12 0, ZI pl, ZI 0, ZI 100, ZI 0, ZI 0, ZI 0, ZX 99, ZX 99, ZX 99, ZX 99, ZX 99] _ _
  exact l_X3_weigh hp.1 hp.2.1 (g 3 j 1).toNat 0 ([], 0, 100, 0) _ _ _ _ _ (by intro y h; cases h) (by intro y h; cases h) (by intro y h; cases h) (by intro y h; cases h) (by intro y h; cases h) (by have := hp.2.1; omega) (by decide) hp.2.2 ⟨by decide, by decide, by decide⟩ ⟨rfl, rfl⟩

