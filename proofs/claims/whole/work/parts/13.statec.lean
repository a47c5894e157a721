theorem c_X2_areNeighbours (q : Nat) (a b n sh : Int) : ZC mX2_areNeighbours 1 (fun av g => av = [ZR 2 q, ZI a, ZI b] ∧ (g 2 q 0 = n ∧ g 2 q 1 = sh) ∧ (3 ≤ n ∧ n ≤ 8) ∧ (0 ≤ sh ∧ sh ≤ 2) ∧ (0 ≤ a ∧ a < n) ∧ (0 ≤ b ∧ b < n) ∧ a ≠ b) (fun _ g r g' => r = some (ZI (if nx n sh a b = true then 1 else 0)) ∧ g' = g) := by
  refine zc_of gX2_areNeighbours (fun av g hp => by obtain ⟨rfl, -⟩ := hp; exact Nat.le_of_ble_eq_true rfl) (fun Y av g hwf hrg hp hok => ?_)
  obtain ⟨rfl, hp⟩ := hp
  show ZVV _ _ _ 0 [ZR 2 q, ZI a, ZI b, ZX 99] [] _
  obtain ⟨⟨h7, h8⟩, h1, h2, h3, h4, h5⟩ := hp
  refine zs_iload_n (j := 1) (i := 1) rfl rfl rfl ?_
  refine zs_iload_n (j := 2) (i := 2) rfl rfl rfl ?_
  refine zs_isub_r rfl ⟨by omega, by omega⟩ ?_
  refine zs_abs rfl kX2_49 (zroom_of (by omega)) (Nat.le_of_ble_eq_true rfl) (by omega) ?_
  refine zs_istore_n (j := 3) (i := 3) rfl rfl (by decide) (by intro r x hr; have hr2 : r = 2 := (by omega); subst hr2; intro z; cases z) ?_
  show ZVV _ _ _ _ [ZR 2 q, ZI a, ZI b, ZI ((a - b).natAbs : Int)] _ _
  refine zs_aload_n (j := 0) (i := 0) rfl rfl rfl ?_
  refine zs_getfield (f := 2) (k := 1) rfl rfl (trivial) ?_
  show ZVV _ _ _ _ _ (ZI (g 2 q 1) :: _) _
  show ZVV _ _ _ 11 _ _ _
  refine zs_iconst (n := 2) rfl ⟨by omega, by omega⟩ ?_
  refine zs_icmp_ne 49 rfl (by omega) (fun hc_12 => ?_) (fun hc_12 => ?_)
  · refine zs_iload_n (j := 3) (i := 3) rfl rfl rfl ?_
    refine zs_iconst (n := 2) rfl ⟨by omega, by omega⟩ ?_
    refine zs_icmp_le 71 rfl (by omega) (fun hc_51 => ?_) (fun hc_51 => ?_)
    · refine zs_iconst (n := 1) rfl ⟨by omega, by omega⟩ ?_
      refine zs_goto 76 rfl (by omega) ?_
      exact zs_zreturn rfl rfl (by omega) (⟨by
      have ht : ∀ v : Int, v = (if nx n sh a b = true then 1 else 0) → some (ZI v) = some (ZI (if nx n sh a b = true then 1 else 0)) := fun v hv => by rw [hv]
      refine ht _ ?_
      unfold nx
      rcases (by omega : sh = 0 ∨ sh = 1 ∨ sh = 2) with e | e | e <;> subst e <;> simp <;> omega, rfl⟩)
    · refine zs_aload_n (j := 0) (i := 0) rfl rfl rfl ?_
      refine zs_getfield (f := 2) (k := 1) rfl rfl (trivial) ?_
      show ZVV _ _ _ _ _ (ZI (g 2 q 1) :: _) _
      refine zs_if_ne 75 rfl (by omega) (fun hc_58 => ?_) (fun hc_58 => ?_)
      · refine zs_iconst (n := 0) rfl ⟨by omega, by omega⟩ ?_
        exact zs_zreturn rfl rfl (by omega) (⟨by
      have ht : ∀ v : Int, v = (if nx n sh a b = true then 1 else 0) → some (ZI v) = some (ZI (if nx n sh a b = true then 1 else 0)) := fun v hv => by rw [hv]
      refine ht _ ?_
      unfold nx
      rcases (by omega : sh = 0 ∨ sh = 1 ∨ sh = 2) with e | e | e <;> subst e <;> simp <;> omega, rfl⟩)
      · refine zs_aload_n (j := 0) (i := 0) rfl rfl rfl ?_
        refine zs_getfield (f := 2) (k := 0) rfl rfl (trivial) ?_
        show ZVV _ _ _ _ _ (ZI (g 2 q 0) :: _) _
        refine zs_iload_n (j := 3) (i := 3) rfl rfl rfl ?_
        refine zs_isub_r rfl ⟨by omega, by omega⟩ ?_
        refine zs_iconst (n := 2) rfl ⟨by omega, by omega⟩ ?_
        refine zs_icmp_gt 75 rfl (by omega) (fun hc_68 => ?_) (fun hc_68 => ?_)
        · refine zs_iconst (n := 0) rfl ⟨by omega, by omega⟩ ?_
          exact zs_zreturn rfl rfl (by omega) (⟨by
      have ht : ∀ v : Int, v = (if nx n sh a b = true then 1 else 0) → some (ZI v) = some (ZI (if nx n sh a b = true then 1 else 0)) := fun v hv => by rw [hv]
      refine ht _ ?_
      unfold nx
      rcases (by omega : sh = 0 ∨ sh = 1 ∨ sh = 2) with e | e | e <;> subst e <;> simp <;> omega, rfl⟩)
        · refine zs_iconst (n := 1) rfl ⟨by omega, by omega⟩ ?_
          refine zs_goto 76 rfl (by omega) ?_
          exact zs_zreturn rfl rfl (by omega) (⟨by
      have ht : ∀ v : Int, v = (if nx n sh a b = true then 1 else 0) → some (ZI v) = some (ZI (if nx n sh a b = true then 1 else 0)) := fun v hv => by rw [hv]
      refine ht _ ?_
      unfold nx
      rcases (by omega : sh = 0 ∨ sh = 1 ∨ sh = 2) with e | e | e <;> subst e <;> simp <;> omega, rfl⟩)
  · refine zs_iload_n (j := 1) (i := 1) rfl rfl rfl ?_
    refine zs_iconst (n := 4) rfl ⟨by omega, by omega⟩ ?_
    refine zs_idiv_p rfl (by omega) (by omega) ?_
    refine zs_iload_n (j := 2) (i := 2) rfl rfl rfl ?_
    refine zs_iconst (n := 4) rfl ⟨by omega, by omega⟩ ?_
    refine zs_idiv_p rfl (by omega) (by omega) ?_
    refine zs_isub_r rfl ⟨by omega, by omega⟩ ?_
    show ZVV _ _ _ 22 _ _ _
    refine zs_abs rfl kX2_49 (zroom_of (by omega)) (Nat.le_of_ble_eq_true rfl) (by omega) ?_
    refine zs_iconst (n := 1) rfl ⟨by omega, by omega⟩ ?_
    refine zs_icmp_gt 47 rfl (by omega) (fun hc_26 => ?_) (fun hc_26 => ?_)
    · refine zs_iconst (n := 0) rfl ⟨by omega, by omega⟩ ?_
      exact zs_zreturn rfl rfl (by omega) (⟨by
      have ht : ∀ v : Int, v = (if nx n sh a b = true then 1 else 0) → some (ZI v) = some (ZI (if nx n sh a b = true then 1 else 0)) := fun v hv => by rw [hv]
      refine ht _ ?_
      unfold nx
      rcases (by omega : sh = 0 ∨ sh = 1 ∨ sh = 2) with e | e | e <;> subst e <;> simp <;> omega, rfl⟩)
    · refine zs_iload_n (j := 1) (i := 1) rfl rfl rfl ?_
      refine zs_iconst (n := 4) rfl ⟨by omega, by omega⟩ ?_
      refine zs_irem_p rfl (by omega) (by omega) ?_
      refine zs_iload_n (j := 2) (i := 2) rfl rfl rfl ?_
      refine zs_iconst (n := 4) rfl ⟨by omega, by omega⟩ ?_
      refine zs_irem_p rfl (by omega) (by omega) ?_
      refine zs_isub_r rfl ⟨by omega, by omega⟩ ?_
      show ZVV _ _ _ 36 _ _ _
      refine zs_abs rfl kX2_49 (zroom_of (by omega)) (Nat.le_of_ble_eq_true rfl) (by omega) ?_
      refine zs_iconst (n := 1) rfl ⟨by omega, by omega⟩ ?_
      refine zs_icmp_gt 47 rfl (by omega) (fun hc_40 => ?_) (fun hc_40 => ?_)
      · refine zs_iconst (n := 0) rfl ⟨by omega, by omega⟩ ?_
        exact zs_zreturn rfl rfl (by omega) (⟨by
      have ht : ∀ v : Int, v = (if nx n sh a b = true then 1 else 0) → some (ZI v) = some (ZI (if nx n sh a b = true then 1 else 0)) := fun v hv => by rw [hv]
      refine ht _ ?_
      unfold nx
      rcases (by omega : sh = 0 ∨ sh = 1 ∨ sh = 2) with e | e | e <;> subst e <;> simp <;> omega, rfl⟩)
      · refine zs_iconst (n := 1) rfl ⟨by omega, by omega⟩ ?_
        refine zs_goto 48 rfl (by omega) ?_
        exact zs_zreturn rfl rfl (by omega) (⟨by
      have ht : ∀ v : Int, v = (if nx n sh a b = true then 1 else 0) → some (ZI v) = some (ZI (if nx n sh a b = true then 1 else 0)) := fun v hv => by rw [hv]
      refine ht _ ?_
      unfold nx
      rcases (by omega : sh = 0 ∨ sh = 1 ∨ sh = 2) with e | e | e <;> subst e <;> simp <;> omega, rfl⟩)

def zlayF (G : ZG) (q : Nat) (n sh : Int) (k : Nat) : ZG := fun a b c => if a = 14 ∧ (k ≤ c ∧ (c : Int) < n) ∧ b = q then ((zmk (fun o => nx n sh c o) n.toNat : Nat) : Int) else G a b c
theorem zlayF_end (G : ZG) (q : Nat) (n sh : Int) (k : Nat) (h : n ≤ k) : zlayF G q n sh k = G := by
  funext a b c; unfold zlayF; rw [if_neg (by omega)]
theorem zlayF_s (G : ZG) (q : Nat) (n sh : Int) (k : Nat) (h : (k : Int) < n) : zlayF (zup G 14 q k ((zmk (fun o => nx n sh k o) n.toNat : Nat) : Int)) q n sh (k + 1) = zlayF G q n sh k := by
  funext a b c
  unfold zlayF zup
  by_cases hc : a = 14 ∧ c = k ∧ b = q
  · obtain ⟨rfl, rfl, rfl⟩ := hc
    rw [if_neg (by omega), if_pos ⟨rfl, rfl, rfl⟩, if_pos ⟨rfl, ⟨by omega, h⟩, rfl⟩]
  · rw [if_neg hc]
    by_cases h2 : a = 14 ∧ (k ≤ c ∧ (c : Int) < n) ∧ b = q
    · have h3 : c ≠ k := fun z => hc ⟨h2.1, z, h2.2.2⟩
      rw [if_pos h2, if_pos ⟨h2.1, ⟨by omega, h2.2.1.2⟩, h2.2.2⟩]
    · rw [if_neg h2, if_neg (fun z => h2 ⟨z.1, ⟨by omega, z.2.1.2⟩, z.2.2⟩)]
theorem l_X2_layOut_in {Y : ZW} {Q : Option ZV → ZG → Prop} {q k : Nat} {n sh : Int} (hn : 3 ≤ n ∧ n ≤ 8) (hsh : 0 ≤ sh ∧ sh ≤ 2) (hk : (k : Int) < n) : ∀ (m j : Nat) (G : ZG), (j : Int) + m = n → G 2 q 0 = n → G 2 q 1 = sh → G 14 q k = ((zmk (fun o => nx n sh k o) j : Nat) : Int) → ZVV Y mX2_layOut (zcx Y 2 Q) 74 [ZR 2 q, ZI n, ZI sh, ZI (k : Int), ZI n] [] (zup G 14 q k ((zmk (fun o => nx n sh k o) n.toNat : Nat) : Int)) → ZVV Y mX2_layOut (zcx Y 2 Q) 33 [ZR 2 q, ZI n, ZI sh, ZI (k : Int), ZI (j : Int)] [] G := by
  intro m
  induction m with
  | zero =>
    intro j G hj h7 h8 hm hq
    have hj2 : (j : Int) = n := by omega
    rw [show n.toNat = j by omega, zup_selfv _ _ _ _ hm, ← hj2] at hq
    rw [← hj2]
    refine zs_iload (i := 4) rfl rfl ?_
    refine zs_iload_n (j := 1) (i := 1) rfl rfl rfl ?_
    refine zs_icmp_ge 74 rfl (by omega) (fun hc_36 => ?_) (fun hc_36 => ?_)
    · exact hq
    · exfalso; omega
  | succ m ih =>
    intro j G hj h7 h8 hm hq
    refine zs_iload (i := 4) rfl rfl ?_
    refine zs_iload_n (j := 1) (i := 1) rfl rfl rfl ?_
    refine zs_icmp_ge 74 rfl (by omega) (fun hc_36 => ?_) (fun hc_36 => ?_)
    · exfalso; omega
    · refine zs_iload (i := 4) rfl rfl ?_
      refine zs_iload_n (j := 3) (i := 3) rfl rfl rfl ?_
      refine zs_icmp_eq 68 rfl (by omega) (fun hc_42 => ?_) (fun hc_42 => ?_)
      · refine zs_iinc_r (i := 4) rfl rfl (by intro r x hr; have hr2 : r = 3 := (by omega); subst hr2; intro z; cases z) ⟨by omega, by omega⟩ ?_
        show ZVV _ _ _ _ [ZR 2 q, ZI n, ZI sh, ZI (k : Int), ZI ((j : Int) + 1)] _ _
        refine zs_goto 33 rfl (by omega) ?_
        have hz : nx n sh (k : Int) (j : Int) = false := by
          first
          | (have hz : (j : Int) = k := (by omega); rw [hz]; exact nx_self _ _ _)
          | (by_cases hz : nx n sh (k : Int) (j : Int) = true
             · rw [if_pos hz] at hc_52; omega
             · simpa using hz)
        exact ih (j + 1) _ (by omega) h7 h8 (by rw [hm, zmk_add0 (P := fun o => nx n sh k o) hz]) hq
      · refine zs_aload_n (j := 0) (i := 0) rfl rfl rfl ?_
        refine zs_iload_n (j := 3) (i := 3) rfl rfl rfl ?_
        refine zs_iload (i := 4) rfl rfl ?_
        refine zs_callV (host := "") rfl kX2_45 vX2_areNeighbours (c_X2_areNeighbours q k j n sh) [ZI (k : Int), ZI (j : Int)] [] rfl (zroom_of (by omega)) rfl (Nat.le_of_ble_eq_true rfl) (⟨rfl, ⟨h7, h8⟩, hn, hsh, ⟨by omega, by omega⟩, ⟨by omega, by omega⟩, by omega⟩) (fun r_49 g_49 hq_49 => ?_)
        obtain ⟨hr_49, hg_49⟩ := hq_49
        rw [hr_49, hg_49]
        show ZVV _ _ _ 52 _ [ZI (if nx n sh (k : Int) (j : Int) = true then 1 else 0)] _
        refine zs_if_eq 68 rfl (by omega) (fun hc_52 => ?_) (fun hc_52 => ?_)
        · refine zs_iinc_r (i := 4) rfl rfl (by intro r x hr; have hr2 : r = 3 := (by omega); subst hr2; intro z; cases z) ⟨by omega, by omega⟩ ?_
          show ZVV _ _ _ _ [ZR 2 q, ZI n, ZI sh, ZI (k : Int), ZI ((j : Int) + 1)] _ _
          refine zs_goto 33 rfl (by omega) ?_
          have hz : nx n sh (k : Int) (j : Int) = false := by
            first
            | (have hz : (j : Int) = k := (by omega); rw [hz]; exact nx_self _ _ _)
            | (by_cases hz : nx n sh (k : Int) (j : Int) = true
               · rw [if_pos hz] at hc_52; omega
               · simpa using hz)
          exact ih (j + 1) _ (by omega) h7 h8 (by rw [hm, zmk_add0 (P := fun o => nx n sh k o) hz]) hq
        · refine zs_aload_n (j := 0) (i := 0) rfl rfl rfl ?_
          refine zs_getfield (f := 2) (k := 2) rfl rfl (trivial) ?_
          show ZVV _ _ _ _ _ (ZR 14 q :: _) _
          refine zs_iload_n (j := 3) (i := 3) rfl rfl rfl ?_
          refine zs_dup2 rfl (by intro x z; cases z) (by intro x z; cases z) ?_
          refine zs_iald (n := 8) rfl rfl (by omega) (by omega) ?_
          show ZVV _ _ _ _ _ (ZI (G 14 q k) :: _) _
          refine zs_iconst (n := 1) rfl ⟨by omega, by omega⟩ ?_
          refine zs_iload (i := 4) rfl rfl ?_
          show ZVV _ _ _ 65 _ _ _
          refine zs_ishl rfl ?_
          refine zs_ior rfl ?_
          refine zs_iast (n := 8) rfl rfl (by omega) (by omega) ?_
          show ZVV _ _ _ _ _ _ (zup G 14 q k (zor (G 14 q k) (zshl 1 (j : Int))))
          refine zs_iinc_r (i := 4) rfl rfl (by intro r x hr; have hr2 : r = 3 := (by omega); subst hr2; intro z; cases z) ⟨by omega, by omega⟩ ?_
          show ZVV _ _ _ _ [ZR 2 q, ZI n, ZI sh, ZI (k : Int), ZI ((j : Int) + 1)] _ _
          refine zs_goto 33 rfl (by omega) ?_
          have hz : nx n sh (k : Int) (j : Int) = true := by
            by_cases hz : nx n sh (k : Int) (j : Int) = true
            · exact hz
            · rw [if_neg hz] at hc_52; omega
          have hz2 : zor (G 14 q k) (zshl 1 (j : Int)) = ((zmk (fun o => nx n sh k o) (j + 1) : Nat) : Int) := by
            rw [hm]; exact zmk_add (P := fun o => nx n sh k o) (by omega) hz
          rw [hz2]
          exact ih (j + 1) _ (by omega) h7 h8 (zup_eq _ _ _ _ _) (by rw [zup_zup]; exact hq)
theorem l_X2_layOut {Y : ZW} {Q : Option ZV → ZG → Prop} {q : Nat} {n sh : Int} (hn : 3 ≤ n ∧ n ≤ 8) (hsh : 0 ≤ sh ∧ sh ≤ 2) : ∀ (m k : Nat) (G : ZG) (z : ZV), (∀ x, z ≠ ZJ x) → (k : Int) + m = n → G 2 q 0 = n → G 2 q 1 = sh → Q none (zlayF G q n sh k) → ZVV Y mX2_layOut (zcx Y 2 Q) 12 [ZR 2 q, ZI n, ZI sh, ZI (k : Int), z] [] G := by
  intro m
  induction m with
  | zero =>
    intro k G z hz hk h7 h8 hq
    rw [zlayF_end _ _ _ _ _ (by omega)] at hq
    refine zs_iload_n (j := 3) (i := 3) rfl rfl rfl ?_
    refine zs_iload_n (j := 1) (i := 1) rfl rfl rfl ?_
    refine zs_icmp_ge 80 rfl (by omega) (fun hc_14 => ?_) (fun hc_14 => ?_)
    · exact zs_return rfl rfl (hq)
    · exfalso; omega
  | succ m ih =>
    intro k G z hz hk h7 h8 hq
    refine zs_iload_n (j := 3) (i := 3) rfl rfl rfl ?_
    refine zs_iload_n (j := 1) (i := 1) rfl rfl rfl ?_
    refine zs_icmp_ge 80 rfl (by omega) (fun hc_14 => ?_) (fun hc_14 => ?_)
    · exfalso; omega
    · refine zs_iload_n (j := 3) (i := 3) rfl rfl rfl ?_
      refine zs_bipush (n := 8) rfl ⟨by omega, by omega⟩ ?_
      refine zs_icmp_ge 80 rfl (by omega) (fun hc_20 => ?_) (fun hc_20 => ?_)
      · exfalso; omega
      · refine zs_aload_n (j := 0) (i := 0) rfl rfl rfl ?_
        refine zs_getfield (f := 2) (k := 2) rfl rfl (trivial) ?_
        show ZVV _ _ _ _ _ (ZR 14 q :: _) _
        refine zs_iload_n (j := 3) (i := 3) rfl rfl rfl ?_
        refine zs_iconst (n := 0) rfl ⟨by omega, by omega⟩ ?_
        refine zs_iast (n := 8) rfl rfl (by omega) (by omega) ?_
        show ZVV _ _ _ _ _ _ (zup G 14 q k 0)
        refine zs_iconst (n := 0) rfl ⟨by omega, by omega⟩ ?_
        refine zs_istore (i := 4) rfl (by decide) (by intro r x hr; have hr2 : r = 3 := (by omega); subst hr2; intro z; cases z) ?_
        show ZVV _ _ _ _ [ZR 2 q, ZI n, ZI sh, ZI (k : Int), ZI 0] _ _
        refine l_X2_layOut_in hn hsh (by omega) n.toNat 0 _ (by omega) h7 h8 (zup_eq _ _ _ _ _) ?_
        rw [zup_zup]
        refine zs_iinc_r (i := 3) rfl rfl (by intro r x hr; have hr2 : r = 2 := (by omega); subst hr2; intro z; cases z) ⟨by omega, by omega⟩ ?_
        show ZVV _ _ _ _ [ZR 2 q, ZI n, ZI sh, ZI ((k : Int) + 1), ZI n] _ _
        refine zs_goto 12 rfl (by omega) ?_
        exact ih (k + 1) _ _ (by intro x h; cases h) (by omega) h7 h8 (by rw [zlayF_s _ _ _ _ _ (by omega)]; exact hq)
theorem c_X2_layOut (q : Nat) (n sh : Int) : ZC mX2_layOut 2 (fun av g => av = [ZR 2 q, ZI n, ZI sh] ∧ (3 ≤ n ∧ n ≤ 8) ∧ (0 ≤ sh ∧ sh ≤ 2)) (fun _ g r g' => r = none ∧ g' = zlayF (zup (zup g 2 q 0 n) 2 q 1 sh) q n sh 0) := by
  refine zc_of gX2_layOut (fun av g hp => by obtain ⟨rfl, -⟩ := hp; exact Nat.le_of_ble_eq_true rfl) (fun Y av g hwf hrg hp hok => ?_)
  obtain ⟨rfl, hp⟩ := hp
  show ZVV _ _ _ 0 [ZR 2 q, ZI n, ZI sh, ZX 99, ZX 99] [] _
  refine zs_aload_n (j := 0) (i := 0) rfl rfl rfl ?_
  refine zs_iload_n (j := 1) (i := 1) rfl rfl rfl ?_
  refine zs_putfield (f := 2) (k := 0) (x := n) rfl rfl (rfl) ?_
  refine zs_aload_n (j := 0) (i := 0) rfl rfl rfl ?_
  refine zs_iload_n (j := 2) (i := 2) rfl rfl rfl ?_
  refine zs_putfield (f := 2) (k := 1) (x := sh) rfl rfl (rfl) ?_
  refine zs_iconst (n := 0) rfl ⟨by omega, by omega⟩ ?_
  show ZVV _ _ _ 11 _ _ _
  refine zs_istore_n (j := 3) (i := 3) rfl rfl (by decide) (by intro r x hr; have hr2 : r = 2 := (by omega); subst hr2; intro z; cases z) ?_
  show ZVV _ _ _ _ [ZR 2 q, ZI n, ZI sh, ZI 0, ZX 99] _ _
  exact l_X2_layOut hp.1 hp.2 n.toNat 0 _ _ (by intro x h; cases h) (by have := hp.1; omega) (by unfold zup; simp) (by unfold zup; simp) ⟨rfl, rfl⟩

theorem c_X2_settle (q : Nat) (a b c h : Int) : ZC mX2_settle 1 (fun av g => av = [ZR 2 q, ZI a, ZI b, ZI c, ZI h] ∧ 0 ≤ g 2 q 3 ∧ g 2 q 3 < 6) (fun _ g r g' => r = some (ZI (g 2 q 3)) ∧ g' = zup (zup (zup (zup (zup g 15 q (g 2 q 3).toNat a) 16 q (g 2 q 3).toNat b) 17 q (g 2 q 3).toNat c) 18 q (g 2 q 3).toNat h) 2 q 3 (g 2 q 3 + 1)) := by
  refine zc_of gX2_settle (fun av g hp => by obtain ⟨rfl, -⟩ := hp; exact Nat.le_of_ble_eq_true rfl) (fun Y av g hwf hrg hp hok => ?_)
  obtain ⟨rfl, hp⟩ := hp
  show ZVV _ _ _ 0 [ZR 2 q, ZI a, ZI b, ZI c, ZI h, ZX 99] [] _
  refine zs_aload_n (j := 0) (i := 0) rfl rfl rfl ?_
  refine zs_getfield (f := 2) (k := 3) rfl rfl (trivial) ?_
  show ZVV _ _ _ _ _ (ZI (g 2 q 3) :: _) _
  refine zs_istore (i := 5) rfl (by decide) (by intro r x hr; have hr2 : r = 4 := (by omega); subst hr2; intro z; cases z) ?_
  show ZVV _ _ _ _ [ZR 2 q, ZI a, ZI b, ZI c, ZI h, ZI (g 2 q 3)] _ _
  refine zs_iload (i := 5) rfl rfl ?_
  refine zs_if_lt 18 rfl (by omega) (fun hc_8 => ?_) (fun hc_8 => ?_)
  · exfalso; omega
  · refine zs_iload (i := 5) rfl rfl ?_
    refine zs_bipush (n := 6) rfl ⟨by omega, by omega⟩ ?_
    refine zs_icmp_lt 21 rfl (by omega) (fun hc_15 => ?_) (fun hc_15 => ?_)
    · refine zs_aload_n (j := 0) (i := 0) rfl rfl rfl ?_
      refine zs_getfield (f := 2) (k := 4) rfl rfl (trivial) ?_
      show ZVV _ _ _ _ _ (ZR 15 q :: _) _
      refine zs_iload (i := 5) rfl rfl ?_
      refine zs_iload_n (j := 1) (i := 1) rfl rfl rfl ?_
      refine zs_iast (n := 6) rfl rfl (by omega) (by omega) ?_
      refine zs_aload_n (j := 0) (i := 0) rfl rfl rfl ?_
      refine zs_getfield (f := 2) (k := 5) rfl rfl (trivial) ?_
      show ZVV _ _ _ _ _ (ZR 16 q :: _) _
      show ZVV _ _ _ 33 _ _ _
      refine zs_iload (i := 5) rfl rfl ?_
      refine zs_iload_n (j := 2) (i := 2) rfl rfl rfl ?_
      refine zs_iast (n := 6) rfl rfl (by omega) (by omega) ?_
      refine zs_aload_n (j := 0) (i := 0) rfl rfl rfl ?_
      refine zs_getfield (f := 2) (k := 6) rfl rfl (trivial) ?_
      show ZVV _ _ _ _ _ (ZR 17 q :: _) _
      refine zs_iload (i := 5) rfl rfl ?_
      refine zs_iload_n (j := 3) (i := 3) rfl rfl rfl ?_
      refine zs_iast (n := 6) rfl rfl (by omega) (by omega) ?_
      show ZVV _ _ _ 45 _ _ _
      refine zs_aload_n (j := 0) (i := 0) rfl rfl rfl ?_
      refine zs_getfield (f := 2) (k := 7) rfl rfl (trivial) ?_
      show ZVV _ _ _ _ _ (ZR 18 q :: _) _
      refine zs_iload (i := 5) rfl rfl ?_
      refine zs_iload (i := 4) rfl rfl ?_
      refine zs_iast (n := 6) rfl rfl (by omega) (by omega) ?_
      refine zs_aload_n (j := 0) (i := 0) rfl rfl rfl ?_
      refine zs_dup rfl (by intro x z; cases z) ?_
      refine zs_getfield (f := 2) (k := 3) rfl rfl (trivial) ?_
      show ZVV _ _ _ _ _ (ZI (g 2 q 3) :: _) _
      show ZVV _ _ _ 59 _ _ _
      refine zs_iconst (n := 1) rfl ⟨by omega, by omega⟩ ?_
      refine zs_iadd_r rfl ⟨by omega, by omega⟩ ?_
      refine zs_putfield (f := 2) (k := 3) (x := (g 2 q 3) + 1) rfl rfl (rfl) ?_
      refine zs_iload (i := 5) rfl rfl ?_
      exact zs_ireturn rfl rfl (⟨rfl, rfl⟩)
    · exfalso; omega

