def MS0 (base : Nat) (G : ZG) (a : Int) (out : List Int) : Prop := G 8 0 11 = a ∧ G 8 0 21 = (base : Int) + out.length ∧ SL base G out
theorem MS0.nf {base : Nat} {G : ZG} {a : Int} {out : List Int} (h : MS0 base G a out) {f : Nat} (hf : f ≠ 8 ∧ f ≠ 40) (k : Nat) (v : Int) : MS0 base (zup G f 0 k v) a out := ⟨by rw [zup_nf _ _ _ _ (Ne.symm hf.1)]; exact h.1, by rw [zup_nf _ _ _ _ (Ne.symm hf.1)]; exact h.2.1, fun i hi => by rw [zup_nf _ _ _ _ (Ne.symm hf.2)]; exact h.2.2 i hi⟩
theorem MS0.at {base : Nat} {G : ZG} {a : Int} {out : List Int} (h : MS0 base G a out) (v : Int) : MS0 base (zup G 8 0 11 v) v out := ⟨zup_eq _ _ _ _ _, by rw [zup_nk _ _ _ _ _ _ (by decide)]; exact h.2.1, fun i hi => by rw [zup_nf _ _ _ _ (by decide)]; exact h.2.2 i hi⟩
theorem MS0.k8 {base : Nat} {G : ZG} {a : Int} {out : List Int} (h : MS0 base G a out) {k : Nat} (hk : k ≠ 11 ∧ k ≠ 21) (v : Int) : MS0 base (zup G 8 0 k v) a out := ⟨by rw [zup_nk _ _ _ _ _ _ (Ne.symm hk.1)]; exact h.1, by rw [zup_nk _ _ _ _ _ _ (Ne.symm hk.2)]; exact h.2.1, fun i hi => by rw [zup_nf _ _ _ _ (by decide)]; exact h.2.2 i hi⟩
theorem MS0.st {base : Nat} {G : ZG} {a : Int} {out : List Int} (h : MS0 base G a out) : MST base (zup (zup G 8 0 22 0) 8 0 23 0) (a, out, [], 0) := ⟨by rw [zup_nk _ _ _ _ _ _ (by decide), zup_nk _ _ _ _ _ _ (by decide)]; exact h.1, by rw [zup_nk _ _ _ _ _ _ (by decide), zup_nk _ _ _ _ _ _ (by decide)]; exact h.2.1, fun i hi => by rw [zup_nf _ _ _ _ (by decide), zup_nf _ _ _ _ (by decide)]; exact h.2.2 i hi, by rw [zup_nk _ _ _ _ _ _ (by decide), zup_eq]; rfl, trivial, zup_eq _ _ _ _ _⟩
theorem FED.nf {g : ZG} (h : FED g) {f : Nat} (hf : f ≠ 8 ∧ f ≠ 34) (k : Nat) (v : Int) : FED (zup g f 0 k v) := by
  unfold FED; rw [zup_nf _ _ _ _ (Ne.symm hf.1), zup_nf _ _ _ _ (Ne.symm hf.2)]; exact h
theorem lkm_nf (g : ZG) {f : Nat} (hf : f ≠ 8 ∧ f ≠ 34) (k : Nat) (v : Int) : lkm (zup g f 0 k v) = lkm g := by
  funext a; unfold lkm; rw [zup_nf _ _ _ _ (Ne.symm hf.1), zup_nf _ _ _ _ (Ne.symm hf.2)]
def XR (lk : Int → Int) (s : MPS) (res : Bool × MPS) : Prop := ∃ N, xRun lk N true s = some res
abbrev YC : Type := Bool × Int × List Int × Int × Int
def xHd (lk : Int → Int) (a : Int) : Int × Bool × Int := if lk a = 109 then (1, xWd lk xLet 4 4 a) else if lk a = 119 then (0, xWd lk xLet 4 0 a) else (2, xWd lk xLet 4 8 a)
def XC (lk : Int → Int) (a : Int) (out : List Int) (y : YC) : Prop := if (xHd lk a).2.1 = false then (y.1 = false ∧ y.2.1 = (xHd lk a).2.2) else if ¬ (48 ≤ lk (xHd lk a).2.2 ∧ lk (xHd lk a).2.2 ≤ 57) then (y.1 = false ∧ y.2.1 = (xHd lk a).2.2) else if lk (xNum lk (xHd lk a).2.2).2 ≠ 32 then (y.1 = false ∧ y.2.1 = (xNum lk (xHd lk a).2.2).2) else ∃ res, XR lk ((xNum lk (xHd lk a).2.2).2 + 1, out, [], 0) res ∧ y = (res.1, res.2.1, res.2.2.1, (xHd lk a).1, (xNum lk (xHd lk a).2.2).1)
theorem xWd_r {g : ZG} : ∀ (n k : Nat) (a : Int), k + n ≤ 12 → 0 ≤ a ∧ a ≤ 100 → (a ≤ (xWd (lkm g) xLet n k a).2 ∧ (xWd (lkm g) xLet n k a).2 ≤ 100) := by
  intro n
  induction n with
  | zero =>
    intro k a hk ha
    unfold xWd
    split
    · rename_i h; have := lkm_lt (g := g) (a := a) (by omega); exact ⟨by show a ≤ a + 1; omega, by show a + 1 ≤ 100; omega⟩
    · exact ⟨Int.le_refl _, ha.2⟩
  | succ n ih =>
    intro k a hk ha
    unfold xWd
    split
    · rename_i h
      have h2 := xLet_r k (by omega)
      have := lkm_lt (g := g) (a := a) (by omega)
      have := ih (k + 1) (a + 1) (by omega) (by omega)
      omega
    · exact ⟨Int.le_refl _, ha.2⟩
theorem c_X8_takesE (base c : Nat) (a : Int) (out : List Int) (res : Bool × MPS) : ZC mX8_takesE 5 (fun av g => av = [ZR 8 0, ZI (c : Int)] ∧ base ≤ 500 ∧ c < 60 ∧ FED g ∧ MS0 base g a out ∧ XI (a, out, [], 0) ∧ XR (lkm g) (a, out, [], 0) res) (fun _ g r g' => r = some (ZI (if res.1 = true then 1 else 0)) ∧ MST base g' res.2 ∧ zE base c (zup g 38 0 c ((base : Int) + out.length)) g' ∧ (res.1 = true → g' 39 0 c = (base : Int) + res.2.2.1.length)) := by
  refine zc_of gX8_takesE (fun av g hp => by obtain ⟨rfl, -⟩ := hp; exact Nat.le_of_ble_eq_true rfl) (fun Y av g hwf hrg hp hok => ?_)
  obtain ⟨rfl, hb, hc60, hf, hM0, hX, N, hN⟩ := hp
  show ZVV Y _ _ 0 [ZR 8 0, ZI (c : Int), ZX 99, ZX 99] [] _
  refine zs_aload_n (j := 0) (i := 0) rfl rfl rfl ?_
  refine zs_iconst (n := 0) rfl ⟨by omega, by omega⟩ ?_
  refine zs_putfield (f := 8) (k := 22) (x := 0) rfl rfl (rfl) ?_
  refine zs_aload_n (j := 0) (i := 0) rfl rfl rfl ?_
  refine zs_iconst (n := 0) rfl ⟨by omega, by omega⟩ ?_
  refine zs_putfield (f := 8) (k := 23) (x := 0) rfl rfl (rfl) ?_
  refine zs_aload_n (j := 0) (i := 0) rfl rfl rfl ?_
  show ZVV _ _ _ 11 _ _ _
  refine zs_getfield (f := 8) (k := 17) rfl rfl (trivial) ?_
  show ZVV _ _ _ _ _ (ZR 38 0 :: _) _
  refine zs_iload_n (j := 1) (i := 1) rfl rfl rfl ?_
  refine zs_aload_n (j := 0) (i := 0) rfl rfl rfl ?_
  refine zs_getfield (f := 8) (k := 21) rfl rfl (trivial) ?_
  show ZVV _ _ _ _ _ (ZI (g 8 0 21) :: _) _
  refine zs_iast (n := 60) rfl rfl (by omega) (by omega) ?_
  show ZVV _ _ _ _ _ _ (zup (zup (zup g 8 0 22 0) 8 0 23 0) 38 0 c (g 8 0 21))
  refine zs_iconst (n := 1) rfl ⟨by omega, by omega⟩ ?_
  refine zs_istore_n (j := 2) (i := 2) rfl rfl (by decide) (by intro r x hr; have hr2 : r = 1 := (by omega); subst hr2; intro z; cases z) ?_
  show ZVV _ _ _ _ [ZR 8 0, ZI (c : Int), ZI 1, ZX 99] _ _
  have e21 : (zup (zup g 8 0 22 0) 8 0 23 0) 8 0 21 = g 8 0 21 := by rw [zup_nk _ _ _ _ _ _ (by decide), zup_nk _ _ _ _ _ _ (by decide)]
  have hMst := MST.nf hM0.st (f := 38) ⟨by decide, by decide, by decide⟩ c (g 8 0 21)
  have hE0 : zE base c (zup g 38 0 c ((base : Int) + out.length)) (zup (zup (zup g 8 0 22 0) 8 0 23 0) 38 0 c (g 8 0 21)) := by
    have e : zup (zup (zup g 8 0 22 0) 8 0 23 0) 38 0 c (g 8 0 21) = zup (zup (zup g 38 0 c ((base : Int) + out.length)) 8 0 22 0) 8 0 23 0 := by
      rw [hM0.2.1]
      funext f i k
      unfold zup
      by_cases h1 : f = 38 ∧ k = c ∧ i = 0
      · rw [if_pos h1, if_neg (fun z => by omega), if_neg (fun z => by omega), if_pos h1]
      · rw [if_neg h1, if_neg h1]
    rw [e]
    exact ((zE.rf base c _).s (zS.up8 base _ (by decide) _)).s (zS.up8 base _ (by decide) _)
  have hlk : lkm (zup g 38 0 c ((base : Int) + out.length)) = lkm g := lkm_nf g ⟨by decide, by decide⟩ _ _
  exact l_X8_takesE hb hc60 (hf.nf ⟨by decide, by decide⟩ _ _) N true (a, out, [], 0) res _ _ (by intro y h; cases h) hMst hX (by rw [hlk]; exact hN) hE0 ⟨by show (0 : Int) ≤ 4; decide, by show ((0 : Nat) : Int) ≤ 0 + a; have := hX.1; have h9 : 0 ≤ a ∧ a ≤ 100 := hX.1; omega⟩ (fun M m1 m2 m3 => ⟨rfl, m1, m2, m3⟩)
theorem c_X8_takesHead (c : Nat) (a : Int) : ZC mX8_takesHead 4 (fun av g => av = [ZR 8 0, ZI (c : Int)] ∧ FED g ∧ LET g ∧ g 8 0 11 = a ∧ c < 60) (fun _ g r g' => r = some (ZI (if (xHd (lkm g) a).2.1 = true then 1 else 0)) ∧ g' = zup (zup g 36 0 c (xHd (lkm g) a).1) 8 0 11 (xHd (lkm g) a).2.2) := by
  refine zc_of gX8_takesHead (fun av g hp => by obtain ⟨rfl, -⟩ := hp; exact Nat.le_of_ble_eq_true rfl) (fun Y av g hwf hrg hp hok => ?_)
  obtain ⟨rfl, hp⟩ := hp
  show ZVV _ _ _ 0 [ZR 8 0, ZI (c : Int)] [] _
  obtain ⟨hf, hlet, hat, hc60⟩ := hp
  refine zs_aload_n (j := 0) (i := 0) rfl rfl rfl ?_
  refine zs_callV (host := "") rfl kX8_189 vX8_next c_X8_next [] [] rfl (zroom_of (by omega)) rfl (Nat.le_of_ble_eq_true rfl) ⟨rfl, hf⟩ (fun r_1 g_1 hq_1 => ?_)
  obtain ⟨hr_1, hg_1⟩ := hq_1
  rw [hr_1, hg_1, hat]
  show ZVV _ _ _ 4 _ [ZI (lkm g a)] g
  by_cases hs_4_109 : lkm g a = 109
  · refine zs_ls 46 rfl rfl (off := 42) (by rw [hs_4_109]; rfl) (by omega) ?_
    refine zs_aload_n (j := 0) (i := 0) rfl rfl rfl ?_
    refine zs_getfield (f := 8) (k := 15) rfl rfl (trivial) ?_
    show ZVV _ _ _ _ _ (ZR 36 0 :: _) _
    refine zs_iload_n (j := 1) (i := 1) rfl rfl rfl ?_
    refine zs_iconst (n := 1) rfl ⟨by omega, by omega⟩ ?_
    refine zs_iast (n := 60) rfl rfl (by omega) (by omega) ?_
    show ZVV _ _ _ _ _ _ (zup g 36 0 c 1)
    refine zs_aload_n (j := 0) (i := 0) rfl rfl rfl ?_
    refine zs_iconst (n := 4) rfl ⟨by omega, by omega⟩ ?_
    show ZVV _ _ _ 55 _ _ _
    refine zs_iconst (n := 4) rfl ⟨by omega, by omega⟩ ?_
    refine zs_callV (host := "") rfl kX8_219 vX8_takesWord (c_X8_takesWord 4) [ZI 4, ZI 4] [] rfl (zroom_of (by omega)) rfl (Nat.le_of_ble_eq_true rfl) ⟨rfl, hf.nf ⟨by decide, by decide⟩ _ _, by unfold LET; rw [zup_nf _ _ _ _ (by decide)]; exact hlet, by decide⟩ (fun r_56 g_56 hq_56 => ?_)
    obtain ⟨hr_56, hg_56⟩ := hq_56
    rw [lkm_nf _ ⟨by decide, by decide⟩, zup_nf _ _ _ _ (by decide), hat] at hr_56 hg_56
    rw [hr_56, hg_56]
    show ZVV _ _ _ 59 _ [ZI (if (xWd (lkm g) xLet 4 4 a).1 = true then 1 else 0)] (zup (zup g 36 0 c 1) 8 0 11 (xWd (lkm g) xLet 4 4 a).2)
    exact zs_zreturn rfl rfl (by split <;> decide) (by rw [show xHd (lkm g) a = (1, xWd (lkm g) xLet 4 4 a) from if_pos hs_4_109]; exact ⟨rfl, rfl⟩)
  by_cases hs_4_119 : lkm g a = 119
  · refine zs_ls 32 rfl rfl (off := 28) (by rw [hs_4_119]; rfl) (by omega) ?_
    refine zs_aload_n (j := 0) (i := 0) rfl rfl rfl ?_
    refine zs_getfield (f := 8) (k := 15) rfl rfl (trivial) ?_
    show ZVV _ _ _ _ _ (ZR 36 0 :: _) _
    refine zs_iload_n (j := 1) (i := 1) rfl rfl rfl ?_
    refine zs_iconst (n := 0) rfl ⟨by omega, by omega⟩ ?_
    refine zs_iast (n := 60) rfl rfl (by omega) (by omega) ?_
    show ZVV _ _ _ _ _ _ (zup g 36 0 c 0)
    refine zs_aload_n (j := 0) (i := 0) rfl rfl rfl ?_
    refine zs_iconst (n := 0) rfl ⟨by omega, by omega⟩ ?_
    show ZVV _ _ _ 41 _ _ _
    refine zs_iconst (n := 4) rfl ⟨by omega, by omega⟩ ?_
    refine zs_callV (host := "") rfl kX8_219 vX8_takesWord (c_X8_takesWord 0) [ZI 0, ZI 4] [] rfl (zroom_of (by omega)) rfl (Nat.le_of_ble_eq_true rfl) ⟨rfl, hf.nf ⟨by decide, by decide⟩ _ _, by unfold LET; rw [zup_nf _ _ _ _ (by decide)]; exact hlet, by decide⟩ (fun r_42 g_42 hq_42 => ?_)
    obtain ⟨hr_42, hg_42⟩ := hq_42
    rw [lkm_nf _ ⟨by decide, by decide⟩, zup_nf _ _ _ _ (by decide), hat] at hr_42 hg_42
    rw [hr_42, hg_42]
    show ZVV _ _ _ 45 _ [ZI (if (xWd (lkm g) xLet 4 0 a).1 = true then 1 else 0)] (zup (zup g 36 0 c 0) 8 0 11 (xWd (lkm g) xLet 4 0 a).2)
    exact zs_zreturn rfl rfl (by split <;> decide) (by rw [show xHd (lkm g) a = (0, xWd (lkm g) xLet 4 0 a) from (if_neg hs_4_109).trans (if_pos hs_4_119)]; exact ⟨rfl, rfl⟩)
  refine zs_ls 60 rfl rfl (off := 56) (by rw [zs_off (by omega)]; rw [zs_off (by omega)]; rfl) (by omega) ?_
  refine zs_aload_n (j := 0) (i := 0) rfl rfl rfl ?_
  refine zs_getfield (f := 8) (k := 15) rfl rfl (trivial) ?_
  show ZVV _ _ _ _ _ (ZR 36 0 :: _) _
  refine zs_iload_n (j := 1) (i := 1) rfl rfl rfl ?_
  refine zs_iconst (n := 2) rfl ⟨by omega, by omega⟩ ?_
  refine zs_iast (n := 60) rfl rfl (by omega) (by omega) ?_
  show ZVV _ _ _ _ _ _ (zup g 36 0 c 2)
  refine zs_aload_n (j := 0) (i := 0) rfl rfl rfl ?_
  refine zs_bipush (n := 8) rfl ⟨by omega, by omega⟩ ?_
  show ZVV _ _ _ 70 _ _ _
  refine zs_iconst (n := 4) rfl ⟨by omega, by omega⟩ ?_
  refine zs_callV (host := "") rfl kX8_219 vX8_takesWord (c_X8_takesWord 8) [ZI 8, ZI 4] [] rfl (zroom_of (by omega)) rfl (Nat.le_of_ble_eq_true rfl) ⟨rfl, hf.nf ⟨by decide, by decide⟩ _ _, by unfold LET; rw [zup_nf _ _ _ _ (by decide)]; exact hlet, by decide⟩ (fun r_71 g_71 hq_71 => ?_)
  obtain ⟨hr_71, hg_71⟩ := hq_71
  rw [lkm_nf _ ⟨by decide, by decide⟩, zup_nf _ _ _ _ (by decide), hat] at hr_71 hg_71
  rw [hr_71, hg_71]
  show ZVV _ _ _ 74 _ [ZI (if (xWd (lkm g) xLet 4 8 a).1 = true then 1 else 0)] (zup (zup g 36 0 c 2) 8 0 11 (xWd (lkm g) xLet 4 8 a).2)
  exact zs_zreturn rfl rfl (by split <;> decide) (by rw [show xHd (lkm g) a = (2, xWd (lkm g) xLet 4 8 a) from (if_neg hs_4_109).trans (if_neg hs_4_119)]; exact ⟨rfl, rfl⟩)

def zC (base c : Nat) (g G : ZG) : Prop := (∀ f, f ≠ 8 → f ≠ 36 → f ≠ 37 → f ≠ 38 → f ≠ 39 → f ≠ 40 → f ≠ 41 → G f = g f) ∧ (∀ i k, ¬ (i = 0 ∧ (k = 11 ∨ k = 12 ∨ k = 21 ∨ k = 22 ∨ k = 23)) → G 8 i k = g 8 i k) ∧ (∀ k, k < base → G 40 0 k = g 40 0 k) ∧ ∀ k, k ≠ c → (G 36 0 k = g 36 0 k ∧ G 37 0 k = g 37 0 k ∧ G 38 0 k = g 38 0 k ∧ G 39 0 k = g 39 0 k)
theorem zC.rf (base c : Nat) (g : ZG) : zC base c g g := ⟨fun _ _ _ _ _ _ _ _ => rfl, fun _ _ _ => rfl, fun _ _ => rfl, fun _ _ => ⟨rfl, rfl, rfl, rfl⟩⟩
theorem zC.up {base c : Nat} {a b : ZG} (h : zC base c a b) {f : Nat} (hf : f = 36 ∨ f = 37 ∨ f = 38 ∨ f = 39) (v : Int) : zC base c a (zup b f 0 c v) := by
  refine ⟨fun x h1 h2 h3 h4 h5 h6 h7 => (zup_nf _ _ _ _ (by omega)).trans (h.1 x h1 h2 h3 h4 h5 h6 h7), fun i j h1 => by rw [zup_nf _ _ _ _ (by omega)]; exact h.2.1 i j h1, fun j hj => by rw [zup_nf _ _ _ _ (by omega)]; exact h.2.2.1 j hj, fun j hj => ?_⟩
  have e : ∀ x, zup b f 0 c v x 0 j = b x 0 j := fun x => by unfold zup; rw [if_neg (fun z => hj z.2.1)]
  rw [e, e, e, e]
  exact h.2.2.2 j hj
theorem zC.u8 {base c : Nat} {a b : ZG} (h : zC base c a b) {k : Nat} (hk : k = 11 ∨ k = 12 ∨ k = 21 ∨ k = 22 ∨ k = 23) (v : Int) : zC base c a (zup b 8 0 k v) := by
  refine ⟨fun x h1 h2 h3 h4 h5 h6 h7 => (zup_nf _ _ _ _ h1).trans (h.1 x h1 h2 h3 h4 h5 h6 h7), fun i j h1 => by unfold zup; rw [if_neg (fun z => h1 ⟨z.2.2, by rw [z.2.1]; exact hk⟩)]; exact h.2.1 i j h1, fun j hj => by rw [zup_nf _ _ _ _ (by decide)]; exact h.2.2.1 j hj, fun j hj => ?_⟩
  rw [zup_nf _ _ _ _ (by decide), zup_nf _ _ _ _ (by decide), zup_nf _ _ _ _ (by decide), zup_nf _ _ _ _ (by decide)]
  exact h.2.2.2 j hj
theorem zC.e {base c : Nat} {a b d : ZG} (h : zC base c a b) (k : zE base c b d) : zC base c a d := by
  refine ⟨fun x h1 h2 h3 h4 h5 h6 h7 => (k.1 x h1 h5 h6 h7).trans (h.1 x h1 h2 h3 h4 h5 h6 h7), fun i j h1 => (k.2.1 i j h1).trans (h.2.1 i j h1), fun j hj => (k.2.2.1 j hj).trans (h.2.2.1 j hj), fun j hj => ?_⟩
  have h9 := h.2.2.2 j hj
  exact ⟨by rw [k.1 36 (by decide) (by decide) (by decide) (by decide)]; exact h9.1, by rw [k.1 37 (by decide) (by decide) (by decide) (by decide)]; exact h9.2.1, by rw [k.1 38 (by decide) (by decide) (by decide) (by decide)]; exact h9.2.2.1, (k.2.2.2 j hj).trans h9.2.2.2⟩
set_option maxHeartbeats 4000000 in
theorem c_X8_takesClause (base c : Nat) (a : Int) (out : List Int) (y : YC) : ZC mX8_takesClause 6 (fun av g => av = [ZR 8 0, ZI (c : Int)] ∧ base ≤ 500 ∧ c < 60 ∧ FED g ∧ LET g ∧ MS0 base g a out ∧ (0 ≤ a ∧ a ≤ 100) ∧ (out.length : Int) ≤ a ∧ XC (lkm g) a out y) (fun _ g r g' => r = some (ZI (if y.1 = true then 1 else 0)) ∧ g' 8 0 11 = y.2.1 ∧ zC base c g g' ∧ (y.1 = true → MS0 base g' y.2.1 y.2.2.1 ∧ g' 36 0 c = y.2.2.2.1 ∧ g' 37 0 c = y.2.2.2.2 ∧ g' 38 0 c = (base : Int) + out.length ∧ g' 39 0 c = (base : Int) + y.2.2.1.length)) := by
  refine zc_of gX8_takesClause (fun av g hp => by obtain ⟨rfl, -⟩ := hp; exact Nat.le_of_ble_eq_true rfl) (fun Y av g hwf hrg hp hok => ?_)
  obtain ⟨rfl, hp⟩ := hp
  show ZVV _ _ _ 0 [ZR 8 0, ZI (c : Int)] [] _
  obtain ⟨hb, hc60, hf, hlet, hM0, ha, hlen, hy⟩ := hp
  have hat : g 8 0 11 = a := hM0.1
  have hhr : a ≤ (xHd (lkm g) a).2.2 ∧ (xHd (lkm g) a).2.2 ≤ 100 := by
    unfold xHd
    split
    · exact xWd_r 4 4 a (by decide) ha
    · split
      · exact xWd_r 4 0 a (by decide) ha
      · exact xWd_r 4 8 a (by decide) ha
  refine zs_aload_n (j := 0) (i := 0) rfl rfl rfl ?_
  refine zs_iload_n (j := 1) (i := 1) rfl rfl rfl ?_
  refine zs_callV (host := "") rfl kX8_222 vX8_takesHead (c_X8_takesHead c a) [ZI (c : Int)] [] rfl (zroom_of (by omega)) rfl (Nat.le_of_ble_eq_true rfl) ⟨rfl, hf, hlet, hat, hc60⟩ (fun r_2 g_2 hq_2 => ?_)
  obtain ⟨hr_2, hg_2⟩ := hq_2
  rw [hr_2, hg_2]
  have hM_2 : MS0 base (zup (zup g 36 0 c (xHd (lkm g) a).1) 8 0 11 (xHd (lkm g) a).2.2) (xHd (lkm g) a).2.2 out := (hM0.nf ⟨by decide, by decide⟩ _ _).at _
  have hC_2 : zC base c g (zup (zup g 36 0 c (xHd (lkm g) a).1) 8 0 11 (xHd (lkm g) a).2.2) := ((zC.rf base c g).up (Or.inl rfl) _).u8 (Or.inl rfl) _
  show ZVV _ _ _ 5 _ [ZI (if (xHd (lkm g) a).2.1 = true then 1 else 0)] (zup (zup g 36 0 c (xHd (lkm g) a).1) 8 0 11 (xHd (lkm g) a).2.2)
  refine zs_if_eq 15 rfl (by omega) (fun hc_5 => ?_) (fun hc_5 => ?_)
  · refine zs_iconst (n := 0) rfl ⟨by omega, by omega⟩ ?_
    exact zs_zreturn rfl rfl (by omega) (by
        have hy2 := hy
        unfold XC at hy2
        rw [if_pos (show (xHd (lkm g) a).2.1 = false from Bool.eq_false_iff.mpr (zif0 hc_5))] at hy2
        refine ⟨by rw [hy2.1]; rfl, ?_, hC_2, fun z => ?_⟩
        · rw [zup_eq, hy2.2]
        · rw [hy2.1] at z; cases z)
  · refine zs_aload_n (j := 0) (i := 0) rfl rfl rfl ?_
    refine zs_callV (host := "") rfl kX8_207 vX8_takesNumber c_X8_takesNumber [] [] rfl (zroom_of (by omega)) rfl (Nat.le_of_ble_eq_true rfl) ⟨rfl, (hf.nf ⟨by decide, by decide⟩ _ _).at (by omega)⟩ (fun r_9 g_9 hq_9 => ?_)
    obtain ⟨hr_9, hg_9⟩ := hq_9
    rw [lkm_up _ (by decide), lkm_nf _ ⟨by decide, by decide⟩, zup_eq] at hr_9 hg_9
    rw [hr_9]
    show ZVV _ _ _ 12 _ [ZI (if 48 ≤ lkm g (xHd (lkm g) a).2.2 ∧ lkm g (xHd (lkm g) a).2.2 ≤ 57 then 1 else 0)] g_9
    refine zs_if_ne 17 rfl (by omega) (fun hc_12 => ?_) (fun hc_12 => ?_)
    · have hD : 48 ≤ lkm g (xHd (lkm g) a).2.2 ∧ lkm g (xHd (lkm g) a).2.2 ≤ 57 := by omega
      rw [if_pos hD] at hg_9
      have hl := lkm_lt (g := g) (a := (xHd (lkm g) a).2.2) (by omega)
      have hnr := xNum_r (lk := lkm g) (fun b h => ⟨(lkm_lt (g := g) h).1, (lkm_lt (g := g) h).2.1⟩) hD ⟨by omega, by omega⟩
      have hM_9 : MS0 base g_9 (xNum (lkm g) (xHd (lkm g) a).2.2).2 out := by rw [hg_9]; exact (hM_2.k8 ⟨by decide, by decide⟩ _).at _
      have hC_9 : zC base c g g_9 := by rw [hg_9]; exact (hC_2.u8 (Or.inr (Or.inl rfl)) _).u8 (Or.inl rfl) _
      have h12_9 : g_9 8 0 12 = (xNum (lkm g) (xHd (lkm g) a).2.2).1 := by rw [hg_9, zup_nk _ _ _ _ _ _ (by decide), zup_eq]
      have hF_9 : FED g_9 := by rw [hg_9]; exact (((hf.nf ⟨by decide, by decide⟩ _ _).at (by omega)).up ⟨by decide, by decide⟩ _).at (by omega)
      have hk_9 : lkm g_9 = lkm g := by rw [hg_9, lkm_up _ (by decide), lkm_up _ (by decide), lkm_up _ (by decide), lkm_nf _ ⟨by decide, by decide⟩]
      have h36_9 : g_9 36 0 c = (xHd (lkm g) a).1 := by rw [hg_9, zup_nf _ _ _ _ (by decide), zup_nf _ _ _ _ (by decide), zup_nf _ _ _ _ (by decide), zup_eq]
      refine zs_aload_n (j := 0) (i := 0) rfl rfl rfl ?_
      refine zs_getfield (f := 8) (k := 16) rfl rfl (trivial) ?_
      show ZVV _ _ _ _ _ (ZR 37 0 :: _) _
      refine zs_iload_n (j := 1) (i := 1) rfl rfl rfl ?_
      refine zs_aload_n (j := 0) (i := 0) rfl rfl rfl ?_
      refine zs_getfield (f := 8) (k := 12) rfl rfl (trivial) ?_
      show ZVV _ _ _ _ _ (ZI (g_9 8 0 12) :: _) _
      rw [h12_9]
      refine zs_iast (n := 60) rfl rfl (by omega) (by omega) ?_
      show ZVV _ _ _ _ _ _ (zup g_9 37 0 c ((xNum (lkm g) (xHd (lkm g) a).2.2).1))
      refine zs_aload_n (j := 0) (i := 0) rfl rfl rfl ?_
      show ZVV _ _ _ 28 _ _ _
      refine zs_bipush (n := 32) rfl ⟨by omega, by omega⟩ ?_
      refine zs_callV (host := "") rfl kX8_193 vX8_takes (c_X8_takes 32) [ZI 32] [] rfl (zroom_of (by omega)) rfl (Nat.le_of_ble_eq_true rfl) ⟨rfl, hF_9.nf ⟨by decide, by decide⟩ _ _, by decide⟩ (fun r_30 g_30 hq_30 => ?_)
      obtain ⟨hr_30, hg_30⟩ := hq_30
      rw [lkm_nf _ ⟨by decide, by decide⟩, zup_nf _ _ _ _ (by decide), hk_9, hM_9.1] at hr_30 hg_30
      rw [hr_30]
      have hM_m : MS0 base (zup g_9 37 0 c (xNum (lkm g) (xHd (lkm g) a).2.2).1) (xNum (lkm g) (xHd (lkm g) a).2.2).2 out := hM_9.nf ⟨by decide, by decide⟩ _ _
      have hC_m : zC base c g (zup g_9 37 0 c (xNum (lkm g) (xHd (lkm g) a).2.2).1) := hC_9.up (Or.inr (Or.inl rfl)) _
      show ZVV _ _ _ 33 _ [ZI (if lkm g (xNum (lkm g) (xHd (lkm g) a).2.2).2 = 32 then 1 else 0)] g_30
      refine zs_if_eq 48 rfl (by omega) (fun hc_33 => ?_) (fun hc_33 => ?_)
      · refine zs_iconst (n := 0) rfl ⟨by omega, by omega⟩ ?_
        exact zs_zreturn rfl rfl (by omega) (by
        have h32 : ¬ lkm g (xNum (lkm g) (xHd (lkm g) a).2.2).2 = 32 := by omega
        rw [if_neg h32] at hg_30
        have hy2 := hy
        unfold XC at hy2
        rw [if_neg (show ¬ (xHd (lkm g) a).2.1 = false from fun z => by rw [z] at hc_5; exact hc_5 rfl), if_neg (fun z => z hD), if_pos h32] at hy2
        refine ⟨by rw [hy2.1]; rfl, ?_, ?_, fun z => ?_⟩
        · rw [hg_30, hM_m.1, hy2.2]
        · rw [hg_30]; exact hC_m
        · rw [hy2.1] at z; cases z)
      · have h32 : lkm g (xNum (lkm g) (xHd (lkm g) a).2.2).2 = 32 := by omega
        rw [if_pos h32] at hg_30
        have hl2 := lkm_lt (g := g) (a := (xNum (lkm g) (xHd (lkm g) a).2.2).2) (by omega)
        have hM_30 : MS0 base g_30 ((xNum (lkm g) (xHd (lkm g) a).2.2).2 + 1) out := by rw [hg_30]; exact hM_m.at _
        have hC_30 : zC base c g g_30 := by rw [hg_30]; exact hC_m.u8 (Or.inl rfl) _
        have hF_30 : FED g_30 := by rw [hg_30]; exact (hF_9.nf ⟨by decide, by decide⟩ _ _).at (by omega)
        have hk_30 : lkm g_30 = lkm g := by rw [hg_30, lkm_up _ (by decide), lkm_nf _ ⟨by decide, by decide⟩, hk_9]
        have h36_30 : g_30 36 0 c = (xHd (lkm g) a).1 := by rw [hg_30, zup_nf _ _ _ _ (by decide), zup_nf _ _ _ _ (by decide)]; exact h36_9
        have h37_30 : g_30 37 0 c = (xNum (lkm g) (xHd (lkm g) a).2.2).1 := by rw [hg_30, zup_nf _ _ _ _ (by decide), zup_eq]
        have hyy : ∃ res, XR (lkm g) ((xNum (lkm g) (xHd (lkm g) a).2.2).2 + 1, out, [], 0) res ∧ y = (res.1, res.2.1, res.2.2.1, (xHd (lkm g) a).1, (xNum (lkm g) (xHd (lkm g) a).2.2).1) := by
          have hy2 := hy
          unfold XC at hy2
          rw [if_neg (show ¬ (xHd (lkm g) a).2.1 = false from fun z => by rw [z] at hc_5; exact hc_5 rfl), if_neg (fun z => z hD), if_neg (fun z => z h32)] at hy2
          exact hy2
        obtain ⟨res, hres, hyv⟩ := hyy
        refine zs_aload_n (j := 0) (i := 0) rfl rfl rfl ?_
        refine zs_iload_n (j := 1) (i := 1) rfl rfl rfl ?_
        refine zs_callV (host := "") rfl kX8_225 vX8_takesE (c_X8_takesE base c ((xNum (lkm g) (xHd (lkm g) a).2.2).2 + 1) out res) [ZI (c : Int)] [] rfl (zroom_of (by omega)) rfl (Nat.le_of_ble_eq_true rfl) ⟨rfl, hb, hc60, hF_30, hM_30, ⟨⟨by show 0 ≤ (xNum (lkm g) (xHd (lkm g) a).2.2).2 + 1; omega, by show (xNum (lkm g) (xHd (lkm g) a).2.2).2 + 1 ≤ 100; omega⟩, by show (out.length : Int) + ((0 : Nat) : Int) ≤ (xNum (lkm g) (xHd (lkm g) a).2.2).2 + 1; omega⟩, by rw [hk_30]; exact hres⟩ (fun r_38 g_38 hq_38 => ?_)
        obtain ⟨hr_38, hM_38, hE_38, hto_38⟩ := hq_38
        rw [hr_38]
        have hC_38 : zC base c g g_38 := (hC_30.up (Or.inr (Or.inr (Or.inl rfl))) _).e hE_38
        show ZVV _ _ _ 41 _ [ZI (if res.1 = true then 1 else 0)] g_38
        refine zs_if_eq 48 rfl (by omega) (fun hc_41 => ?_) (fun hc_41 => ?_)
        · refine zs_iconst (n := 0) rfl ⟨by omega, by omega⟩ ?_
          exact zs_zreturn rfl rfl (by omega) (by
        have hr1 : res.1 = false := Bool.eq_false_iff.mpr (zif0 hc_41)
        rw [hyv]
        refine ⟨by show _ = some (ZI (if res.1 = true then 1 else 0)); rw [hr1]; rfl, hM_38.1, hC_38, fun z => ?_⟩
        exact ⟨⟨hM_38.1, hM_38.2.1, hM_38.2.2.1⟩, by rw [hE_38.1 36 (by decide) (by decide) (by decide) (by decide), zup_nf _ _ _ _ (by decide)]; exact h36_30, by rw [hE_38.1 37 (by decide) (by decide) (by decide) (by decide), zup_nf _ _ _ _ (by decide)]; exact h37_30, by rw [hE_38.1 38 (by decide) (by decide) (by decide) (by decide), zup_eq], hto_38 z⟩)
        · refine zs_iconst (n := 1) rfl ⟨by omega, by omega⟩ ?_
          refine zs_goto 49 rfl (by omega) ?_
          exact zs_zreturn rfl rfl (by omega) (by
        have hr1 : res.1 = true := zif1 hc_41
        rw [hyv]
        refine ⟨by show _ = some (ZI (if res.1 = true then 1 else 0)); rw [hr1]; rfl, hM_38.1, hC_38, fun z => ?_⟩
        exact ⟨⟨hM_38.1, hM_38.2.1, hM_38.2.2.1⟩, by rw [hE_38.1 36 (by decide) (by decide) (by decide) (by decide), zup_nf _ _ _ _ (by decide)]; exact h36_30, by rw [hE_38.1 37 (by decide) (by decide) (by decide) (by decide), zup_nf _ _ _ _ (by decide)]; exact h37_30, by rw [hE_38.1 38 (by decide) (by decide) (by decide) (by decide), zup_eq], hto_38 z⟩)
    · refine zs_iconst (n := 0) rfl ⟨by omega, by omega⟩ ?_
      exact zs_zreturn rfl rfl (by omega) (by
        have hD : ¬ (48 ≤ lkm g (xHd (lkm g) a).2.2 ∧ lkm g (xHd (lkm g) a).2.2 ≤ 57) := by omega
        rw [if_neg hD] at hg_9
        have hy2 := hy
        unfold XC at hy2
        rw [if_neg (show ¬ (xHd (lkm g) a).2.1 = false from fun z => by rw [z] at hc_5; exact hc_5 rfl), if_pos hD] at hy2
        refine ⟨by rw [hy2.1]; rfl, ?_, ?_, fun z => ?_⟩
        · rw [hg_9, zup_eq, hy2.2]
        · rw [hg_9]; exact hC_2
        · rw [hy2.1] at z; cases z)

