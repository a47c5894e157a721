def zE (base c : Nat) (g G : ZG) : Prop := (∀ f, f ≠ 8 → f ≠ 39 → f ≠ 40 → f ≠ 41 → G f = g f) ∧ (∀ i k, ¬ (i = 0 ∧ (k = 11 ∨ k = 12 ∨ k = 21 ∨ k = 22 ∨ k = 23)) → G 8 i k = g 8 i k) ∧ (∀ k, k < base → G 40 0 k = g 40 0 k) ∧ (∀ k, k ≠ c → G 39 0 k = g 39 0 k)
theorem zE.rf (base c : Nat) (g : ZG) : zE base c g g := ⟨fun _ _ _ _ _ => rfl, fun _ _ _ => rfl, fun _ _ => rfl, fun _ _ => rfl⟩
theorem zE.s {base c : Nat} {a b d : ZG} (h : zE base c a b) (k : zS base b d) : zE base c a d := ⟨fun f h1 h3 h4 h5 => (k.1 f h1 h4 h5).trans (h.1 f h1 h3 h4 h5), fun i j h1 => (k.2.1 i j h1).trans (h.2.1 i j h1), fun j hj => (k.2.2 j hj).trans (h.2.2.1 j hj), fun j hj => by rw [k.1 39 (by decide) (by decide) (by decide)]; exact h.2.2.2 j hj⟩
theorem zE.to {base c : Nat} {a b : ZG} (h : zE base c a b) (v : Int) : zE base c a (zup b 39 0 c v) := ⟨fun f h1 h3 h4 h5 => (zup_nf _ _ _ _ h3).trans (h.1 f h1 h3 h4 h5), fun i j h1 => by rw [zup_nf _ _ _ _ (by decide)]; exact h.2.1 i j h1, fun j hj => by rw [zup_nf _ _ _ _ (by decide)]; exact h.2.2.1 j hj, fun j hj => by rw [zup_nk _ _ _ _ _ _ hj]; exact h.2.2.2 j hj⟩
theorem zE.lk {base c : Nat} {g G : ZG} (h : zE base c g G) : lkm G = lkm g := by
  funext a; unfold lkm; rw [h.2.1 0 10 (by decide), h.1 34 (by decide) (by decide) (by decide) (by decide)]
theorem zE.fed {base c : Nat} {g G : ZG} (h : zE base c g G) (k : FED g) (ha : 0 ≤ G 8 0 11 ∧ G 8 0 11 ≤ 100) : FED G := by
  unfold FED; rw [h.2.1 0 10 (by decide), h.1 34 (by decide) (by decide) (by decide) (by decide)]; exact ⟨k.1, ha, k.2.2⟩
theorem MST.nf {base : Nat} {G : ZG} {s : MPS} (h : MST base G s) {f : Nat} (hf : f ≠ 8 ∧ f ≠ 40 ∧ f ≠ 41) (k : Nat) (v : Int) : MST base (zup G f 0 k v) s := ⟨by rw [zup_nf _ _ _ _ (Ne.symm hf.1)]; exact h.1, by rw [zup_nf _ _ _ _ (Ne.symm hf.1)]; exact h.2.1, fun i hi => by rw [zup_nf _ _ _ _ (Ne.symm hf.2.1)]; exact h.2.2.1 i hi, by rw [zup_nf _ _ _ _ (Ne.symm hf.1)]; exact h.2.2.2.1, WL.of (zup_nf _ _ _ _ (Ne.symm hf.2.2)) h.2.2.2.2.1, by rw [zup_nf _ _ _ _ (Ne.symm hf.1)]; exact h.2.2.2.2.2⟩
def xRun (lk : Int → Int) (N : Nat) (wants : Bool) (s : MPS) : Option (Bool × MPS) := match N with
  | 0 => none
  | N + 1 => match wants with
    | true => if lk s.1 = 33 ∨ lk s.1 = 40 then (if s.2.2.2 = 4 then some (false, s) else xRun lk N true (s.1 + 1, s.2.1, lk s.1 :: s.2.2.1, s.2.2.2 + 1)) else if (xTest lk s.1 s.2.1 s.2.2.1 s.2.2.2).1 = true then xRun lk N false (xTest lk s.1 s.2.1 s.2.2.1 s.2.2.2).2 else some (false, (xTest lk s.1 s.2.1 s.2.2.1 s.2.2.2).2)
    | false => if lk s.1 = 38 ∨ lk s.1 = 124 then xRun lk N true (s.1 + 1, (xSe (lk s.1) s.1 s.2.1 s.2.2.1 s.2.2.2).2.1, lk s.1 :: (xSe (lk s.1) s.1 s.2.1 s.2.2.1 s.2.2.2).2.2.1, s.2.2.2) else match (xSe 124 s.1 s.2.1 s.2.2.1 s.2.2.2).2.2.1 with
      | [] => some (true, xSe 124 s.1 s.2.1 s.2.2.1 s.2.2.2)
      | _ :: r => if lk s.1 = 41 then xRun lk N false (xWh (s.1 + 1) (xSe 124 s.1 s.2.1 s.2.2.1 s.2.2.2).2.1 r (s.2.2.2 - 1)) else some (false, xSe 124 s.1 s.2.1 s.2.2.1 s.2.2.2)
theorem xTest_XI {g : ZG} {a o : Int} {out w : List Int} (h : XI (a, out, w, o)) : XI (xTest (lkm g) a out w o).2 := by
  have h1 : 0 ≤ a ∧ a ≤ 100 := h.1
  have h2 : (out.length : Int) + w.length ≤ a := h.2
  unfold xTest
  by_cases c1 : xPl (lkm g a) < 0
  · rw [if_pos c1]; exact h
  · rw [if_neg c1]
    have l0 := lkm_lt (g := g) (a := a) (fun z => by rw [z] at c1; exact c1 (by decide))
    by_cases c2 : ¬ (60 ≤ lkm g (a + 1) ∧ lkm g (a + 1) ≤ 62)
    · rw [if_pos c2]; exact ⟨⟨by show 0 ≤ a + 1; omega, by show a + 1 ≤ 100; omega⟩, by show (out.length : Int) + w.length ≤ a + 1; omega⟩
    · rw [if_neg c2]
      have l1 := lkm_lt (g := g) (a := a + 1) (by omega)
      by_cases c3 : ¬ (48 ≤ lkm g (a + 2) ∧ lkm g (a + 2) ≤ 57)
      · rw [if_pos c3]; exact ⟨⟨by show 0 ≤ a + 2; omega, by show a + 2 ≤ 100; omega⟩, by show (out.length : Int) + w.length ≤ a + 2; omega⟩
      · rw [if_neg c3]
        have l2 := lkm_lt (g := g) (a := a + 2) (by omega)
        have hn := xNum_r (lk := lkm g) (fun b h => ⟨(lkm_lt (g := g) h).1, (lkm_lt (g := g) h).2.1⟩) (Classical.not_not.mp c3) ⟨by omega, by omega⟩
        refine (xWh_XI w _ _ o ⟨⟨?_, ?_⟩, ?_⟩).1
        · show 0 ≤ (xNum (lkm g) (a + 2)).2; omega
        · show (xNum (lkm g) (a + 2)).2 ≤ 100; omega
        · show (((out ++ [_]).length : Nat) : Int) + w.length ≤ (xNum (lkm g) (a + 2)).2
          rw [List.length_append]
          show ((out.length + 1 : Nat) : Int) + w.length ≤ _
          omega
/-- how many are open: between bounds -/
def OB (s : MPS) : Prop := s.2.2.2 ≤ 4 ∧ (s.2.2.1.length : Int) ≤ s.2.2.2 + s.1
theorem xWh_o : ∀ (w : List Int) (a : Int) (out : List Int) (o : Int), (xWh a out w o).2.2.2 = o - (w.length : Int) + (xWh a out w o).2.2.1.length := by
  intro w
  induction w with
  | nil => intro a out o; show o = o - ((0 : Nat) : Int) + ((0 : Nat) : Int); omega
  | cons x r ih =>
    intro a out o
    unfold xWh
    split
    · rw [ih]; show _ = o - ((r.length + 1 : Nat) : Int) + _; omega
    · show o = o - ((r.length + 1 : Nat) : Int) + ((r.length + 1 : Nat) : Int); omega
theorem xWh_l : ∀ (w : List Int) (a : Int) (out : List Int) (o : Int), (xWh a out w o).2.2.1.length ≤ w.length := by
  intro w
  induction w with
  | nil => intro a out o; exact Nat.le_refl _
  | cons x r ih =>
    intro a out o
    unfold xWh
    split
    · have := ih a (out ++ [-33]) (o - 1); show _ ≤ r.length + 1; omega
    · exact Nat.le_refl _
theorem xSe_l (c : Int) : ∀ (w : List Int) (a : Int) (out : List Int) (o : Int), (xSe c a out w o).2.2.1.length ≤ w.length := by
  intro w
  induction w with
  | nil => intro a out o; exact Nat.le_refl _
  | cons x r ih =>
    intro a out o
    unfold xSe
    split
    · have := ih a (out ++ [-x]) o; show _ ≤ r.length + 1; omega
    · exact Nat.le_refl _
theorem xWh_OB {a o : Int} {out w : List Int} (h : OB (a, out, w, o)) (hX : XI (a, out, w, o)) : OB (xWh a out w o) := by
  have h1 := xWh_o w a out o
  have h2 := xWh_l w a out o
  have h3 := (xWh_XI w a out o hX).2
  have h4 : o ≤ 4 := h.1
  have h5 : (w.length : Int) ≤ o + a := h.2
  exact ⟨by omega, by rw [h3]; omega⟩
theorem xTest_OB {g : ZG} {a o : Int} {out w : List Int} (h : OB (a, out, w, o)) (hX : XI (a, out, w, o)) : OB (xTest (lkm g) a out w o).2 := by
  have h4 : o ≤ 4 := h.1
  have h5 : (w.length : Int) ≤ o + a := h.2
  have hX1 : 0 ≤ a ∧ a ≤ 100 := hX.1
  have hX2 : (out.length : Int) + w.length ≤ a := hX.2
  unfold xTest
  by_cases c1 : xPl (lkm g a) < 0
  · rw [if_pos c1]; exact h
  · rw [if_neg c1]
    have l0 := lkm_lt (g := g) (a := a) (fun z => by rw [z] at c1; exact c1 (by decide))
    by_cases c2 : ¬ (60 ≤ lkm g (a + 1) ∧ lkm g (a + 1) ≤ 62)
    · rw [if_pos c2]; exact ⟨h4, by show (w.length : Int) ≤ o + (a + 1); omega⟩
    · rw [if_neg c2]
      have l1 := lkm_lt (g := g) (a := a + 1) (by omega)
      by_cases c3 : ¬ (48 ≤ lkm g (a + 2) ∧ lkm g (a + 2) ≤ 57)
      · rw [if_pos c3]; exact ⟨h4, by show (w.length : Int) ≤ o + (a + 2); omega⟩
      · rw [if_neg c3]
        have l2 := lkm_lt (g := g) (a := a + 2) (by omega)
        have hn := xNum_r (lk := lkm g) (fun b h => ⟨(lkm_lt (g := g) h).1, (lkm_lt (g := g) h).2.1⟩) (Classical.not_not.mp c3) ⟨by omega, by omega⟩
        refine xWh_OB ⟨h4, by show (w.length : Int) ≤ o + (xNum (lkm g) (a + 2)).2; omega⟩ ⟨⟨?_, ?_⟩, ?_⟩
        · show 0 ≤ (xNum (lkm g) (a + 2)).2; omega
        · show (xNum (lkm g) (a + 2)).2 ≤ 100; omega
        · show (((out ++ [_]).length : Nat) : Int) + w.length ≤ (xNum (lkm g) (a + 2)).2
          rw [List.length_append]
          show ((out.length + 1 : Nat) : Int) + w.length ≤ _
          omega
set_option maxHeartbeats 8000000 in
theorem l_X8_takesE {Y : ZW} {Q : Option ZV → ZG → Prop} {g : ZG} {base c : Nat} (hb : base ≤ 500) (hc60 : c < 60) (hf : FED g) : ∀ (N : Nat) (wants : Bool) (s : MPS) (res : Bool × MPS) (z3 : ZV) (G : ZG), (∀ y, z3 ≠ ZJ y) → MST base G s → XI s → xRun (lkm g) N wants s = some res → zE base c g G → OB s → (∀ M, MST base M res.2 → zE base c g M → (res.1 = true → M 39 0 c = (base : Int) + res.2.2.1.length) → Q (some (ZI (if res.1 = true then 1 else 0))) M) → ZVV Y mX8_takesE (zcx Y 5 Q) 22 [ZR 8 0, ZI (c : Int), ZI (if wants = true then 1 else 0), z3] [] G := by
  intro N
  induction N with
  | zero => intro wants s res z3 G _ _ _ hres; cases wants <;> cases hres
  | succ N ih =>
    intro wants s res z3 G hz3 hM hX hres hE hO hq
    have hX1 := hX.1
    have hX2 := hX.2
    have hO1 := hO.1
    have hO2 := hO.2
    have h22 : G 8 0 22 = s.2.2.1.length := hM.2.2.2.1
    have h11 : G 8 0 11 = s.1 := hM.1
    cases wants with
    | true =>
      show ZVV _ _ _ 22 [ZR 8 0, ZI (c : Int), ZI 1, z3] [] G
      refine zs_aload_n (j := 0) (i := 0) rfl rfl rfl ?_
      refine zs_callV (host := "") rfl kX8_189 vX8_next c_X8_next [] [] rfl (zroom_of (by omega)) rfl (Nat.le_of_ble_eq_true rfl) ⟨rfl, hE.fed hf (by rw [hM.1]; exact hX.1)⟩ (fun r_23 g_23 hq_23 => ?_)
      obtain ⟨hr_23, hg_23⟩ := hq_23
      rw [hr_23, hg_23, hE.lk, hM.1]
      show ZVV _ _ _ 26 _ [ZI (lkm g s.1)] G
      refine zs_istore_n (j := 3) (i := 3) rfl rfl (by decide) (by intro r x hr; have hr2 : r = 2 := (by omega); subst hr2; intro z; cases z) ?_
      show ZVV _ _ _ _ [ZR 8 0, ZI (c : Int), ZI 1, ZI (lkm g s.1)] _ _
      refine zs_iload_n (j := 2) (i := 2) rfl rfl rfl ?_
      refine zs_if_eq 110 rfl (by omega) (fun hc_28 => ?_) (fun hc_28 => ?_)
      · exfalso; omega
      · refine zs_iload_n (j := 3) (i := 3) rfl rfl rfl ?_
        refine zs_bipush (n := 33) rfl ⟨by omega, by omega⟩ ?_
        refine zs_icmp_eq 43 rfl (by omega) (fun hc_34 => ?_) (fun hc_34 => ?_)
        · refine zs_aload_n (j := 0) (i := 0) rfl rfl rfl ?_
          refine zs_getfield (f := 8) (k := 23) rfl rfl (trivial) ?_
          show ZVV _ _ _ _ _ (ZI (G 8 0 23) :: _) _
          rw [show G 8 0 23 = s.2.2.2 from hM.2.2.2.2.2]
          refine zs_iconst (n := 4) rfl ⟨by omega, by omega⟩ ?_
          refine zs_icmp_ne 53 rfl (by omega) (fun hc_48 => ?_) (fun hc_48 => ?_)
          · refine zs_aload_n (j := 0) (i := 0) rfl rfl rfl ?_
            refine zs_dup rfl (by intro x z; cases z) ?_
            refine zs_getfield (f := 8) (k := 23) rfl rfl (trivial) ?_
            show ZVV _ _ _ _ _ (ZI (G 8 0 23) :: _) _
            rw [show G 8 0 23 = s.2.2.2 from hM.2.2.2.2.2]
            refine zs_iconst (n := 1) rfl ⟨by omega, by omega⟩ ?_
            refine zs_iadd_r rfl ⟨by omega, by omega⟩ ?_
            refine zs_putfield (f := 8) (k := 23) (x := s.2.2.2 + 1) rfl rfl (rfl) ?_
            refine zs_aload_n (j := 0) (i := 0) rfl rfl rfl ?_
            show ZVV _ _ _ 64 _ _ _
            refine zs_getfield (f := 8) (k := 20) rfl rfl (trivial) ?_
            show ZVV _ _ _ _ _ (ZR 41 0 :: _) _
            refine zs_aload_n (j := 0) (i := 0) rfl rfl rfl ?_
            refine zs_getfield (f := 8) (k := 22) rfl rfl (trivial) ?_
            show ZVV _ _ _ _ _ (ZI (G 8 0 22) :: _) _
            refine zs_iload_n (j := 3) (i := 3) rfl rfl rfl ?_
            refine zs_iast (n := 101) rfl rfl (by omega) (by omega) ?_
            refine zs_aload_n (j := 0) (i := 0) rfl rfl rfl ?_
            refine zs_dup rfl (by intro x z; cases z) ?_
            refine zs_getfield (f := 8) (k := 22) rfl rfl (trivial) ?_
            show ZVV _ _ _ _ _ (ZI (G 8 0 22) :: _) _
            show ZVV _ _ _ 78 _ _ _
            refine zs_iconst (n := 1) rfl ⟨by omega, by omega⟩ ?_
            refine zs_iadd_r rfl ⟨by omega, by omega⟩ ?_
            refine zs_putfield (f := 8) (k := 22) (x := (G 8 0 22) + 1) rfl rfl (rfl) ?_
            refine zs_aload_n (j := 0) (i := 0) rfl rfl rfl ?_
            refine zs_dup rfl (by intro x z; cases z) ?_
            refine zs_getfield (f := 8) (k := 11) rfl rfl (trivial) ?_
            show ZVV _ _ _ _ _ (ZI (G 8 0 11) :: _) _
            refine zs_iconst (n := 1) rfl ⟨by omega, by omega⟩ ?_
            refine zs_iadd_r rfl ⟨by omega, by omega⟩ ?_
            show ZVV _ _ _ 90 _ _ _
            refine zs_putfield (f := 8) (k := 11) (x := (G 8 0 11) + 1) rfl rfl (rfl) ?_
            refine zs_goto 22 rfl (by omega) ?_
            have hMp : MST base _ (s.1 + 1, s.2.1, lkm g s.1 :: s.2.2.1, s.2.2.2 + 1) := ((MST.op (a := s.1) (out := s.2.1) (w := s.2.2.1) (o := s.2.2.2) hM (s.2.2.2 + 1)).push (lkm g s.1)).at (s.1 + 1)
            have e22 : (zup G 8 0 23 (s.2.2.2 + 1)) 8 0 22 = G 8 0 22 := zup_nk _ _ _ _ _ _ (by decide)
            rw [e22] at hMp
            have e11 : G 8 0 11 = s.1 := hM.1
            rw [e11]
            have hl := lkm_lt (g := g) (a := s.1) (by omega)
            refine ih true (s.1 + 1, s.2.1, lkm g s.1 :: s.2.2.1, s.2.2.2 + 1) res _ _ (by intro y h; cases h) hMp ⟨⟨by show 0 ≤ s.1 + 1; omega, by show s.1 + 1 ≤ 100; omega⟩, by have := hX.2; show (s.2.1.length : Int) + ((s.2.2.1.length + 1 : Nat) : Int) ≤ s.1 + 1; omega⟩ ?_ ((((hE.s (zS.up8 base _ (by decide) _)).s (zS.up41 base _ _ _)).s (zS.up8 base _ (by decide) _)).s (zS.up8 base _ (by decide) _)) ⟨by show s.2.2.2 + 1 ≤ 4; omega, by show ((s.2.2.1.length + 1 : Nat) : Int) ≤ s.2.2.2 + 1 + (s.1 + 1); omega⟩ hq
            have hx := hres
            rw [show xRun (lkm g) (N + 1) true s = xRun (lkm g) N true (s.1 + 1, s.2.1, lkm g s.1 :: s.2.2.1, s.2.2.2 + 1) from (if_pos (by omega)).trans (if_neg (by omega))] at hx
            exact hx
          · refine zs_iconst (n := 0) rfl ⟨by omega, by omega⟩ ?_
            exact zs_zreturn rfl rfl (by omega) (by
        have hx := hres
        rw [show xRun (lkm g) (N + 1) true s = some (false, s) from (if_pos (by omega)).trans (if_pos (by omega))] at hx
        have he := Option.some.inj hx
        subst he
        exact hq G hM hE (fun z => by cases z))
        · refine zs_iload_n (j := 3) (i := 3) rfl rfl rfl ?_
          refine zs_bipush (n := 40) rfl ⟨by omega, by omega⟩ ?_
          refine zs_icmp_ne 96 rfl (by omega) (fun hc_40 => ?_) (fun hc_40 => ?_)
          · refine zs_aload_n (j := 0) (i := 0) rfl rfl rfl ?_
            refine zs_callV (host := "") rfl kX8_213 vX8_takesTest (c_X8_takesTest base s.1 s.2.1 s.2.2.1 s.2.2.2) [] [] rfl (zroom_of (by omega)) rfl (Nat.le_of_ble_eq_true rfl) ⟨rfl, hb, hM, hX, hE.fed hf (by rw [hM.1]; exact hX.1), by omega, by omega⟩ (fun r_97 g_97 hq_97 => ?_)
            obtain ⟨hr_97, hM_97, hS_97⟩ := hq_97
            rw [hE.lk] at hr_97 hM_97
            rw [hr_97]
            show ZVV _ _ _ 100 _ [ZI (if (xTest (lkm g) s.1 s.2.1 s.2.2.1 s.2.2.2).1 = true then 1 else 0)] g_97
            refine zs_if_eq 108 rfl (by omega) (fun hc_100 => ?_) (fun hc_100 => ?_)
            · refine zs_iconst (n := 0) rfl ⟨by omega, by omega⟩ ?_
              exact zs_zreturn rfl rfl (by omega) (by
        have hx := hres
        rw [show xRun (lkm g) (N + 1) true s = some (false, (xTest (lkm g) s.1 s.2.1 s.2.2.1 s.2.2.2).2) from (if_neg (by omega)).trans (if_neg (zif0 hc_100))] at hx
        have he := Option.some.inj hx
        subst he
        exact hq g_97 hM_97 (hE.s hS_97) (fun z => by cases z))
            · refine zs_iconst (n := 0) rfl ⟨by omega, by omega⟩ ?_
              refine zs_istore_n (j := 2) (i := 2) rfl rfl (by decide) (by intro r x hr; have hr2 : r = 1 := (by omega); subst hr2; intro z; cases z) ?_
              show ZVV _ _ _ _ [ZR 8 0, ZI (c : Int), ZI 0, ZI (lkm g s.1)] _ _
              refine zs_goto 22 rfl (by omega) ?_
              have hx := hres
              rw [show xRun (lkm g) (N + 1) true s = xRun (lkm g) N false (xTest (lkm g) s.1 s.2.1 s.2.2.1 s.2.2.2).2 from (if_neg (by omega)).trans (if_pos (zif1 hc_100))] at hx
              exact ih false _ res _ _ (by intro y h; cases h) hM_97 (xTest_XI (g := g) (a := s.1) (out := s.2.1) (w := s.2.2.1) (o := s.2.2.2) hX) hx (hE.s hS_97) (xTest_OB (g := g) (a := s.1) (out := s.2.1) (w := s.2.2.1) (o := s.2.2.2) hO hX) hq
          · refine zs_aload_n (j := 0) (i := 0) rfl rfl rfl ?_
            refine zs_getfield (f := 8) (k := 23) rfl rfl (trivial) ?_
            show ZVV _ _ _ _ _ (ZI (G 8 0 23) :: _) _
            rw [show G 8 0 23 = s.2.2.2 from hM.2.2.2.2.2]
            refine zs_iconst (n := 4) rfl ⟨by omega, by omega⟩ ?_
            refine zs_icmp_ne 53 rfl (by omega) (fun hc_48 => ?_) (fun hc_48 => ?_)
            · refine zs_aload_n (j := 0) (i := 0) rfl rfl rfl ?_
              refine zs_dup rfl (by intro x z; cases z) ?_
              refine zs_getfield (f := 8) (k := 23) rfl rfl (trivial) ?_
              show ZVV _ _ _ _ _ (ZI (G 8 0 23) :: _) _
              rw [show G 8 0 23 = s.2.2.2 from hM.2.2.2.2.2]
              refine zs_iconst (n := 1) rfl ⟨by omega, by omega⟩ ?_
              refine zs_iadd_r rfl ⟨by omega, by omega⟩ ?_
              refine zs_putfield (f := 8) (k := 23) (x := s.2.2.2 + 1) rfl rfl (rfl) ?_
              refine zs_aload_n (j := 0) (i := 0) rfl rfl rfl ?_
              show ZVV _ _ _ 64 _ _ _
              refine zs_getfield (f := 8) (k := 20) rfl rfl (trivial) ?_
              show ZVV _ _ _ _ _ (ZR 41 0 :: _) _
              refine zs_aload_n (j := 0) (i := 0) rfl rfl rfl ?_
              refine zs_getfield (f := 8) (k := 22) rfl rfl (trivial) ?_
              show ZVV _ _ _ _ _ (ZI (G 8 0 22) :: _) _
              refine zs_iload_n (j := 3) (i := 3) rfl rfl rfl ?_
              refine zs_iast (n := 101) rfl rfl (by omega) (by omega) ?_
              refine zs_aload_n (j := 0) (i := 0) rfl rfl rfl ?_
              refine zs_dup rfl (by intro x z; cases z) ?_
              refine zs_getfield (f := 8) (k := 22) rfl rfl (trivial) ?_
              show ZVV _ _ _ _ _ (ZI (G 8 0 22) :: _) _
              show ZVV _ _ _ 78 _ _ _
              refine zs_iconst (n := 1) rfl ⟨by omega, by omega⟩ ?_
              refine zs_iadd_r rfl ⟨by omega, by omega⟩ ?_
              refine zs_putfield (f := 8) (k := 22) (x := (G 8 0 22) + 1) rfl rfl (rfl) ?_
              refine zs_aload_n (j := 0) (i := 0) rfl rfl rfl ?_
              refine zs_dup rfl (by intro x z; cases z) ?_
              refine zs_getfield (f := 8) (k := 11) rfl rfl (trivial) ?_
              show ZVV _ _ _ _ _ (ZI (G 8 0 11) :: _) _
              refine zs_iconst (n := 1) rfl ⟨by omega, by omega⟩ ?_
              refine zs_iadd_r rfl ⟨by omega, by omega⟩ ?_
              show ZVV _ _ _ 90 _ _ _
              refine zs_putfield (f := 8) (k := 11) (x := (G 8 0 11) + 1) rfl rfl (rfl) ?_
              refine zs_goto 22 rfl (by omega) ?_
              have hMp : MST base _ (s.1 + 1, s.2.1, lkm g s.1 :: s.2.2.1, s.2.2.2 + 1) := ((MST.op (a := s.1) (out := s.2.1) (w := s.2.2.1) (o := s.2.2.2) hM (s.2.2.2 + 1)).push (lkm g s.1)).at (s.1 + 1)
              have e22 : (zup G 8 0 23 (s.2.2.2 + 1)) 8 0 22 = G 8 0 22 := zup_nk _ _ _ _ _ _ (by decide)
              rw [e22] at hMp
              have e11 : G 8 0 11 = s.1 := hM.1
              rw [e11]
              have hl := lkm_lt (g := g) (a := s.1) (by omega)
              refine ih true (s.1 + 1, s.2.1, lkm g s.1 :: s.2.2.1, s.2.2.2 + 1) res _ _ (by intro y h; cases h) hMp ⟨⟨by show 0 ≤ s.1 + 1; omega, by show s.1 + 1 ≤ 100; omega⟩, by have := hX.2; show (s.2.1.length : Int) + ((s.2.2.1.length + 1 : Nat) : Int) ≤ s.1 + 1; omega⟩ ?_ ((((hE.s (zS.up8 base _ (by decide) _)).s (zS.up41 base _ _ _)).s (zS.up8 base _ (by decide) _)).s (zS.up8 base _ (by decide) _)) ⟨by show s.2.2.2 + 1 ≤ 4; omega, by show ((s.2.2.1.length + 1 : Nat) : Int) ≤ s.2.2.2 + 1 + (s.1 + 1); omega⟩ hq
              have hx := hres
              rw [show xRun (lkm g) (N + 1) true s = xRun (lkm g) N true (s.1 + 1, s.2.1, lkm g s.1 :: s.2.2.1, s.2.2.2 + 1) from (if_pos (by omega)).trans (if_neg (by omega))] at hx
              exact hx
            · refine zs_iconst (n := 0) rfl ⟨by omega, by omega⟩ ?_
              exact zs_zreturn rfl rfl (by omega) (by
        have hx := hres
        rw [show xRun (lkm g) (N + 1) true s = some (false, s) from (if_pos (by omega)).trans (if_pos (by omega))] at hx
        have he := Option.some.inj hx
        subst he
        exact hq G hM hE (fun z => by cases z))
    | false =>
      show ZVV _ _ _ 22 [ZR 8 0, ZI (c : Int), ZI 0, z3] [] G
      refine zs_aload_n (j := 0) (i := 0) rfl rfl rfl ?_
      refine zs_callV (host := "") rfl kX8_189 vX8_next c_X8_next [] [] rfl (zroom_of (by omega)) rfl (Nat.le_of_ble_eq_true rfl) ⟨rfl, hE.fed hf (by rw [hM.1]; exact hX.1)⟩ (fun r_23 g_23 hq_23 => ?_)
      obtain ⟨hr_23, hg_23⟩ := hq_23
      rw [hr_23, hg_23, hE.lk, hM.1]
      show ZVV _ _ _ 26 _ [ZI (lkm g s.1)] G
      refine zs_istore_n (j := 3) (i := 3) rfl rfl (by decide) (by intro r x hr; have hr2 : r = 2 := (by omega); subst hr2; intro z; cases z) ?_
      show ZVV _ _ _ _ [ZR 8 0, ZI (c : Int), ZI 0, ZI (lkm g s.1)] _ _
      refine zs_iload_n (j := 2) (i := 2) rfl rfl rfl ?_
      refine zs_if_eq 110 rfl (by omega) (fun hc_28 => ?_) (fun hc_28 => ?_)
      · refine zs_iload_n (j := 3) (i := 3) rfl rfl rfl ?_
        refine zs_bipush (n := 38) rfl ⟨by omega, by omega⟩ ?_
        refine zs_icmp_eq 122 rfl (by omega) (fun hc_113 => ?_) (fun hc_113 => ?_)
        · refine zs_aload_n (j := 0) (i := 0) rfl rfl rfl ?_
          refine zs_iload_n (j := 3) (i := 3) rfl rfl rfl ?_
          refine zs_callV (host := "") rfl kX8_216 vX8_settle (c_X8_settle (lkm g s.1) base s.1 s.2.1 s.2.2.1 s.2.2.2) [ZI (lkm g s.1)] [] rfl (zroom_of (by omega)) rfl (Nat.le_of_ble_eq_true rfl) ⟨rfl, hb, hM, hX⟩ (fun r_124 g_124 hq_124 => ?_)
          obtain ⟨hr_124, hM_124, hS_124⟩ := hq_124
          rw [hr_124]
          have hXS := xSe_XI (lkm g s.1) s.2.2.1 s.1 s.2.1 s.2.2.2 hX
          have hXL := xSe_l (lkm g s.1) s.2.2.1 s.1 s.2.1 s.2.2.2
          have hE_124 := hE.s hS_124
          have h21_124 : g_124 8 0 21 = (base : Int) + (xSe (lkm g s.1) s.1 s.2.1 s.2.2.1 s.2.2.2).2.1.length := hM_124.2.1
          have h22_124 : g_124 8 0 22 = (xSe (lkm g s.1) s.1 s.2.1 s.2.2.1 s.2.2.2).2.2.1.length := hM_124.2.2.2.1
          have h23_124 : g_124 8 0 23 = s.2.2.2 := hM_124.2.2.2.2.2.trans hXS.2.2
          have h11_124 : g_124 8 0 11 = s.1 := hM_124.1.trans hXS.2.1
          have hX1 := hXS.1.2
          rw [hXS.2.1] at hX1
          show ZVV _ _ _ 127 _ [] g_124
          refine zs_aload_n (j := 0) (i := 0) rfl rfl rfl ?_
          refine zs_getfield (f := 8) (k := 20) rfl rfl (trivial) ?_
          show ZVV _ _ _ _ _ (ZR 41 0 :: _) _
          refine zs_aload_n (j := 0) (i := 0) rfl rfl rfl ?_
          refine zs_getfield (f := 8) (k := 22) rfl rfl (trivial) ?_
          show ZVV _ _ _ _ _ (ZI (g_124 8 0 22) :: _) _
          show ZVV _ _ _ 135 _ _ _
          refine zs_iload_n (j := 3) (i := 3) rfl rfl rfl ?_
          refine zs_iast (n := 101) rfl rfl (by omega) (by omega) ?_
          refine zs_aload_n (j := 0) (i := 0) rfl rfl rfl ?_
          refine zs_dup rfl (by intro x z; cases z) ?_
          refine zs_getfield (f := 8) (k := 22) rfl rfl (trivial) ?_
          show ZVV _ _ _ _ _ (ZI (g_124 8 0 22) :: _) _
          refine zs_iconst (n := 1) rfl ⟨by omega, by omega⟩ ?_
          refine zs_iadd_r rfl ⟨by omega, by omega⟩ ?_
          refine zs_putfield (f := 8) (k := 22) (x := (g_124 8 0 22) + 1) rfl rfl (rfl) ?_
          show ZVV _ _ _ 147 _ _ _
          refine zs_iconst (n := 1) rfl ⟨by omega, by omega⟩ ?_
          refine zs_istore_n (j := 2) (i := 2) rfl rfl (by decide) (by intro r x hr; have hr2 : r = 1 := (by omega); subst hr2; intro z; cases z) ?_
          show ZVV _ _ _ _ [ZR 8 0, ZI (c : Int), ZI 1, ZI (lkm g s.1)] _ _
          refine zs_aload_n (j := 0) (i := 0) rfl rfl rfl ?_
          refine zs_dup rfl (by intro x z; cases z) ?_
          refine zs_getfield (f := 8) (k := 11) rfl rfl (trivial) ?_
          show ZVV _ _ _ _ _ (ZI (g_124 8 0 11) :: _) _
          refine zs_iconst (n := 1) rfl ⟨by omega, by omega⟩ ?_
          refine zs_iadd_r rfl ⟨by omega, by omega⟩ ?_
          refine zs_putfield (f := 8) (k := 11) (x := (g_124 8 0 11) + 1) rfl rfl (rfl) ?_
          show ZVV _ _ _ 159 _ _ _
          refine zs_goto 22 rfl (by omega) ?_
          rw [h11_124]
          have hl := lkm_lt (g := g) (a := s.1) (by omega)
          have hMp : MST base _ (s.1 + 1, (xSe (lkm g s.1) s.1 s.2.1 s.2.2.1 s.2.2.2).2.1, lkm g s.1 :: (xSe (lkm g s.1) s.1 s.2.1 s.2.2.1 s.2.2.2).2.2.1, (xSe (lkm g s.1) s.1 s.2.1 s.2.2.1 s.2.2.2).2.2.2) := (MST.push (a := (xSe (lkm g s.1) s.1 s.2.1 s.2.2.1 s.2.2.2).1) (out := (xSe (lkm g s.1) s.1 s.2.1 s.2.2.1 s.2.2.2).2.1) (w := (xSe (lkm g s.1) s.1 s.2.1 s.2.2.1 s.2.2.2).2.2.1) (o := (xSe (lkm g s.1) s.1 s.2.1 s.2.2.1 s.2.2.2).2.2.2) hM_124 (lkm g s.1)).at (s.1 + 1)
          rw [hXS.2.2] at hMp
          refine ih true (s.1 + 1, (xSe (lkm g s.1) s.1 s.2.1 s.2.2.1 s.2.2.2).2.1, lkm g s.1 :: (xSe (lkm g s.1) s.1 s.2.1 s.2.2.1 s.2.2.2).2.2.1, s.2.2.2) res _ _ (by intro y h; cases h) hMp ⟨⟨by show 0 ≤ s.1 + 1; omega, by show s.1 + 1 ≤ 100; omega⟩, by show ((xSe (lkm g s.1) s.1 s.2.1 s.2.2.1 s.2.2.2).2.1.length : Int) + (((xSe (lkm g s.1) s.1 s.2.1 s.2.2.1 s.2.2.2).2.2.1.length + 1 : Nat) : Int) ≤ s.1 + 1; omega⟩ ?_ (((hE_124.s (zS.up41 base _ _ _)).s (zS.up8 base _ (by decide) _)).s (zS.up8 base _ (by decide) _)) ⟨by show s.2.2.2 ≤ 4; omega, by show (((xSe (lkm g s.1) s.1 s.2.1 s.2.2.1 s.2.2.2).2.2.1.length + 1 : Nat) : Int) ≤ s.2.2.2 + (s.1 + 1); omega⟩ hq
          have hx := hres
          rw [show xRun (lkm g) (N + 1) false s = xRun (lkm g) N true (s.1 + 1, (xSe (lkm g s.1) s.1 s.2.1 s.2.2.1 s.2.2.2).2.1, lkm g s.1 :: (xSe (lkm g s.1) s.1 s.2.1 s.2.2.1 s.2.2.2).2.2.1, s.2.2.2) from if_pos (by omega)] at hx
          exact hx
        · refine zs_iload_n (j := 3) (i := 3) rfl rfl rfl ?_
          refine zs_bipush (n := 124) rfl ⟨by omega, by omega⟩ ?_
          refine zs_icmp_ne 162 rfl (by omega) (fun hc_119 => ?_) (fun hc_119 => ?_)
          · refine zs_aload_n (j := 0) (i := 0) rfl rfl rfl ?_
            refine zs_bipush (n := 124) rfl ⟨by omega, by omega⟩ ?_
            refine zs_callV (host := "") rfl kX8_216 vX8_settle (c_X8_settle 124 base s.1 s.2.1 s.2.2.1 s.2.2.2) [ZI 124] [] rfl (zroom_of (by omega)) rfl (Nat.le_of_ble_eq_true rfl) ⟨rfl, hb, hM, hX⟩ (fun r_165 g_165 hq_165 => ?_)
            obtain ⟨hr_165, hM_165, hS_165⟩ := hq_165
            rw [hr_165]
            have hXS := xSe_XI 124 s.2.2.1 s.1 s.2.1 s.2.2.2 hX
            have hXL := xSe_l 124 s.2.2.1 s.1 s.2.1 s.2.2.2
            have hE_165 := hE.s hS_165
            have h21_165 : g_165 8 0 21 = (base : Int) + (xSe 124 s.1 s.2.1 s.2.2.1 s.2.2.2).2.1.length := hM_165.2.1
            have h22_165 : g_165 8 0 22 = (xSe 124 s.1 s.2.1 s.2.2.1 s.2.2.2).2.2.1.length := hM_165.2.2.2.1
            have h23_165 : g_165 8 0 23 = s.2.2.2 := hM_165.2.2.2.2.2.trans hXS.2.2
            have h11_165 : g_165 8 0 11 = s.1 := hM_165.1.trans hXS.2.1
            have hX1 := hXS.1.2
            rw [hXS.2.1] at hX1
            show ZVV _ _ _ 168 _ [] g_165
            refine zs_aload_n (j := 0) (i := 0) rfl rfl rfl ?_
            refine zs_getfield (f := 8) (k := 18) rfl rfl (trivial) ?_
            show ZVV _ _ _ _ _ (ZR 39 0 :: _) _
            refine zs_iload_n (j := 1) (i := 1) rfl rfl rfl ?_
            refine zs_aload_n (j := 0) (i := 0) rfl rfl rfl ?_
            show ZVV _ _ _ 174 _ _ _
            refine zs_getfield (f := 8) (k := 21) rfl rfl (trivial) ?_
            show ZVV _ _ _ _ _ (ZI (g_165 8 0 21) :: _) _
            refine zs_iast (n := 60) rfl rfl (by omega) (by omega) ?_
            show ZVV _ _ _ _ _ _ (zup g_165 39 0 c (g_165 8 0 21))
            refine zs_aload_n (j := 0) (i := 0) rfl rfl rfl ?_
            refine zs_getfield (f := 8) (k := 22) rfl rfl (trivial) ?_
            show ZVV _ _ _ _ _ (ZI (g_165 8 0 22) :: _) _
            have hrun0 : xRun (lkm g) (N + 1) false s = (match (xSe 124 s.1 s.2.1 s.2.2.1 s.2.2.2).2.2.1 with
              | [] => some (true, (xSe 124 s.1 s.2.1 s.2.2.1 s.2.2.2))
              | _ :: r => if lkm g s.1 = 41 then xRun (lkm g) N false (xWh (s.1 + 1) (xSe 124 s.1 s.2.1 s.2.2.1 s.2.2.2).2.1 r (s.2.2.2 - 1)) else some (false, (xSe 124 s.1 s.2.1 s.2.2.1 s.2.2.2))) := if_neg (by omega)
            have e21 : (zup g_165 39 0 c (g_165 8 0 21)) 8 0 22 = (xSe 124 s.1 s.2.1 s.2.2.1 s.2.2.2).2.2.1.length := by rw [zup_nf _ _ _ _ (by decide)]; exact h22_165
            refine zs_if_ne 187 rfl (by omega) (fun hc_182 => ?_) (fun hc_182 => ?_)
            · refine zs_iload_n (j := 3) (i := 3) rfl rfl rfl ?_
              refine zs_bipush (n := 41) rfl ⟨by omega, by omega⟩ ?_
              refine zs_icmp_eq 195 rfl (by omega) (fun hc_190 => ?_) (fun hc_190 => ?_)
              · obtain ⟨xx, rr, hw⟩ : ∃ xx rr, (xSe 124 s.1 s.2.1 s.2.2.1 s.2.2.2).2.2.1 = xx :: rr := by
                  cases hw9 : (xSe 124 s.1 s.2.1 s.2.2.1 s.2.2.2).2.2.1 with
                  | nil => rw [hw9] at h22_165; exact absurd h22_165 hc_182
                  | cons xx rr => exact ⟨xx, rr, rfl⟩
                have hrun : xRun (lkm g) (N + 1) false s = if lkm g s.1 = 41 then xRun (lkm g) N false (xWh (s.1 + 1) (xSe 124 s.1 s.2.1 s.2.2.1 s.2.2.2).2.1 rr (s.2.2.2 - 1)) else some (false, (xSe 124 s.1 s.2.1 s.2.2.1 s.2.2.2)) := by rw [hrun0, hw]
                have hl := lkm_lt (g := g) (a := s.1) (by omega)
                have hlw : (xSe 124 s.1 s.2.1 s.2.2.1 s.2.2.2).2.2.1.length = rr.length + 1 := by rw [hw]; rfl
                have hMt : MST base (zup g_165 39 0 c (g_165 8 0 21)) ((xSe 124 s.1 s.2.1 s.2.2.1 s.2.2.2).1, (xSe 124 s.1 s.2.1 s.2.2.1 s.2.2.2).2.1, xx :: rr, (xSe 124 s.1 s.2.1 s.2.2.1 s.2.2.2).2.2.2) := by rw [← hw]; exact MST.nf hM_165 ⟨by decide, by decide, by decide⟩ _ _
                have hMw := ((hMt.pop).op (s.2.2.2 - 1)).at (s.1 + 1)
                have hEw : zE base c g _ := (((hE_165.to (g_165 8 0 21)).s (zS.up8 base _ (k := 22) (by decide) ((zup g_165 39 0 c (g_165 8 0 21)) 8 0 22 - 1))).s (zS.up8 base _ (k := 23) (by decide) (s.2.2.2 - 1))).s (zS.up8 base _ (k := 11) (by decide) (s.1 + 1))
                have hXw : XI (s.1 + 1, (xSe 124 s.1 s.2.1 s.2.2.1 s.2.2.2).2.1, rr, s.2.2.2 - 1) := ⟨⟨by show 0 ≤ s.1 + 1; omega, by show s.1 + 1 ≤ 100; omega⟩, by show ((xSe 124 s.1 s.2.1 s.2.2.1 s.2.2.2).2.1.length : Int) + (rr.length : Nat) ≤ s.1 + 1; omega⟩
                have hOw : OB (s.1 + 1, (xSe 124 s.1 s.2.1 s.2.2.1 s.2.2.2).2.1, rr, s.2.2.2 - 1) := ⟨by show s.2.2.2 - 1 ≤ 4; omega, by show ((rr.length : Nat) : Int) ≤ s.2.2.2 - 1 + (s.1 + 1); omega⟩
                refine zs_aload_n (j := 0) (i := 0) rfl rfl rfl ?_
                refine zs_dup rfl (by intro x z; cases z) ?_
                refine zs_getfield (f := 8) (k := 22) rfl rfl (trivial) ?_
                show ZVV _ _ _ _ _ (ZI (g_165 8 0 22) :: _) _
                refine zs_iconst (n := 1) rfl ⟨by omega, by omega⟩ ?_
                refine zs_isub_r rfl ⟨by omega, by omega⟩ ?_
                refine zs_putfield (f := 8) (k := 22) (x := (g_165 8 0 22) - 1) rfl rfl (rfl) ?_
                refine zs_aload_n (j := 0) (i := 0) rfl rfl rfl ?_
                show ZVV _ _ _ 206 _ _ _
                refine zs_dup rfl (by intro x z; cases z) ?_
                refine zs_getfield (f := 8) (k := 23) rfl rfl (trivial) ?_
                show ZVV _ _ _ _ _ (ZI (g_165 8 0 23) :: _) _
                refine zs_iconst (n := 1) rfl ⟨by omega, by omega⟩ ?_
                refine zs_isub_r rfl ⟨by omega, by omega⟩ ?_
                refine zs_putfield (f := 8) (k := 23) (x := (g_165 8 0 23) - 1) rfl rfl (rfl) ?_
                refine zs_aload_n (j := 0) (i := 0) rfl rfl rfl ?_
                refine zs_dup rfl (by intro x z; cases z) ?_
                refine zs_getfield (f := 8) (k := 11) rfl rfl (trivial) ?_
                show ZVV _ _ _ _ _ (ZI (g_165 8 0 11) :: _) _
                show ZVV _ _ _ 220 _ _ _
                refine zs_iconst (n := 1) rfl ⟨by omega, by omega⟩ ?_
                refine zs_iadd_r rfl ⟨by omega, by omega⟩ ?_
                refine zs_putfield (f := 8) (k := 11) (x := (g_165 8 0 11) + 1) rfl rfl (rfl) ?_
                rw [h23_165, h11_165]
                refine zs_aload_n (j := 0) (i := 0) rfl rfl rfl ?_
                refine zs_callV (host := "") rfl kX8_210 vX8_whole (c_X8_whole base (s.1 + 1) (xSe 124 s.1 s.2.1 s.2.2.1 s.2.2.2).2.1 rr (s.2.2.2 - 1)) [] [] rfl (zroom_of (by omega)) rfl (Nat.le_of_ble_eq_true rfl) ⟨rfl, hb, hMw, hXw, by omega⟩ (fun r_226 g_226 hq_226 => ?_)
                obtain ⟨hr_226, hM_226, hS_226⟩ := hq_226
                rw [hr_226]
                show ZVV _ _ _ 229 _ [] g_226
                refine zs_goto 22 rfl (by omega) ?_
                have hx := hres
                rw [hrun, if_pos hc_190] at hx
                exact ih false _ res _ _ (by intro y h; cases h) hM_226 (xWh_XI rr _ _ _ hXw).1 hx (hEw.s hS_226) (xWh_OB hOw hXw) hq
              · refine zs_iconst (n := 0) rfl ⟨by omega, by omega⟩ ?_
                exact zs_zreturn rfl rfl (by omega) (by
        obtain ⟨xx, rr, hw⟩ : ∃ xx rr, (xSe 124 s.1 s.2.1 s.2.2.1 s.2.2.2).2.2.1 = xx :: rr := by
          cases hw9 : (xSe 124 s.1 s.2.1 s.2.2.1 s.2.2.2).2.2.1 with
          | nil => rw [hw9] at h22_165; exact absurd h22_165 hc_182
          | cons xx rr => exact ⟨xx, rr, rfl⟩
        have hx := hres
        rw [hrun0, hw, show (match xx :: rr with
          | [] => some (true, (xSe 124 s.1 s.2.1 s.2.2.1 s.2.2.2))
          | _ :: r => if lkm g s.1 = 41 then xRun (lkm g) N false (xWh (s.1 + 1) (xSe 124 s.1 s.2.1 s.2.2.1 s.2.2.2).2.1 r (s.2.2.2 - 1)) else some (false, (xSe 124 s.1 s.2.1 s.2.2.1 s.2.2.2))) = some (false, (xSe 124 s.1 s.2.1 s.2.2.1 s.2.2.2)) from if_neg hc_190] at hx
        have he := Option.some.inj hx
        subst he
        exact hq _ (MST.nf hM_165 ⟨by decide, by decide, by decide⟩ _ _) (hE_165.to _) (fun z => by cases z))
            · refine zs_iconst (n := 1) rfl ⟨by omega, by omega⟩ ?_
              exact zs_zreturn rfl rfl (by omega) (by
        have hw0 : (xSe 124 s.1 s.2.1 s.2.2.1 s.2.2.2).2.2.1 = [] := List.eq_nil_of_length_eq_zero (by omega)
        have hx := hres
        rw [hrun0, hw0] at hx
        have he := Option.some.inj hx
        subst he
        exact hq _ (MST.nf hM_165 ⟨by decide, by decide, by decide⟩ _ _) (hE_165.to _) (fun _ => by rw [zup_eq]; exact h21_165))
          · refine zs_aload_n (j := 0) (i := 0) rfl rfl rfl ?_
            refine zs_iload_n (j := 3) (i := 3) rfl rfl rfl ?_
            refine zs_callV (host := "") rfl kX8_216 vX8_settle (c_X8_settle (lkm g s.1) base s.1 s.2.1 s.2.2.1 s.2.2.2) [ZI (lkm g s.1)] [] rfl (zroom_of (by omega)) rfl (Nat.le_of_ble_eq_true rfl) ⟨rfl, hb, hM, hX⟩ (fun r_124 g_124 hq_124 => ?_)
            obtain ⟨hr_124, hM_124, hS_124⟩ := hq_124
            rw [hr_124]
            have hXS := xSe_XI (lkm g s.1) s.2.2.1 s.1 s.2.1 s.2.2.2 hX
            have hXL := xSe_l (lkm g s.1) s.2.2.1 s.1 s.2.1 s.2.2.2
            have hE_124 := hE.s hS_124
            have h21_124 : g_124 8 0 21 = (base : Int) + (xSe (lkm g s.1) s.1 s.2.1 s.2.2.1 s.2.2.2).2.1.length := hM_124.2.1
            have h22_124 : g_124 8 0 22 = (xSe (lkm g s.1) s.1 s.2.1 s.2.2.1 s.2.2.2).2.2.1.length := hM_124.2.2.2.1
            have h23_124 : g_124 8 0 23 = s.2.2.2 := hM_124.2.2.2.2.2.trans hXS.2.2
            have h11_124 : g_124 8 0 11 = s.1 := hM_124.1.trans hXS.2.1
            have hX1 := hXS.1.2
            rw [hXS.2.1] at hX1
            show ZVV _ _ _ 127 _ [] g_124
            refine zs_aload_n (j := 0) (i := 0) rfl rfl rfl ?_
            refine zs_getfield (f := 8) (k := 20) rfl rfl (trivial) ?_
            show ZVV _ _ _ _ _ (ZR 41 0 :: _) _
            refine zs_aload_n (j := 0) (i := 0) rfl rfl rfl ?_
            refine zs_getfield (f := 8) (k := 22) rfl rfl (trivial) ?_
            show ZVV _ _ _ _ _ (ZI (g_124 8 0 22) :: _) _
            show ZVV _ _ _ 135 _ _ _
            refine zs_iload_n (j := 3) (i := 3) rfl rfl rfl ?_
            refine zs_iast (n := 101) rfl rfl (by omega) (by omega) ?_
            refine zs_aload_n (j := 0) (i := 0) rfl rfl rfl ?_
            refine zs_dup rfl (by intro x z; cases z) ?_
            refine zs_getfield (f := 8) (k := 22) rfl rfl (trivial) ?_
            show ZVV _ _ _ _ _ (ZI (g_124 8 0 22) :: _) _
            refine zs_iconst (n := 1) rfl ⟨by omega, by omega⟩ ?_
            refine zs_iadd_r rfl ⟨by omega, by omega⟩ ?_
            refine zs_putfield (f := 8) (k := 22) (x := (g_124 8 0 22) + 1) rfl rfl (rfl) ?_
            show ZVV _ _ _ 147 _ _ _
            refine zs_iconst (n := 1) rfl ⟨by omega, by omega⟩ ?_
            refine zs_istore_n (j := 2) (i := 2) rfl rfl (by decide) (by intro r x hr; have hr2 : r = 1 := (by omega); subst hr2; intro z; cases z) ?_
            show ZVV _ _ _ _ [ZR 8 0, ZI (c : Int), ZI 1, ZI (lkm g s.1)] _ _
            refine zs_aload_n (j := 0) (i := 0) rfl rfl rfl ?_
            refine zs_dup rfl (by intro x z; cases z) ?_
            refine zs_getfield (f := 8) (k := 11) rfl rfl (trivial) ?_
            show ZVV _ _ _ _ _ (ZI (g_124 8 0 11) :: _) _
            refine zs_iconst (n := 1) rfl ⟨by omega, by omega⟩ ?_
            refine zs_iadd_r rfl ⟨by omega, by omega⟩ ?_
            refine zs_putfield (f := 8) (k := 11) (x := (g_124 8 0 11) + 1) rfl rfl (rfl) ?_
            show ZVV _ _ _ 159 _ _ _
            refine zs_goto 22 rfl (by omega) ?_
            rw [h11_124]
            have hl := lkm_lt (g := g) (a := s.1) (by omega)
            have hMp : MST base _ (s.1 + 1, (xSe (lkm g s.1) s.1 s.2.1 s.2.2.1 s.2.2.2).2.1, lkm g s.1 :: (xSe (lkm g s.1) s.1 s.2.1 s.2.2.1 s.2.2.2).2.2.1, (xSe (lkm g s.1) s.1 s.2.1 s.2.2.1 s.2.2.2).2.2.2) := (MST.push (a := (xSe (lkm g s.1) s.1 s.2.1 s.2.2.1 s.2.2.2).1) (out := (xSe (lkm g s.1) s.1 s.2.1 s.2.2.1 s.2.2.2).2.1) (w := (xSe (lkm g s.1) s.1 s.2.1 s.2.2.1 s.2.2.2).2.2.1) (o := (xSe (lkm g s.1) s.1 s.2.1 s.2.2.1 s.2.2.2).2.2.2) hM_124 (lkm g s.1)).at (s.1 + 1)
            rw [hXS.2.2] at hMp
            refine ih true (s.1 + 1, (xSe (lkm g s.1) s.1 s.2.1 s.2.2.1 s.2.2.2).2.1, lkm g s.1 :: (xSe (lkm g s.1) s.1 s.2.1 s.2.2.1 s.2.2.2).2.2.1, s.2.2.2) res _ _ (by intro y h; cases h) hMp ⟨⟨by show 0 ≤ s.1 + 1; omega, by show s.1 + 1 ≤ 100; omega⟩, by show ((xSe (lkm g s.1) s.1 s.2.1 s.2.2.1 s.2.2.2).2.1.length : Int) + (((xSe (lkm g s.1) s.1 s.2.1 s.2.2.1 s.2.2.2).2.2.1.length + 1 : Nat) : Int) ≤ s.1 + 1; omega⟩ ?_ (((hE_124.s (zS.up41 base _ _ _)).s (zS.up8 base _ (by decide) _)).s (zS.up8 base _ (by decide) _)) ⟨by show s.2.2.2 ≤ 4; omega, by show (((xSe (lkm g s.1) s.1 s.2.1 s.2.2.1 s.2.2.2).2.2.1.length + 1 : Nat) : Int) ≤ s.2.2.2 + (s.1 + 1); omega⟩ hq
            have hx := hres
            rw [show xRun (lkm g) (N + 1) false s = xRun (lkm g) N true (s.1 + 1, (xSe (lkm g s.1) s.1 s.2.1 s.2.2.1 s.2.2.2).2.1, lkm g s.1 :: (xSe (lkm g s.1) s.1 s.2.1 s.2.2.1 s.2.2.2).2.2.1, s.2.2.2) from if_pos (by omega)] at hx
            exact hx
      · exfalso; omega
