theorem xRun_XI {g : ZG} : ∀ (N : Nat) (w : Bool) (s : MPS) (res : Bool × MPS), XI s → xRun (lkm g) N w s = some res → XI res.2 := by
  intro N
  induction N with
  | zero => intro w s res _ h; cases w <;> cases h
  | succ N ih =>
    intro w s res hX h
    have hX1 := hX.1
    have hX2 := hX.2
    cases w with
    | true =>
      by_cases c1 : lkm g s.1 = 33 ∨ lkm g s.1 = 40
      · have hl := lkm_lt (g := g) (a := s.1) (by omega)
        by_cases c2 : s.2.2.2 = 4
        · rw [show xRun (lkm g) (N + 1) true s = some (false, s) from (if_pos c1).trans (if_pos c2)] at h
          have he := Option.some.inj h; subst he; exact hX
        · rw [show xRun (lkm g) (N + 1) true s = xRun (lkm g) N true (s.1 + 1, s.2.1, lkm g s.1 :: s.2.2.1, s.2.2.2 + 1) from (if_pos c1).trans (if_neg c2)] at h
          exact ih true _ res ⟨⟨by show 0 ≤ s.1 + 1; omega, by show s.1 + 1 ≤ 100; omega⟩, by show (s.2.1.length : Int) + ((s.2.2.1.length + 1 : Nat) : Int) ≤ s.1 + 1; omega⟩ h
      · have hT := xTest_XI (g := g) (a := s.1) (out := s.2.1) (w := s.2.2.1) (o := s.2.2.2) hX
        by_cases c2 : (xTest (lkm g) s.1 s.2.1 s.2.2.1 s.2.2.2).1 = true
        · rw [show xRun (lkm g) (N + 1) true s = xRun (lkm g) N false (xTest (lkm g) s.1 s.2.1 s.2.2.1 s.2.2.2).2 from (if_neg c1).trans (if_pos c2)] at h
          exact ih false _ res hT h
        · rw [show xRun (lkm g) (N + 1) true s = some (false, (xTest (lkm g) s.1 s.2.1 s.2.2.1 s.2.2.2).2) from (if_neg c1).trans (if_neg c2)] at h
          have he := Option.some.inj h; subst he; exact hT
    | false =>
      by_cases c1 : lkm g s.1 = 38 ∨ lkm g s.1 = 124
      · have hl := lkm_lt (g := g) (a := s.1) (by omega)
        have hS := xSe_XI (lkm g s.1) s.2.2.1 s.1 s.2.1 s.2.2.2 hX
        have hS2 := hS.1.2
        rw [hS.2.1] at hS2
        rw [show xRun (lkm g) (N + 1) false s = xRun (lkm g) N true (s.1 + 1, (xSe (lkm g s.1) s.1 s.2.1 s.2.2.1 s.2.2.2).2.1, lkm g s.1 :: (xSe (lkm g s.1) s.1 s.2.1 s.2.2.1 s.2.2.2).2.2.1, s.2.2.2) from if_pos c1] at h
        exact ih true _ res ⟨⟨by show 0 ≤ s.1 + 1; omega, by show s.1 + 1 ≤ 100; omega⟩, by show ((xSe (lkm g s.1) s.1 s.2.1 s.2.2.1 s.2.2.2).2.1.length : Int) + (((xSe (lkm g s.1) s.1 s.2.1 s.2.2.1 s.2.2.2).2.2.1.length + 1 : Nat) : Int) ≤ s.1 + 1; omega⟩ h
      · have hS := xSe_XI 124 s.2.2.1 s.1 s.2.1 s.2.2.2 hX
        have hS2 := hS.1.2
        rw [hS.2.1] at hS2
        have hr : xRun (lkm g) (N + 1) false s = (match (xSe 124 s.1 s.2.1 s.2.2.1 s.2.2.2).2.2.1 with
          | [] => some (true, xSe 124 s.1 s.2.1 s.2.2.1 s.2.2.2)
          | _ :: r => if lkm g s.1 = 41 then xRun (lkm g) N false (xWh (s.1 + 1) (xSe 124 s.1 s.2.1 s.2.2.1 s.2.2.2).2.1 r (s.2.2.2 - 1)) else some (false, xSe 124 s.1 s.2.1 s.2.2.1 s.2.2.2)) := if_neg c1
        rw [hr] at h
        cases hw : (xSe 124 s.1 s.2.1 s.2.2.1 s.2.2.2).2.2.1 with
        | nil => rw [hw] at h; have he := Option.some.inj h; subst he; exact hS.1
        | cons x r =>
          rw [hw] at h
          rw [hw] at hS2
          have hS2 : ((xSe 124 s.1 s.2.1 s.2.2.1 s.2.2.2).2.1.length : Int) + ((r.length + 1 : Nat) : Int) ≤ s.1 := hS2
          by_cases c2 : lkm g s.1 = 41
          · have hl := lkm_lt (g := g) (a := s.1) (by omega)
            have h : (if lkm g s.1 = 41 then xRun (lkm g) N false (xWh (s.1 + 1) (xSe 124 s.1 s.2.1 s.2.2.1 s.2.2.2).2.1 r (s.2.2.2 - 1)) else some (false, xSe 124 s.1 s.2.1 s.2.2.1 s.2.2.2)) = some res := h
            rw [if_pos c2] at h
            exact ih false _ res (xWh_XI r _ _ _ ⟨⟨by show 0 ≤ s.1 + 1; omega, by show s.1 + 1 ≤ 100; omega⟩, by show ((xSe 124 s.1 s.2.1 s.2.2.1 s.2.2.2).2.1.length : Int) + (r.length : Nat) ≤ s.1 + 1; omega⟩).1 h
          · have h : (if lkm g s.1 = 41 then xRun (lkm g) N false (xWh (s.1 + 1) (xSe 124 s.1 s.2.1 s.2.2.1 s.2.2.2).2.1 r (s.2.2.2 - 1)) else some (false, xSe 124 s.1 s.2.1 s.2.2.1 s.2.2.2)) = some res := h
            rw [if_neg c2] at h
            have he := Option.some.inj h; subst he; exact hS.1
abbrev CL1 : Type := List Int × Int × Int
def cat (cl : List CL1) : List Int := match cl with
  | [] => []
  | y :: r => y.1 ++ cat r
theorem cat_sn (cl : List CL1) (y : CL1) : cat (cl ++ [y]) = cat cl ++ y.1 := by
  induction cl with
  | nil => show y.1 ++ [] = [] ++ y.1; simp
  | cons x r ih => show x.1 ++ cat (r ++ [y]) = (x.1 ++ cat r) ++ y.1; rw [ih, List.append_assoc]
def CLS (base : Nat) (G : ZG) (b off : Nat) (cl : List CL1) : Prop := match cl with
  | [] => True
  | y :: r => (G 36 0 b = y.2.1 ∧ G 37 0 b = y.2.2 ∧ G 38 0 b = (base : Int) + off ∧ G 39 0 b = (base : Int) + (off + y.1.length : Nat)) ∧ CLS base G (b + 1) (off + y.1.length) r
theorem CLS.of {base : Nat} {G M : ZG} : ∀ {cl : List CL1} {b off : Nat}, CLS base G b off cl → (∀ k, b ≤ k → k < b + cl.length → M 36 0 k = G 36 0 k ∧ M 37 0 k = G 37 0 k ∧ M 38 0 k = G 38 0 k ∧ M 39 0 k = G 39 0 k) → CLS base M b off cl := by
  intro cl
  induction cl with
  | nil => intro b off _ _; trivial
  | cons y r ih =>
    intro b off h hk
    have h0 := hk b (Nat.le_refl _) (by show b < b + (r.length + 1); omega)
    exact ⟨⟨h0.1.trans h.1.1, h0.2.1.trans h.1.2.1, h0.2.2.1.trans h.1.2.2.1, h0.2.2.2.trans h.1.2.2.2⟩, ih h.2 (fun k h1 h2 => hk k (by omega) (by show k < b + (r.length + 1); omega))⟩
theorem CLS.sn {base : Nat} {G : ZG} {y : CL1} : ∀ {cl : List CL1} {b off : Nat}, CLS base G b off cl → (G 36 0 (b + cl.length) = y.2.1 ∧ G 37 0 (b + cl.length) = y.2.2 ∧ G 38 0 (b + cl.length) = (base : Int) + (off + (cat cl).length : Nat) ∧ G 39 0 (b + cl.length) = (base : Int) + (off + (cat cl).length + y.1.length : Nat)) → CLS base G b off (cl ++ [y]) := by
  intro cl
  induction cl with
  | nil => intro b off _ h; exact ⟨h, trivial⟩
  | cons x r ih =>
    intro b off h hk
    refine ⟨h.1, ih h.2 ?_⟩
    have e1 : b + (x :: r).length = b + 1 + r.length := by show b + (r.length + 1) = _; omega
    have e2 : off + (cat (x :: r)).length = off + x.1.length + (cat r).length := by show off + (x.1 ++ cat r).length = _; rw [List.length_append]; omega
    rw [e1, e2] at hk
    exact hk
def XT (lk : Int → Int) (fed : Int) (m : Nat) (a : Int) (cl : List CL1) (y : Bool × Int × List CL1) : Prop := match m with
  | 0 => False
  | m + 1 => ∃ c : YC, XC lk a (cat cl) c ∧ (c.1 = false → y.1 = false ∧ y.2.1 = c.2.1) ∧ (c.1 = true → ∃ tk, c.2.2.1 = cat cl ++ tk ∧ (if c.2.1 = fed then y = (true, c.2.1, cl ++ [(tk, c.2.2.2.1, c.2.2.2.2)]) else if m = 0 ∨ lk c.2.1 ≠ 59 then (y.1 = false ∧ y.2.1 = c.2.1) else XT lk fed m (c.2.1 + 1) (cl ++ [(tk, c.2.2.2.1, c.2.2.2.2)]) y))
theorem XC_XI {g : ZG} {a : Int} {out : List Int} {y : YC} (ha : 0 ≤ a ∧ a ≤ 100) (hl : (out.length : Int) ≤ a) (h : XC (lkm g) a out y) (hy : y.1 = true) : (0 ≤ y.2.1 ∧ y.2.1 ≤ 100) ∧ (y.2.2.1.length : Int) ≤ y.2.1 := by
  have hhr : a ≤ (xHd (lkm g) a).2.2 ∧ (xHd (lkm g) a).2.2 ≤ 100 := by
    unfold xHd
    split
    · exact xWd_r 4 4 a (by decide) ha
    · split
      · exact xWd_r 4 0 a (by decide) ha
      · exact xWd_r 4 8 a (by decide) ha
  unfold XC at h
  by_cases c1 : (xHd (lkm g) a).2.1 = false
  · rw [if_pos c1] at h; rw [h.1] at hy; cases hy
  · rw [if_neg c1] at h
    by_cases c2 : ¬ (48 ≤ lkm g (xHd (lkm g) a).2.2 ∧ lkm g (xHd (lkm g) a).2.2 ≤ 57)
    · rw [if_pos c2] at h; rw [h.1] at hy; cases hy
    · rw [if_neg c2] at h
      by_cases c3 : lkm g (xNum (lkm g) (xHd (lkm g) a).2.2).2 ≠ 32
      · rw [if_pos c3] at h; rw [h.1] at hy; cases hy
      · rw [if_neg c3] at h
        obtain ⟨res, ⟨N, hN⟩, rfl⟩ := h
        have hl0 := lkm_lt (g := g) (a := (xHd (lkm g) a).2.2) (by omega)
        have hnr := xNum_r (lk := lkm g) (fun b h => ⟨(lkm_lt (g := g) h).1, (lkm_lt (g := g) h).2.1⟩) (Classical.not_not.mp c2) ⟨by omega, by omega⟩
        have hl1 := lkm_lt (g := g) (a := (xNum (lkm g) (xHd (lkm g) a).2.2).2) (by omega)
        have hX := xRun_XI N true _ res (show XI ((xNum (lkm g) (xHd (lkm g) a).2.2).2 + 1, out, [], 0) from ⟨⟨by show 0 ≤ (xNum (lkm g) (xHd (lkm g) a).2.2).2 + 1; omega, by show (xNum (lkm g) (xHd (lkm g) a).2.2).2 + 1 ≤ 100; omega⟩, by show (out.length : Int) + ((0 : Nat) : Int) ≤ (xNum (lkm g) (xHd (lkm g) a).2.2).2 + 1; omega⟩) hN
        exact ⟨hX.1, by have := hX.2; show (res.2.2.1.length : Int) ≤ res.2.1; omega⟩
def zTx (f : Nat) (g G : ZG) : Prop := (∀ x, x ≠ 8 → x ≠ 35 → x ≠ 36 → x ≠ 37 → x ≠ 38 → x ≠ 39 → x ≠ 40 → x ≠ 41 → G x = g x) ∧ (∀ i k, ¬ (i = 0 ∧ (k = 11 ∨ k = 12 ∨ k = 21 ∨ k = 22 ∨ k = 23)) → G 8 i k = g 8 i k) ∧ (∀ k, k < 100 * f → G 40 0 k = g 40 0 k) ∧ (∀ k, k < 10 * f → (G 36 0 k = g 36 0 k ∧ G 37 0 k = g 37 0 k ∧ G 38 0 k = g 38 0 k ∧ G 39 0 k = g 39 0 k)) ∧ ∀ k, k ≠ f → G 35 0 k = g 35 0 k
theorem zTx.c {f c : Nat} {a b d : ZG} (h : zTx f a b) (k : zC (100 * f) c b d) (hc : 10 * f ≤ c) : zTx f a d := ⟨fun x h1 h2 h3 h4 h5 h6 h7 h8 => (k.1 x h1 h3 h4 h5 h6 h7 h8).trans (h.1 x h1 h2 h3 h4 h5 h6 h7 h8), fun i j hj => (k.2.1 i j hj).trans (h.2.1 i j hj), fun j hj => (k.2.2.1 j hj).trans (h.2.2.1 j hj), fun j hj => by
  have h1 := k.2.2.2 j (by omega)
  have h2 := h.2.2.2.1 j hj
  exact ⟨h1.1.trans h2.1, h1.2.1.trans h2.2.1, h1.2.2.1.trans h2.2.2.1, h1.2.2.2.trans h2.2.2.2⟩, fun j hj => by rw [k.1 35 (by decide) (by decide) (by decide) (by decide) (by decide) (by decide) (by decide)]; exact h.2.2.2.2 j hj⟩
theorem zTx.n {f : Nat} {a b : ZG} (h : zTx f a b) (v : Int) : zTx f a (zup b 35 0 f v) := ⟨fun x h1 h2 h3 h4 h5 h6 h7 h8 => (zup_nf _ _ _ _ h2).trans (h.1 x h1 h2 h3 h4 h5 h6 h7 h8), fun i j hj => by rw [zup_nf _ _ _ _ (by decide)]; exact h.2.1 i j hj, fun j hj => by rw [zup_nf _ _ _ _ (by decide)]; exact h.2.2.1 j hj, fun j hj => by rw [zup_nf _ _ _ _ (by decide), zup_nf _ _ _ _ (by decide), zup_nf _ _ _ _ (by decide), zup_nf _ _ _ _ (by decide)]; exact h.2.2.2.1 j hj, fun j hj => by rw [zup_nk _ _ _ _ _ _ hj]; exact h.2.2.2.2 j hj⟩
theorem zTx.u8 {f : Nat} {a b : ZG} (h : zTx f a b) {k : Nat} (hk : k = 11 ∨ k = 12 ∨ k = 21 ∨ k = 22 ∨ k = 23) (v : Int) : zTx f a (zup b 8 0 k v) := ⟨fun x h1 h2 h3 h4 h5 h6 h7 h8 => (zup_nf _ _ _ _ h1).trans (h.1 x h1 h2 h3 h4 h5 h6 h7 h8), fun i j h1 => by unfold zup; rw [if_neg (fun z => h1 ⟨z.2.2, by rw [z.2.1]; exact hk⟩)]; exact h.2.1 i j h1, fun j hj => by rw [zup_nf _ _ _ _ (by decide)]; exact h.2.2.1 j hj, fun j hj => by rw [zup_nf _ _ _ _ (by decide), zup_nf _ _ _ _ (by decide), zup_nf _ _ _ _ (by decide), zup_nf _ _ _ _ (by decide)]; exact h.2.2.2.1 j hj, fun j hj => by rw [zup_nf _ _ _ _ (by decide)]; exact h.2.2.2.2 j hj⟩
theorem zTx.rf (f : Nat) (g : ZG) : zTx f g g := ⟨fun _ _ _ _ _ _ _ _ _ => rfl, fun _ _ _ => rfl, fun _ _ => rfl, fun _ _ => ⟨rfl, rfl, rfl, rfl⟩, fun _ _ => rfl⟩
theorem zTx.lk {f : Nat} {g G : ZG} (h : zTx f g G) : lkm G = lkm g := by
  funext a; unfold lkm; rw [h.2.1 0 10 (by decide), h.1 34 (by decide) (by decide) (by decide) (by decide) (by decide) (by decide) (by decide) (by decide)]
theorem zTx.fed {f : Nat} {g G : ZG} (h : zTx f g G) (k : FED g) (ha : 0 ≤ G 8 0 11 ∧ G 8 0 11 ≤ 100) : FED G := by
  unfold FED; rw [h.2.1 0 10 (by decide), h.1 34 (by decide) (by decide) (by decide) (by decide) (by decide) (by decide) (by decide) (by decide)]; exact ⟨k.1, ha, k.2.2⟩
theorem zTx.let {f : Nat} {g G : ZG} (h : zTx f g G) (k : LET g) : LET G := by
  unfold LET; rw [h.1 42 (by decide) (by decide) (by decide) (by decide) (by decide) (by decide) (by decide) (by decide)]; exact k
theorem zifb_t {b : Bool} (h : (if b = true then (1 : Int) else 0) ≠ 0) : b = true := pfl_t2 h
theorem zifb_f {b : Bool} (h : ¬ (if b = true then (1 : Int) else 0) ≠ 0) : b = false := pfl_f h
set_option maxHeartbeats 4000000 in
theorem l_X8_goesText {Y : ZW} {Q : Option ZV → ZG → Prop} {g : ZG} {f : Nat} {y : Bool × Int × List CL1} (hf5 : f ≤ 5) (hf : FED g) (hlet : LET g) (hq0 : ∀ M, zTx f g M → M 8 0 11 = y.2.1 → (y.1 = true → M 35 0 f = (y.2.2.length : Int) ∧ CLS (100 * f) M (10 * f) 0 y.2.2 ∧ M 8 0 21 = ((100 * f : Nat) : Int) + (cat y.2.2).length ∧ SL (100 * f) M (cat y.2.2)) → Q (some (ZI (if y.1 = true then 1 else 0))) M) : ∀ (m : Nat) (a : Int) (cl : List CL1) (G : ZG), cl.length + m = 10 → MS0 (100 * f) G a (cat cl) → CLS (100 * f) G (10 * f) 0 cl → zTx f g G → (0 ≤ a ∧ a ≤ 100) → ((cat cl).length : Int) ≤ a → XT (lkm g) (g 8 0 10) m a cl y → ZVV Y mX8_goesText (zcx Y 7 Q) 15 [ZR 8 0, ZI (f : Int), ZI (cl.length : Int)] [] G := by
  have hq : ∀ M x, zTx f g M → M 8 0 11 = y.2.1 → (x : Int) = (if y.1 = true then 1 else 0) → (y.1 = true → M 35 0 f = (y.2.2.length : Int) ∧ CLS (100 * f) M (10 * f) 0 y.2.2 ∧ M 8 0 21 = ((100 * f : Nat) : Int) + (cat y.2.2).length ∧ SL (100 * f) M (cat y.2.2)) → Q (some (ZI x)) M := fun M x a b c d => by rw [c]; exact hq0 M a b d
  intro m
  induction m with
  | zero => intro a cl G _ _ _ _ _ _ hy; exact hy.elim
  | succ m ih =>
    intro a cl G hk hM hCL hT ha hlen hy
    obtain ⟨c, hc1, hc2, hc3⟩ := hy
    refine zs_aload_n (j := 0) (i := 0) rfl rfl rfl ?_
    refine zs_bipush (n := 10) rfl ⟨by omega, by omega⟩ ?_
    refine zs_iload_n (j := 1) (i := 1) rfl rfl rfl ?_
    refine zs_imul_r rfl ⟨by omega, by omega⟩ ?_
    refine zs_iload_n (j := 2) (i := 2) rfl rfl rfl ?_
    refine zs_iadd_r rfl ⟨by omega, by omega⟩ ?_
    rw [show (10 * (f : Int) + (cl.length : Int)) = ((10 * f + cl.length : Nat) : Int) by omega]
    refine zs_callV (host := "") rfl kX8_228 vX8_takesClause (c_X8_takesClause (100 * f) (10 * f + cl.length) a (cat cl) c) [ZI ((10 * f + cl.length : Nat) : Int)] [] rfl (zroom_of (by omega)) rfl (Nat.le_of_ble_eq_true rfl) ⟨rfl, by omega, by omega, hT.fed hf (by rw [hM.1]; exact ha), hT.let hlet, hM, ha, hlen, by rw [hT.lk]; exact hc1⟩ (fun r_22 g_22 hq_22 => ?_)
    obtain ⟨hr_22, h11_22, hC_22, hok_22⟩ := hq_22
    rw [hr_22]
    have hT_22 := hT.c hC_22 (by omega)
    show ZVV _ _ _ 25 _ [ZI (if c.1 = true then 1 else 0)] g_22
    show ZVV _ _ _ 25 _ _ _
    refine zs_if_ne 30 rfl (by omega) (fun hc_25 => ?_) (fun hc_25 => ?_)
    · refine zs_iinc_r (i := 2) rfl rfl (by intro r x hr; have hr2 : r = 1 := (by omega); subst hr2; intro z; cases z) ⟨by omega, by omega⟩ ?_
      show ZVV _ _ _ _ [ZR 8 0, ZI (f : Int), ZI ((cl.length : Int) + 1)] _ _
      refine zs_aload_n (j := 0) (i := 0) rfl rfl rfl ?_
      refine zs_getfield (f := 8) (k := 14) rfl rfl (trivial) ?_
      show ZVV _ _ _ _ _ (ZR 35 0 :: _) _
      refine zs_iload_n (j := 1) (i := 1) rfl rfl rfl ?_
      refine zs_iload_n (j := 2) (i := 2) rfl rfl rfl ?_
      refine zs_iast (n := 6) rfl rfl (by omega) (by omega) ?_
      show ZVV _ _ _ _ _ _ (zup g_22 35 0 f ((cl.length : Int) + 1))
      have hct : c.1 = true := zifb_t hc_25
      obtain ⟨tk, htk, hnext⟩ := hc3 hct
      obtain ⟨hM_22, h36, h37, h38, h39⟩ := hok_22 hct
      have hXX := XC_XI ha hlen hc1 hct
      have hcat : cat (cl ++ [(tk, c.2.2.2.1, c.2.2.2.2)]) = c.2.2.1 := by rw [cat_sn, htk]
      have hT_n : zTx f g (zup g_22 35 0 f ((cl.length : Int) + 1)) := hT_22.n _
      have hM_n : MS0 (100 * f) (zup g_22 35 0 f ((cl.length : Int) + 1)) c.2.1 (cat (cl ++ [(tk, c.2.2.2.1, c.2.2.2.2)])) := by rw [hcat]; exact hM_22.nf ⟨by decide, by decide⟩ _ _
      have hC_n : CLS (100 * f) (zup g_22 35 0 f ((cl.length : Int) + 1)) (10 * f) 0 (cl ++ [(tk, c.2.2.2.1, c.2.2.2.2)]) := by
        refine CLS.sn (CLS.of hCL (fun k h1 h2 => ?_)) ?_
        · rw [zup_nf _ _ _ _ (by decide), zup_nf _ _ _ _ (by decide), zup_nf _ _ _ _ (by decide), zup_nf _ _ _ _ (by decide)]
          exact hC_22.2.2.2 k (by omega)
        · rw [zup_nf _ _ _ _ (by decide), zup_nf _ _ _ _ (by decide), zup_nf _ _ _ _ (by decide), zup_nf _ _ _ _ (by decide)]
          refine ⟨h36, h37, ?_, ?_⟩
          · rw [h38]; omega
          · rw [h39, htk, List.length_append]; show _ = _ + ((0 + (cat cl).length + tk.length : Nat) : Int); omega
      have h10_22 : g_22 8 0 10 = g 8 0 10 := hT_22.2.1 0 10 (by decide)
      refine zs_aload_n (j := 0) (i := 0) rfl rfl rfl ?_
      show ZVV _ _ _ 41 _ _ _
      refine zs_getfield (f := 8) (k := 11) rfl rfl (trivial) ?_
      show ZVV _ _ _ _ _ (ZI (g_22 8 0 11) :: _) _
      rw [h11_22]
      refine zs_aload_n (j := 0) (i := 0) rfl rfl rfl ?_
      refine zs_getfield (f := 8) (k := 10) rfl rfl (trivial) ?_
      show ZVV _ _ _ _ _ (ZI (g_22 8 0 10) :: _) _
      rw [h10_22]
      refine zs_icmp_ne 53 rfl (by omega) (fun hc_48 => ?_) (fun hc_48 => ?_)
      · refine zs_iload_n (j := 2) (i := 2) rfl rfl rfl ?_
        refine zs_bipush (n := 10) rfl ⟨by omega, by omega⟩ ?_
        refine zs_icmp_eq 68 rfl (by omega) (fun hc_56 => ?_) (fun hc_56 => ?_)
        · refine zs_iconst (n := 0) rfl ⟨by omega, by omega⟩ ?_
          exact zs_zreturn rfl rfl (by omega) (by
        rw [if_neg hc_48, if_pos (Or.inl (by omega))] at hnext
        exact hq _ 0 hT_n (by rw [hnext.2]; exact hM_n.1) (by rw [hnext.1]; rfl) (fun z => by rw [hnext.1] at z; cases z))
        · refine zs_aload_n (j := 0) (i := 0) rfl rfl rfl ?_
          refine zs_bipush (n := 59) rfl ⟨by omega, by omega⟩ ?_
          refine zs_callV (host := "") rfl kX8_193 vX8_takes (c_X8_takes 59) [ZI 59] [] rfl (zroom_of (by omega)) rfl (Nat.le_of_ble_eq_true rfl) ⟨rfl, hT_n.fed hf (by rw [hM_n.1]; exact hXX.1), by decide⟩ (fun r_62 g_62 hq_62 => ?_)
          obtain ⟨hr_62, hg_62⟩ := hq_62
          rw [hT_n.lk, hM_n.1] at hr_62 hg_62
          rw [hr_62]
          show ZVV _ _ _ 65 _ [ZI (if lkm g c.2.1 = 59 then 1 else 0)] g_62
          refine zs_if_ne 15 rfl (by omega) (fun hc_65 => ?_) (fun hc_65 => ?_)
          · have h59 : lkm g c.2.1 = 59 := zifp1 (fun z => hc_65 z)
            rw [if_pos h59] at hg_62
            have hl := lkm_lt (g := g) (a := c.2.1) (by omega)
            rw [if_neg hc_48, if_neg (fun z => z.elim (fun y => hc_56 (by omega)) (fun y => y h59))] at hnext
            have el : ((cl.length : Int) + 1) = (((cl ++ [(tk, c.2.2.2.1, c.2.2.2.2)]).length : Nat) : Int) := by rw [List.length_append]; rfl
            rw [el]
            refine ih (c.2.1 + 1) _ g_62 (by rw [List.length_append]; show cl.length + 1 + m = 10; omega) (by rw [hg_62]; exact hM_n.at _) ?_ (by rw [hg_62]; exact hT_n.u8 (Or.inl rfl) _) (by omega) (by rw [hcat]; omega) hnext
            rw [hg_62]
            exact CLS.of hC_n (fun k h1 h2 => by rw [zup_nf _ _ _ _ (by decide), zup_nf _ _ _ _ (by decide), zup_nf _ _ _ _ (by decide), zup_nf _ _ _ _ (by decide)]; exact ⟨rfl, rfl, rfl, rfl⟩)
          · refine zs_iconst (n := 0) rfl ⟨by omega, by omega⟩ ?_
            exact zs_zreturn rfl rfl (by omega) (by
        have h59 : ¬ lkm g c.2.1 = 59 := zifp0 (by omega)
        rw [if_neg h59] at hg_62
        rw [if_neg hc_48, if_pos (Or.inr h59)] at hnext
        rw [hg_62]
        exact hq _ 0 hT_n (by rw [hnext.2]; exact hM_n.1) (by rw [hnext.1]; rfl) (fun z => by rw [hnext.1] at z; cases z))
      · refine zs_iconst (n := 1) rfl ⟨by omega, by omega⟩ ?_
        exact zs_zreturn rfl rfl (by omega) (by
        rw [if_pos (Classical.not_not.mp hc_48)] at hnext
        refine hq _ 1 hT_n (by rw [hnext]; exact hM_n.1) (by rw [hnext]; rfl) (fun _ => ?_)
        rw [hnext]
        refine ⟨?_, hC_n, hM_n.2.1, hM_n.2.2⟩
        rw [zup_eq]
        show (cl.length : Int) + 1 = ((cl ++ [(tk, c.2.2.2.1, c.2.2.2.2)]).length : Nat)
        rw [List.length_append]
        rfl)
    · refine zs_iconst (n := 0) rfl ⟨by omega, by omega⟩ ?_
      exact zs_zreturn rfl rfl (by omega) (by
        have hcf : c.1 = false := zifb_f hc_25
        have hy := hc2 hcf
        exact hq g_22 0 hT_22 (by rw [hy.2]; exact h11_22) (by rw [hy.1]; rfl) (fun z => by rw [hy.1] at z; cases z))
theorem c_X8_goesText (f : Nat) (y : Bool × Int × List CL1) : ZC mX8_goesText 7 (fun av g => av = [ZR 8 0, ZI (f : Int)] ∧ f ≤ 5 ∧ FED g ∧ LET g ∧ XT (lkm g) (g 8 0 10) 10 0 [] y) (fun _ g r g' => r = some (ZI (if y.1 = true then 1 else 0)) ∧ zTx f g g' ∧ g' 8 0 11 = y.2.1 ∧ (y.1 = true → g' 35 0 f = (y.2.2.length : Int) ∧ CLS (100 * f) g' (10 * f) 0 y.2.2 ∧ g' 8 0 21 = ((100 * f : Nat) : Int) + (cat y.2.2).length ∧ SL (100 * f) g' (cat y.2.2))) := by
  refine zc_of gX8_goesText (fun av g hp => by obtain ⟨rfl, -⟩ := hp; exact Nat.le_of_ble_eq_true rfl) (fun Y av g hwf hrg hp hok => ?_)
  obtain ⟨rfl, hp⟩ := hp
  show ZVV _ _ _ 0 [ZR 8 0, ZI (f : Int), ZX 99] [] _
  obtain ⟨hf5, hf, hlet, hy⟩ := hp
  refine zs_aload_n (j := 0) (i := 0) rfl rfl rfl ?_
  refine zs_iconst (n := 0) rfl ⟨by omega, by omega⟩ ?_
  refine zs_putfield (f := 8) (k := 11) (x := 0) rfl rfl (rfl) ?_
  refine zs_aload_n (j := 0) (i := 0) rfl rfl rfl ?_
  refine zs_bipush (n := 100) rfl ⟨by omega, by omega⟩ ?_
  refine zs_iload_n (j := 1) (i := 1) rfl rfl rfl ?_
  refine zs_imul_r rfl ⟨by omega, by omega⟩ ?_
  show ZVV _ _ _ 10 _ _ _
  refine zs_putfield (f := 8) (k := 21) (x := 100 * (f : Int)) rfl rfl (rfl) ?_
  refine zs_iconst (n := 0) rfl ⟨by omega, by omega⟩ ?_
  refine zs_istore_n (j := 2) (i := 2) rfl rfl (by decide) (by intro r x hr; have hr2 : r = 1 := (by omega); subst hr2; intro z; cases z) ?_
  show ZVV _ _ _ _ [ZR 8 0, ZI (f : Int), ZI 0] _ _
  refine l_X8_goesText hf5 hf hlet (fun M m1 m2 m3 => ⟨rfl, m1, m2, m3⟩) 10 0 [] _ rfl ⟨?_, ?_, fun i hi => absurd hi (Nat.not_lt_zero _)⟩ trivial (((zTx.rf f g).u8 (Or.inl rfl) _).u8 (Or.inr (Or.inr (Or.inl rfl))) _) ⟨by decide, by decide⟩ (Int.le_refl 0) hy
  · rw [zup_nk _ _ _ _ _ _ (by decide), zup_eq]
  · rw [zup_eq]; show (100 : Int) * f = ((100 * f : Nat) : Int) + ((0 : Nat) : Int); omega

theorem c_X8_street (y : Bool × Int × List CL1) : ZC mX8_street 8 (fun av g => av = [ZR 8 0] ∧ FED g ∧ LET g ∧ (0 ≤ g 8 0 8 ∧ g 8 0 8 ≤ 6) ∧ XT (lkm g) (g 8 0 10) 10 0 [] y ∧ (-1 ≤ y.2.1 ∧ y.2.1 ≤ 100)) (fun _ g r g' => (g 8 0 8 = 6 ∧ r = some (ZI (-4)) ∧ g' = g) ∨ (g 8 0 8 < 6 ∧ y.1 = false ∧ r = some (ZI (-10 - y.2.1)) ∧ ∃ M, zTx (g 8 0 8).toNat g M ∧ M 8 0 11 = y.2.1 ∧ g' = zup M 8 0 10 0) ∨ (g 8 0 8 < 6 ∧ y.1 = true ∧ r = some (ZI (g 8 0 8)) ∧ ∃ M, zTx (g 8 0 8).toNat g M ∧ M 8 0 11 = y.2.1 ∧ (M 35 0 (g 8 0 8).toNat = (y.2.2.length : Int) ∧ CLS (100 * (g 8 0 8).toNat) M (10 * (g 8 0 8).toNat) 0 y.2.2 ∧ M 8 0 21 = ((100 * (g 8 0 8).toNat : Nat) : Int) + (cat y.2.2).length ∧ SL (100 * (g 8 0 8).toNat) M (cat y.2.2)) ∧ g' = zup (zup (zup M 8 0 10 0) 8 0 9 (g 8 0 8)) 8 0 8 (g 8 0 8 + 1))) := by
  refine zc_of gX8_street (fun av g hp => by obtain ⟨rfl, -⟩ := hp; exact Nat.le_of_ble_eq_true rfl) (fun Y av g hwf hrg hp hok => ?_)
  obtain ⟨rfl, hp⟩ := hp
  show ZVV _ _ _ 0 [ZR 8 0, ZX 99] [] _
  obtain ⟨hf, hlet, hst, hy, hyr⟩ := hp
  refine zs_aload_n (j := 0) (i := 0) rfl rfl rfl ?_
  refine zs_getfield (f := 8) (k := 8) rfl rfl (trivial) ?_
  show ZVV _ _ _ _ _ (ZI (g 8 0 8) :: _) _
  refine zs_bipush (n := 6) rfl ⟨by omega, by omega⟩ ?_
  refine zs_icmp_ne 12 rfl (by omega) (fun hc_6 => ?_) (fun hc_6 => ?_)
  · refine zs_aload_n (j := 0) (i := 0) rfl rfl rfl ?_
    refine zs_aload_n (j := 0) (i := 0) rfl rfl rfl ?_
    refine zs_getfield (f := 8) (k := 8) rfl rfl (trivial) ?_
    show ZVV _ _ _ _ _ (ZI (g 8 0 8) :: _) _
    have ef : g 8 0 8 = (((g 8 0 8).toNat : Nat) : Int) := by omega
    rw [ef]
    refine zs_callV (host := "") rfl kX8_231 vX8_goesText (c_X8_goesText (g 8 0 8).toNat y) [ZI (((g 8 0 8).toNat : Nat) : Int)] [] rfl (zroom_of (by omega)) rfl (Nat.le_of_ble_eq_true rfl) ⟨rfl, by omega, hf, hlet, hy⟩ (fun r_17 g_17 hq_17 => ?_)
    obtain ⟨hr_17, hT_17, h11_17, hok_17⟩ := hq_17
    rw [hr_17]
    have h8_17 : g_17 8 0 8 = g 8 0 8 := hT_17.2.1 0 8 (by decide)
    show ZVV _ _ _ 20 _ [ZI (if y.1 = true then 1 else 0)] g_17
    refine zs_istore_n (j := 1) (i := 1) rfl rfl (by decide) (by intro r x hr; have hr2 : r = 0 := (by omega); subst hr2; intro z; cases z) ?_
    show ZVV _ _ _ _ [ZR 8 0, ZI (if y.1 = true then 1 else 0)] _ _
    refine zs_aload_n (j := 0) (i := 0) rfl rfl rfl ?_
    refine zs_iconst (n := 0) rfl ⟨by omega, by omega⟩ ?_
    show ZVV _ _ _ 23 _ _ _
    refine zs_putfield (f := 8) (k := 10) (x := 0) rfl rfl (rfl) ?_
    refine zs_iload_n (j := 1) (i := 1) rfl rfl rfl ?_
    refine zs_if_ne 38 rfl (by omega) (fun hc_27 => ?_) (fun hc_27 => ?_)
    · refine zs_aload_n (j := 0) (i := 0) rfl rfl rfl ?_
      refine zs_aload_n (j := 0) (i := 0) rfl rfl rfl ?_
      refine zs_getfield (f := 8) (k := 8) rfl rfl (trivial) ?_
      show ZVV _ _ _ _ _ (ZI (g_17 8 0 8) :: _) _
      rw [h8_17]
      refine zs_putfield (f := 8) (k := 9) (x := g 8 0 8) rfl rfl (rfl) ?_
      refine zs_aload_n (j := 0) (i := 0) rfl rfl rfl ?_
      refine zs_dup rfl (by intro x z; cases z) ?_
      refine zs_getfield (f := 8) (k := 8) rfl rfl (trivial) ?_
      show ZVV _ _ _ _ _ (ZI (g_17 8 0 8) :: _) _
      rw [h8_17]
      show ZVV _ _ _ 51 _ _ _
      refine zs_iconst (n := 1) rfl ⟨by omega, by omega⟩ ?_
      refine zs_iadd_r rfl ⟨by omega, by omega⟩ ?_
      refine zs_putfield (f := 8) (k := 8) (x := (g 8 0 8) + 1) rfl rfl (rfl) ?_
      refine zs_aload_n (j := 0) (i := 0) rfl rfl rfl ?_
      refine zs_getfield (f := 8) (k := 9) rfl rfl (trivial) ?_
      show ZVV _ _ _ _ _ (ZI (g 8 0 8) :: _) _
      exact zs_ireturn rfl rfl (Or.inr (Or.inr ⟨by omega, zifb_t hc_27, by rw [← ef], g_17, hT_17, h11_17, hok_17 (zifb_t hc_27), by rw [← ef]⟩))
    · refine zs_bipush (n := (-10)) rfl ⟨by omega, by omega⟩ ?_
      refine zs_aload_n (j := 0) (i := 0) rfl rfl rfl ?_
      refine zs_getfield (f := 8) (k := 11) rfl rfl (trivial) ?_
      show ZVV _ _ _ _ _ (ZI (g_17 8 0 11) :: _) _
      rw [h11_17]
      refine zs_isub_r rfl ⟨by omega, by omega⟩ ?_
      exact zs_ireturn rfl rfl (Or.inr (Or.inl ⟨by omega, zifb_f hc_27, rfl, g_17, hT_17, h11_17, rfl⟩))
  · refine zs_bipush (n := (-4)) rfl ⟨by omega, by omega⟩ ?_
    exact zs_ireturn rfl rfl (Or.inl ⟨by omega, rfl, rfl⟩)

