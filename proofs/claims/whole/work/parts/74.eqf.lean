/-! what a street wishes: the same on both sides -/
def zevl (fa : Nat → Int) (l : List Int) (x : ZE) : ZE := match l with
  | [] => x
  | s :: r => zevl fa r (zev1 fa (s / 100) (s % 100) x)
def mevl (fa : Nat → Int) (l : List Int) (bs : List Bool) : List Bool := match l with
  | [] => bs
  | t :: r => mevl fa r (mev1 fa t bs)
theorem zevl_app (fa : Nat → Int) : ∀ (a b : List Int) (x : ZE), zevl fa (a ++ b) x = zevl fa b (zevl fa a x) := by
  intro a
  induction a with
  | nil => intro b x; rfl
  | cons s r ih => intro b x; exact ih b _
/-- a row holds a list from a place on -/
def RL (st : Nat → Int) (k : Nat) (l : List Int) : Prop := ∀ i, i < l.length → st (k + i) = l.getD i 0
theorem RL.hd {st : Nat → Int} {k : Nat} {x : Int} {r : List Int} (h : RL st k (x :: r)) : st k = x ∧ RL st (k + 1) r := by
  refine ⟨?_, fun i hi => ?_⟩
  · have := h 0 (Nat.succ_pos _); exact this
  · have := h (i + 1) (Nat.succ_lt_succ hi)
    rw [show k + 1 + i = k + (i + 1) by omega, this]; rfl
theorem RL.app {st : Nat → Int} : ∀ {a b : List Int} {k : Nat}, RL st k (a ++ b) → RL st k a ∧ RL st (k + a.length) b := by
  intro a
  induction a with
  | nil => intro b k h; exact ⟨fun i hi => absurd hi (Nat.not_lt_zero _), h⟩
  | cons x r ih =>
    intro b k h
    have h1 := RL.hd (r := r ++ b) h
    have h2 := ih h1.2
    refine ⟨fun i hi => ?_, ?_⟩
    · cases i with
      | zero => exact h1.1
      | succ i => rw [show k + (i + 1) = k + 1 + i by omega, h2.1 i (Nat.lt_of_succ_lt_succ hi)]; rfl
    · have := h2.2
      rw [show k + (x :: r).length = k + 1 + r.length by show k + (r.length + 1) = _; omega]; exact this
theorem zev_l {fa st : Nat → Int} : ∀ (l : List Int) (k : Nat) (x : ZE), RL st k l → zev fa st l.length k x = zevl fa l x := by
  intro l
  induction l with
  | nil => intro k x _; rfl
  | cons s r ih => intro k x h; show zev fa st r.length (k + 1) (zev1 fa (st k / 100) (st k % 100) x) = _; rw [h.hd.1, ih (k + 1) _ h.hd.2]; rfl
theorem mev_l {fa st : Nat → Int} : ∀ (l : List Int) (k : Nat) (x : List Bool), RL st k l → mev fa st l.length k x = mevl fa l x := by
  intro l
  induction l with
  | nil => intro k x _; rfl
  | cons s r ih => intro k x h; show mev fa st r.length (k + 1) (mev1 fa (st k) x) = _; rw [h.hd.1, ih (k + 1) _ h.hd.2]; rfl
theorem cmp_eq (fa : Nat → Int) {x : Int} (h : 0 ≤ x ∧ x < 1800) : zcmp fa (x / 100) (x % 100) = mcmp fa (tr x) := by
  have e : tr x = x / 300 * 1000 + x / 100 % 3 * 100 + x % 100 := by
    unfold tr; rw [if_neg (by omega), if_neg (by omega), if_neg (by omega)]
  have e1 : tr x / 100 % 10 = x / 100 % 3 := by rw [e]; omega
  have e2 : tr x / 1000 = x / 100 / 3 := by rw [e]; omega
  have e3 : tr x % 100 = x % 100 := by rw [e]; omega
  unfold zcmp mcmp
  rw [e1, e2, e3]
  generalize fa (x / 100 / 3).toNat = v
  generalize x % 100 = nb
  have hr : x / 100 % 3 = 0 ∨ x / 100 % 3 = 1 ∨ x / 100 % 3 = 2 := by omega
  rcases hr with hr | hr | hr <;> rw [hr]
  · show _ = decide (v < nb)
    refine decide_eq_decide.mpr ?_
    by_cases c1 : v < nb
    · rw [if_pos c1]; omega
    · rw [if_neg c1]; by_cases c2 : v = nb
      · rw [if_pos c2]; omega
      · rw [if_neg c2]; omega
  · show _ = decide (v = nb)
    refine decide_eq_decide.mpr ?_
    by_cases c1 : v < nb
    · rw [if_pos c1]; omega
    · rw [if_neg c1]; by_cases c2 : v = nb
      · rw [if_pos c2]; omega
      · rw [if_neg c2]; omega
  · show _ = decide (nb < v)
    refine decide_eq_decide.mpr ?_
    by_cases c1 : v < nb
    · rw [if_pos c1]; omega
    · rw [if_neg c1]; by_cases c2 : v = nb
      · rw [if_pos c2]; omega
      · rw [if_neg c2]; omega
theorem hr_ok {x : Int} {r : List Int} {h h2 : Nat} (H : hr (x :: r) h = some h2) : (x = 1800 ∧ 1 ≤ h ∧ hr r h = some h2) ∨ ((x = 1900 ∨ x = 2000) ∧ 2 ≤ h ∧ hr r (h - 1) = some h2) ∨ ((0 ≤ x ∧ x < 1800) ∧ h ≤ 19 ∧ hr r (h + 1) = some h2) := by
  unfold hr at H
  by_cases c1 : x = 1800
  · rw [if_pos c1] at H
    by_cases c2 : 1 ≤ h
    · rw [if_pos c2] at H; exact Or.inl ⟨c1, c2, H⟩
    · rw [if_neg c2] at H; cases H
  · rw [if_neg c1] at H
    by_cases c2 : x = 1900 ∨ x = 2000
    · rw [if_pos c2] at H
      by_cases c3 : 2 ≤ h
      · rw [if_pos c3] at H; exact Or.inr (Or.inl ⟨c2, c3, H⟩)
      · rw [if_neg c3] at H; cases H
    · rw [if_neg c2] at H
      by_cases c3 : (0 ≤ x ∧ x < 1800) ∧ h ≤ 19
      · rw [if_pos c3] at H; exact Or.inr (Or.inr ⟨c3.1, c3.2, H⟩)
      · rw [if_neg c3] at H; cases H
theorem tr_pos {x : Int} (h : 0 ≤ x ∧ x < 1800) : 0 ≤ tr x ∧ tr x < 6000 := by
  have e : tr x = x / 300 * 1000 + x / 100 % 3 * 100 + x % 100 := by
    unfold tr; rw [if_neg (by omega), if_neg (by omega), if_neg (by omega)]
  rw [e]; omega
theorem ev_eq (fa : Nat → Int) : ∀ (l : List Int) (bs : List Bool) (h2 : Nat) (y : Int × Int × Int), hr l bs.length = some h2 → zevl fa l (bs, y) = (mevl fa (l.map tr) bs, y) ∧ (mevl fa (l.map tr) bs).length = h2 := by
  intro l
  induction l with
  | nil => intro bs h2 y h; exact ⟨rfl, Option.some.inj h⟩
  | cons x r ih =>
    intro bs h2 y h
    show zevl fa r (zev1 fa (x / 100) (x % 100) (bs, y)) = (mevl fa (r.map tr) (mev1 fa (tr x) bs), y) ∧ (mevl fa (r.map tr) (mev1 fa (tr x) bs)).length = h2
    have key : zev1 fa (x / 100) (x % 100) (bs, y) = (mev1 fa (tr x) bs, y) ∧ hr r (mev1 fa (tr x) bs).length = some h2 := by
      rcases hr_ok h with ⟨c1, c2, c3⟩ | ⟨c1, c2, c3⟩ | ⟨c1, c2, c3⟩
      · subst c1
        have e : mev1 fa (tr 1800) bs = (!bs.headD false) :: bs.tail := rfl
        rw [e]
        refine ⟨rfl, ?_⟩
        have : ((!bs.headD false) :: bs.tail).length = bs.length := by
          show bs.tail.length + 1 = _; rw [List.length_tail]; omega
        rw [this]; exact c3
      · have hl : ∀ b : Bool, (b :: bs.tail.tail).length = bs.length - 1 := by
          intro b; show bs.tail.tail.length + 1 = _; rw [List.length_tail, List.length_tail]; omega
        rcases c1 with c1 | c1
        · subst c1
          have e : mev1 fa (tr 1900) bs = (bs.tail.headD false && bs.headD false) :: bs.tail.tail := rfl
          rw [e, hl]
          refine ⟨?_, c3⟩
          rw [Bool.and_comm]
          rfl
        · subst c1
          have e : mev1 fa (tr 2000) bs = (bs.tail.headD false || bs.headD false) :: bs.tail.tail := rfl
          rw [e, hl]
          refine ⟨?_, c3⟩
          rw [Bool.or_comm]
          rfl
      · have hp := tr_pos c1
        have e : mev1 fa (tr x) bs = mcmp fa (tr x) :: bs := by
          unfold mev1
          rw [if_neg (by omega), if_neg (by omega), if_neg (by omega)]
        rw [e, ← cmp_eq fa c1]
        refine ⟨?_, c3⟩
        unfold zev1
        rw [if_neg (by omega), if_neg (by omega), if_neg (by omega), if_neg (by omega), if_neg (by omega), if_neg (by omega)]
    rw [key.1]
    exact ih _ h2 y key.2
def cvl (fa : Nat → Int) (c : CL1) : Bool := (mevl fa (c.1.map tr) []).headD false
def smL (fa : Nat → Int) (w : Int) (L : List CL1) : Int := match L with
  | [] => 0
  | c :: r => (if c.2.1 = w ∧ cvl fa c = true then c.2.2 else 0) + smL fa w r
def mnL (fa : Nat → Int) (L : List CL1) (a : Int) : Int := match L with
  | [] => a
  | c :: r => mnL fa r (if c.2.1 = 1 ∧ c.2.2 < a ∧ cvl fa c = true then c.2.2 else a)
theorem cl_ev (fa : Nat → Int) {c : CL1} (h : COK1 c) (a b d : Int) : zevl fa (c.1 ++ [(21 + c.2.1) * 100 + c.2.2]) ([], a, b, d) = ([], a + (if c.2.1 = 0 ∧ cvl fa c = true then c.2.2 else 0), (if c.2.1 = 1 ∧ c.2.2 < b ∧ cvl fa c = true then c.2.2 else b), d + (if c.2.1 = 2 ∧ cvl fa c = true then c.2.2 else 0)) := by
  obtain ⟨h1, h2, h3⟩ := h
  obtain ⟨e1, e2⟩ := ev_eq fa c.1 [] 1 (a, b, d) h3
  rw [zevl_app, e1]
  show zev1 fa (((21 + c.2.1) * 100 + c.2.2) / 100) (((21 + c.2.1) * 100 + c.2.2) % 100) (mevl fa (c.1.map tr) [], a, b, d) = _
  rw [show ((21 + c.2.1) * 100 + c.2.2) / 100 = 21 + c.2.1 by omega, show ((21 + c.2.1) * 100 + c.2.2) % 100 = c.2.2 by omega]
  unfold cvl
  generalize mevl fa (c.1.map tr) [] = bs at e2
  obtain ⟨v, rfl⟩ : ∃ v, bs = [v] := by
    cases bs with
    | nil => cases e2
    | cons v r => cases r with
      | nil => exact ⟨v, rfl⟩
      | cons _ _ => cases e2
  generalize c.2.2 = nb
  have hi : c.2.1 = 0 ∨ c.2.1 = 1 ∨ c.2.1 = 2 := by omega
  rcases hi with hi | hi | hi <;> rw [hi]
  · cases v
    · show ([], a + 0 * nb, b, d) = ([], a + 0, b, d + 0)
      rw [Int.zero_mul, Int.add_zero, Int.add_zero]
    · show ([], a + 1 * nb, b, d) = ([], a + nb, b, d + 0)
      rw [Int.one_mul, Int.add_zero]
  · cases v
    · show ([], a, (if false = true ∧ nb < b then nb else b), d) = ([], a + 0, (if (1 : Int) = 1 ∧ nb < b ∧ false = true then nb else b), d + 0)
      rw [if_neg (fun z => Bool.noConfusion z.1), if_neg (fun z => Bool.noConfusion z.2.2), Int.add_zero, Int.add_zero]
    · show ([], a, (if true = true ∧ nb < b then nb else b), d) = ([], a + 0, (if (1 : Int) = 1 ∧ nb < b ∧ true = true then nb else b), d + 0)
      rw [Int.add_zero, Int.add_zero]
      by_cases hb : nb < b
      · rw [if_pos ⟨rfl, hb⟩, if_pos ⟨rfl, hb, rfl⟩]
      · rw [if_neg (fun z => hb z.2), if_neg (fun z => hb z.2.1)]
  · cases v
    · show ([], a, b, d + 0 * nb) = ([], a + 0, b, d + 0)
      rw [Int.zero_mul, Int.add_zero, Int.add_zero]
    · show ([], a, b, d + 1 * nb) = ([], a + 0, b, d + nb)
      rw [Int.one_mul, Int.add_zero]
theorem cls_ev (fa : Nat → Int) : ∀ (L : List CL1) (a b d : Int), (∀ c, c ∈ L → COK1 c) → zevl fa (ccat L) ([], a, b, d) = ([], a + smL fa 0 L, mnL fa L b, d + smL fa 2 L) := by
  intro L
  induction L with
  | nil => intro a b d _; show ([], a, b, d) = ([], a + 0, b, d + 0); rw [Int.add_zero, Int.add_zero]
  | cons c r ih =>
    intro a b d h
    show zevl fa (c.1 ++ [(21 + c.2.1) * 100 + c.2.2] ++ ccat r) ([], a, b, d) = _
    rw [zevl_app, cl_ev fa (h c (List.mem_cons_self ..)), ih _ _ _ (fun c hc => h c (List.mem_cons_of_mem _ hc))]
    show _ = ([], a + ((if c.2.1 = 0 ∧ cvl fa c = true then c.2.2 else 0) + smL fa 0 r), mnL fa r (if c.2.1 = 1 ∧ c.2.2 < b ∧ cvl fa c = true then c.2.2 else b), d + ((if c.2.1 = 2 ∧ cvl fa c = true then c.2.2 else 0) + smL fa 2 r))
    rw [Int.add_assoc, Int.add_assoc]
/-- the street of a number, on both sides -/
def STC (j : Nat) (g : ZG) (L : List CL1) : Prop := g 3 j 1 = ((ccat L).length : Int) ∧ RL (g 20 j) 0 (ccat L) ∧ g 3 j 2 = if (ccat L).any (fun x => decide (x / 100 = 21)) = true then 1 else 0
def STM (j : Nat) (g : ZG) (L : List CL1) : Prop := g 35 0 j = (L.length : Int) ∧ CLS (100 * j) g (10 * j) 0 (L.map trc) ∧ SL (100 * j) g (cat (L.map trc))
def LOK1 (L : List CL1) : Prop := (∀ c, c ∈ L → COK1 c) ∧ L.length ≤ 10 ∧ (ccat L).length ≤ 100
theorem ccat_cat : ∀ L : List CL1, (cat (L.map trc)).length + L.length = (ccat L).length := by
  intro L
  induction L with
  | nil => rfl
  | cons c r ih =>
    show (c.1.map tr ++ cat (r.map trc)).length + (r.length + 1) = (c.1 ++ [(21 + c.2.1) * 100 + c.2.2] ++ ccat r).length
    rw [List.length_append, List.length_append, List.length_append, List.length_map, ← ih]
    show _ = c.1.length + 1 + _
    omega
theorem hr_small {l : List Int} : ∀ {h h2 : Nat}, hr l h = some h2 → l.any (fun x => decide (x / 100 = 21)) = false := by
  induction l with
  | nil => intro h h2 _; rfl
  | cons x r ih =>
    intro h h2 H
    show (decide (x / 100 = 21) || r.any _) = false
    rcases hr_ok H with ⟨c1, _, c3⟩ | ⟨c1, _, c3⟩ | ⟨c1, _, c3⟩
    all_goals
      rw [ih c3, decide_eq_false (by omega)]
      rfl
theorem any_eq : ∀ L : List CL1, (∀ c, c ∈ L → COK1 c) → (ccat L).any (fun x => decide (x / 100 = 21)) = L.any (fun c => decide (c.2.1 = 0)) := by
  intro L
  induction L with
  | nil => intro _; rfl
  | cons c r ih =>
    intro h
    have hc := h c (List.mem_cons_self ..)
    show (c.1 ++ [(21 + c.2.1) * 100 + c.2.2] ++ ccat r).any _ = (decide (c.2.1 = 0) || r.any _)
    rw [List.any_append, List.any_append, ih (fun c hc => h c (List.mem_cons_of_mem _ hc)), hr_small hc.2.2]
    show (false || (decide (((21 + c.2.1) * 100 + c.2.2) / 100 = 21) || false) || _) = _
    have := hc.2.1
    have e : decide (((21 + c.2.1) * 100 + c.2.2) / 100 = 21) = decide (c.2.1 = 0) := decide_eq_decide.mpr (by omega)
    rw [e, Bool.or_false, Bool.false_or]
/-- the model's clauses, one after another -/
theorem SL.rl {base : Nat} {G : ZG} {out : List Int} (h : SL base G out) : RL (G 40 0) base out := h
theorem mcl_go {g : ZG} {base : Nat} : ∀ (L : List CL1) (b off : Nat), CLS base g b off (L.map trc) → RL (g 40 0) (base + off) (cat (L.map trc)) → (∀ c, c ∈ L → COK1 c) →
    (∀ fa w, zsum (fun c => if g 36 0 c = w ∧ mSo g fa c = true then g 37 0 c else 0) L.length b = smL fa w L) ∧ (∀ fa a, mMin g fa L.length b a = mnL fa L a) ∧ (decide (zfst (fun c => decide (g 36 0 c = 0)) L.length b ≠ -1) = L.any (fun c => decide (c.2.1 = 0))) := by
  intro L
  induction L with
  | nil => intro b off _ _ _; exact ⟨fun _ _ => rfl, fun _ _ => rfl, rfl⟩
  | cons c r ih =>
    intro b off h1 h2 h3
    obtain ⟨⟨e1, e2, e3, e4⟩, e5⟩ := h1
    have e1 : g 36 0 b = c.2.1 := e1
    have e2 : g 37 0 b = c.2.2 := e2
    have h2 : RL (g 40 0) (base + off) (c.1.map tr ++ cat (r.map trc)) := h2
    obtain ⟨r1, r2⟩ := h2.app
    obtain ⟨i1, i2, i3⟩ := ih (b + 1) (off + (c.1.map tr).length) e5 (by rw [← Nat.add_assoc]; exact r2) (fun c hc => h3 c (List.mem_cons_of_mem _ hc))
    have hso : ∀ fa, mSo g fa b = cvl fa c := by
      intro fa
      unfold mSo cvl
      have e3 : g 38 0 b = (base : Int) + off := e3
      have e4 : g 39 0 b = (base : Int) + ((off + (c.1.map tr).length : Nat) : Int) := e4
      rw [e3, e4, show ((base : Int) + ((off + (c.1.map tr).length : Nat) : Int) - ((base : Int) + off)).toNat = (c.1.map tr).length by omega, show ((base : Int) + (off : Int)).toNat = base + off by omega, mev_l _ _ _ r1]
    refine ⟨fun fa w => ?_, fun fa a => ?_, ?_⟩
    · show zsum _ (r.length + 1) b = _
      rw [zsum_s, i1 fa w, e1, e2, hso]
      rfl
    · show mMin g fa (r.length + 1) b a = _
      unfold mMin
      rw [i2, e1, e2, hso]
      rfl
    · show decide (zfst (fun c => decide (g 36 0 c = 0)) (r.length + 1) b ≠ -1) = (decide (c.2.1 = 0) || r.any _)
      rw [← i3]
      by_cases hc : c.2.1 = 0
      · rw [decide_eq_true hc, Bool.true_or]
        refine decide_eq_true (fun z => ?_)
        have := zfst_none.mp z b (Nat.le_refl _) (by omega)
        rw [e1] at this
        exact absurd hc (of_decide_eq_false this)
      · rw [decide_eq_false hc, Bool.false_or]
        refine decide_eq_decide.mpr (not_congr ?_)
        rw [zfst_none, zfst_none]
        constructor
        · intro z j h1 h2; exact z j (by omega) (by omega)
        · intro z j h1 h2
          by_cases hj : j = b
          · rw [hj, e1]; exact decide_eq_false hc
          · exact z j (by omega) (by omega)
theorem W_eq {g : ZG} {j : Nat} {L : List CL1} (hc : STC j g L) (hm : STM j g L) (hL : LOK1 L) (h9 : g 8 0 9 = (j : Int)) : zwC g j = mW g := by
  funext p s k h f m
  have hfc : mfc g = ((10 * j : Nat) : Int) := by unfold mfc; rw [if_neg (by omega), h9]; omega
  have hbh : mbh g = ((10 * j : Nat) : Int) + L.length := by unfold mbh; rw [if_neg (by omega), h9, Int.toNat_natCast, hm.1]; omega
  have hcount : (mbh g - mfc g).toNat = L.length := by rw [hfc, hbh]; omega
  have hat : (mfc g).toNat = 10 * j := by rw [hfc]; omega
  obtain ⟨g1, g2, g3⟩ := mcl_go L (10 * j) 0 hm.2.1 (by rw [Nat.add_zero]; exact hm.2.2.rl) hL.1
  have ev := cls_ev (zfa p s k h f m) L 0 100 0 hL.1
  show zwres (g 3 j 2) (zev (zfa p s k h f m) (g 20 j) (g 3 j 1).toNat 0 ([], 0, 100, 0)) = (mWw g (zfa p s k h f m), mMin g (zfa p s k h f m) (mbh g - mfc g).toNat (mfc g).toNat 100, mWs g 2 (zfa p s k h f m))
  have hws : ∀ w, mWs g w (zfa p s k h f m) = smL (zfa p s k h f m) w L := by
    intro w; unfold mWs; rw [hcount, hat]; exact g1 _ w
  rw [hc.1, Int.toNat_natCast, zev_l _ _ _ hc.2.1, ev, hcount, hat, g2, hws, hc.2.2, any_eq L hL.1]
  have hwh : mWh g = L.any (fun c => decide (c.2.1 = 0)) := by unfold mWh; rw [hcount, hat]; exact g3
  unfold zwres mWw
  rw [hwh, hws, Int.zero_add, Int.zero_add]
  cases L.any (fun c => decide (c.2.1 = 0)) with
  | true =>
    rw [if_neg (by decide)]
    rfl
  | false => rfl
theorem W_none {g : ZG} (h1 : g 3 6 1 = 0) (h2 : g 3 6 2 = 0) (h9 : g 8 0 9 = -1) : zwC g 6 = mW g := by
  funext p s k h f m
  have hfc : mfc g = 0 := by unfold mfc; rw [if_pos (by omega)]
  have hbh : mbh g = 0 := by unfold mbh; rw [if_pos (by omega)]
  have hwh : mWh g = false := by unfold mWh; rw [hfc, hbh]; rfl
  show zwres (g 3 6 2) (zev (zfa p s k h f m) (g 20 6) (g 3 6 1).toNat 0 ([], 0, 100, 0)) = (mWw g (zfa p s k h f m), mMin g (zfa p s k h f m) (mbh g - mfc g).toNat (mfc g).toNat 100, mWs g 2 (zfa p s k h f m))
  unfold mWw mWs
  rw [h1, h2, hwh, hfc, hbh]
  rfl
theorem zwfs_l {st : Nat → Int} : ∀ (l : List Int) (n k h h2 : Nat), hr l h = some h2 → RL st k l → zwfs st n (k + l.length) h2 → zwfs st (l.length + n) k h := by
  intro l
  induction l with
  | nil => intro n k h h2 H _ hz; cases H; rw [show ([] : List Int).length + n = n from Nat.zero_add _]; exact hz
  | cons x r ih =>
    intro n k h h2 H hR hz
    have hz : zwfs st n (k + (r.length + 1)) h2 := hz
    rw [show (x :: r).length + n = r.length + n + 1 by show r.length + 1 + n = _; omega, zwfs_s, hR.hd.1]
    rw [show k + (r.length + 1) = k + 1 + r.length by omega] at hz
    rcases hr_ok H with ⟨c1, c2, c3⟩ | ⟨c1, c2, c3⟩ | ⟨c1, c2, c3⟩
    · refine ⟨by omega, ?_, ?_⟩
      · unfold zht; rw [if_pos (by omega)]; exact c2
      · unfold znx; rw [if_pos (by omega)]; exact ih n (k + 1) h h2 c3 hR.hd.2 hz
    · refine ⟨by omega, ?_, ?_⟩
      · unfold zht; rw [if_neg (by omega), if_pos (by omega)]; exact c2
      · unfold znx; rw [if_neg (by omega), if_pos (by omega)]; exact ih n (k + 1) (h - 1) h2 c3 hR.hd.2 hz
    · refine ⟨by omega, ?_, ?_⟩
      · unfold zht; rw [if_neg (by omega), if_neg (by omega), if_neg (by omega)]; exact c2
      · unfold znx; rw [if_neg (by omega), if_neg (by omega), if_neg (by omega)]; exact ih n (k + 1) (h + 1) h2 c3 hR.hd.2 hz
theorem zwfs_L {st : Nat → Int} : ∀ (L : List CL1) (k : Nat), (∀ c, c ∈ L → COK1 c) → RL st k (ccat L) → zwfs st (ccat L).length k 0 := by
  intro L
  induction L with
  | nil => intro k _ _; rfl
  | cons c r ih =>
    intro k h hR
    have hc := h c (List.mem_cons_self ..)
    have hR : RL st k (c.1 ++ [(21 + c.2.1) * 100 + c.2.2] ++ ccat r) := hR
    obtain ⟨r1, r2⟩ := hR.app
    obtain ⟨r3, r4⟩ := r1.app
    have ih := ih _ (fun c hc => h c (List.mem_cons_of_mem _ hc)) r2
    show zwfs st (c.1 ++ [(21 + c.2.1) * 100 + c.2.2] ++ ccat r).length k 0
    rw [List.length_append, List.length_append, Nat.add_assoc]
    refine zwfs_l c.1 _ k 0 1 hc.2.2 r3 ?_
    rw [show [(21 + c.2.1) * 100 + c.2.2].length + (ccat r).length = (ccat r).length + 1 from Nat.add_comm _ _, zwfs_s, r4.hd.1]
    have h1 := hc.1
    have h2 := hc.2.1
    refine ⟨by omega, ?_, ?_⟩
    · unfold zht; rw [if_neg (by omega), if_neg (by omega), if_pos (by omega)]
    · unfold znx; rw [if_neg (by omega), if_neg (by omega), if_pos (by omega)]
      rw [List.length_append] at ih
      exact ih
theorem mwf_l {st : Nat → Int} : ∀ (l : List Int) (k h : Nat), hr l h = some 1 → RL st k (l.map tr) → mwf st (l.map tr).length k h := by
  intro l
  induction l with
  | nil => intro k h H _; cases H; rfl
  | cons x r ih =>
    intro k h H hR
    have hR : RL st k (tr x :: r.map tr) := hR
    show mwf st ((r.map tr).length + 1) k h
    refine ⟨?_, ?_, ?_⟩
    all_goals rw [hR.hd.1]
    · rcases hr_ok H with ⟨c1, c2, c3⟩ | ⟨c1, c2, c3⟩ | ⟨c1, c2, c3⟩
      · rw [c1]; decide
      · rcases c1 with c1 | c1 <;> rw [c1] <;> decide
      · have := tr_pos c1; omega
    · rcases hr_ok H with ⟨c1, c2, c3⟩ | ⟨c1, c2, c3⟩ | ⟨c1, c2, c3⟩
      · rw [c1]; exact c2
      · rcases c1 with c1 | c1 <;> rw [c1] <;> exact c2
      · have := tr_pos c1
        unfold mht; rw [if_neg (by omega), if_neg (by omega)]; omega
    · rcases hr_ok H with ⟨c1, c2, c3⟩ | ⟨c1, c2, c3⟩ | ⟨c1, c2, c3⟩
      · rw [c1]; exact ih (k + 1) h c3 hR.hd.2
      · rcases c1 with c1 | c1 <;> rw [c1] <;> exact ih (k + 1) (h - 1) c3 hR.hd.2
      · have := tr_pos c1
        unfold mnx; rw [if_neg (by omega), if_neg (by omega)]
        exact ih (k + 1) (h + 1) c3 hR.hd.2
theorem mcl_L {g : ZG} {base : Nat} (hb : base ≤ 500) : ∀ (L : List CL1) (b off : Nat), off + (cat (L.map trc)).length ≤ 100 → CLS base g b off (L.map trc) → RL (g 40 0) (base + off) (cat (L.map trc)) → (∀ c, c ∈ L → COK1 c) → ∀ c : Nat, b ≤ c → c < b + L.length → (0 ≤ g 36 0 c ∧ g 36 0 c ≤ 2) ∧ (0 ≤ g 37 0 c ∧ g 37 0 c ≤ 99) ∧ (0 ≤ g 38 0 c ∧ g 38 0 c ≤ g 39 0 c ∧ g 39 0 c ≤ 600) ∧ mwf (g 40 0) (g 39 0 c - g 38 0 c).toNat (g 38 0 c).toNat 0 := by
  intro L
  induction L with
  | nil => intro b off _ _ _ _ c h1 h2; exact absurd h2 (by show ¬ c < b + 0; omega)
  | cons x r ih =>
    intro b off hlen h1 h2 h3 c c1 c2
    have hx := h3 x (List.mem_cons_self ..)
    obtain ⟨⟨e1, e2, e3, e4⟩, e5⟩ := h1
    have e1 : g 36 0 b = x.2.1 := e1
    have e2 : g 37 0 b = x.2.2 := e2
    have e3 : g 38 0 b = (base : Int) + off := e3
    have e4 : g 39 0 b = (base : Int) + ((off + (x.1.map tr).length : Nat) : Int) := e4
    have h2 : RL (g 40 0) (base + off) (x.1.map tr ++ cat (r.map trc)) := h2
    have hlen : off + (x.1.map tr ++ cat (r.map trc)).length ≤ 100 := hlen
    rw [List.length_append] at hlen
    obtain ⟨r1, r2⟩ := h2.app
    by_cases hc : c = b
    · subst hc
      have hx1 := hx.1
      have hx2 := hx.2.1
      rw [e1, e2, e3, e4]
      refine ⟨hx1, by omega, by omega, ?_⟩
      rw [show ((base : Int) + ((off + (x.1.map tr).length : Nat) : Int) - ((base : Int) + off)).toNat = (x.1.map tr).length by omega, show ((base : Int) + (off : Int)).toNat = base + off by omega]
      exact mwf_l _ _ _ hx.2.2 r1
    · exact ih (b + 1) (off + (x.1.map tr).length) (by omega) e5 (by rw [← Nat.add_assoc]; exact r2) (fun c hc => h3 c (List.mem_cons_of_mem _ hc)) c (by omega) (by have : c < b + (r.length + 1) := c2; omega)
theorem STM.mcl {g : ZG} {j : Nat} {L : List CL1} (hj : j ≤ 5) (hm : STM j g L) (hL : LOK1 L) (h9 : g 8 0 9 = (j : Int)) : MCL g := by
  have hfc : mfc g = ((10 * j : Nat) : Int) := by unfold mfc; rw [if_neg (by omega), h9]; omega
  have hbh : mbh g = ((10 * j : Nat) : Int) + L.length := by unfold mbh; rw [if_neg (by omega), h9, Int.toNat_natCast, hm.1]; omega
  have hcc := ccat_cat L
  have hl2 := hL.2
  refine ⟨by omega, fun _ => ?_, fun c h1 h2 => ?_⟩
  · rw [h9, Int.toNat_natCast, hm.1]; omega
  · rw [hfc] at h1
    rw [hbh] at h2
    exact mcl_L (base := 100 * j) (by omega) L (10 * j) 0 (by omega) hm.2.1 (by rw [Nat.add_zero]; exact hm.2.2.rl) hL.1 c (by omega) (by omega)
theorem mcl_none {g : ZG} (h9 : g 8 0 9 = -1) : MCL g := by
  have hfc : mfc g = 0 := by unfold mfc; rw [if_pos (by omega)]
  have hbh : mbh g = 0 := by unfold mbh; rw [if_pos (by omega)]
  refine ⟨by omega, fun h => by omega, fun c h1 h2 => ?_⟩
  rw [hbh] at h2
  omega
