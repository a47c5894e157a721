/-! both parsers read the same -/
/-- a step of the component as a sign of the model -/
def tr (x : Int) : Int := if x = 1800 then -33 else if x = 1900 then -38 else if x = 2000 then -124 else x / 300 * 1000 + x / 100 % 3 * 100 + x % 100
theorem tr_test {k r n : Int} (hk : 0 ≤ k ∧ k ≤ 5) (hr : 0 ≤ r ∧ r < 3) (hn : 0 ≤ n ∧ n < 100) : tr ((k * 3 + r) * 100 + n) = 1000 * k + 100 * r + n := by
  unfold tr
  rw [if_neg (by omega), if_neg (by omega), if_neg (by omega)]
  have e1 : ((k * 3 + r) * 100 + n) / 300 = k := by omega
  have e2 : ((k * 3 + r) * 100 + n) / 100 % 3 = r := by omega
  have e3 : ((k * 3 + r) * 100 + n) % 100 = n := by omega
  rw [e1, e2, e3]; omega
/-- how high the truths stand after some steps -/
def hr (l : List Int) (h : Nat) : Option Nat := match l with
  | [] => some h
  | x :: r => if x = 1800 then (if 1 ≤ h then hr r h else none) else if x = 1900 ∨ x = 2000 then (if 2 ≤ h then hr r (h - 1) else none) else if (0 ≤ x ∧ x < 1800) ∧ h ≤ 19 then hr r (h + 1) else none
theorem hr_app : ∀ (a b : List Int) (h : Nat), hr (a ++ b) h = (hr a h).bind (hr b) := by
  intro a
  induction a with
  | nil => intro b h; rfl
  | cons x r ih =>
    intro b h
    show (if x = 1800 then (if 1 ≤ h then hr (r ++ b) h else none) else if x = 1900 ∨ x = 2000 then (if 2 ≤ h then hr (r ++ b) (h - 1) else none) else if (0 ≤ x ∧ x < 1800) ∧ h ≤ 19 then hr (r ++ b) (h + 1) else none) = Option.bind (if x = 1800 then (if 1 ≤ h then hr r h else none) else if x = 1900 ∨ x = 2000 then (if 2 ≤ h then hr r (h - 1) else none) else if (0 ≤ x ∧ x < 1800) ∧ h ≤ 19 then hr r (h + 1) else none) (hr b)
    rw [ih, ih, ih]
    repeat' split
    all_goals rfl
def LKP (lk : Int → Int) (n : Int) : Prop := (0 ≤ n ∧ n ≤ 100) ∧ ∀ b, lk b ≠ -1 → 0 ≤ b ∧ b < n
/-- the model's machine ends with this -/
def XW (lk : Int → Int) (w : Bool) (s : MPS) (res : Bool × MPS) : Prop := ∃ N, xRun lk N w s = some res
theorem XW_push {lk : Int → Int} {a o : Int} {om w : List Int} {res : Bool × MPS} (h1 : lk a = 33 ∨ lk a = 40) (h2 : o ≠ 4) : XW lk true (a + 1, om, lk a :: w, o + 1) res → XW lk true (a, om, w, o) res := fun ⟨N, h⟩ => ⟨N + 1, ((if_pos h1).trans (if_neg h2)).trans h⟩
theorem XW_full {lk : Int → Int} {a o : Int} {om w : List Int} (h1 : lk a = 33 ∨ lk a = 40) (h2 : o = 4) : XW lk true (a, om, w, o) (false, (a, om, w, o)) := ⟨1, (if_pos h1).trans (if_pos h2)⟩
theorem XW_test {lk : Int → Int} {a o : Int} {om w : List Int} {res : Bool × MPS} (h1 : ¬ (lk a = 33 ∨ lk a = 40)) (h2 : (xTest lk a om w o).1 = true) : XW lk false (xTest lk a om w o).2 res → XW lk true (a, om, w, o) res := fun ⟨N, h⟩ => ⟨N + 1, ((if_neg h1).trans (if_pos h2)).trans h⟩
theorem XW_tf {lk : Int → Int} {a o : Int} {om w : List Int} (h1 : ¬ (lk a = 33 ∨ lk a = 40)) (h2 : ¬ (xTest lk a om w o).1 = true) : XW lk true (a, om, w, o) (false, (xTest lk a om w o).2) := ⟨1, (if_neg h1).trans (if_neg h2)⟩
theorem XW_op {lk : Int → Int} {a o : Int} {om w : List Int} {res : Bool × MPS} (h1 : lk a = 38 ∨ lk a = 124) : XW lk true (a + 1, (xSe (lk a) a om w o).2.1, lk a :: (xSe (lk a) a om w o).2.2.1, o) res → XW lk false (a, om, w, o) res := fun ⟨N, h⟩ => ⟨N + 1, (if_pos h1).trans h⟩
theorem xRun_f {lk : Int → Int} {a o : Int} {om w : List Int} (N : Nat) (h1 : ¬ (lk a = 38 ∨ lk a = 124)) : xRun lk (N + 1) false (a, om, w, o) = (match (xSe 124 a om w o).2.2.1 with
      | [] => some (true, xSe 124 a om w o)
      | _ :: r => if lk a = 41 then xRun lk N false (xWh (a + 1) (xSe 124 a om w o).2.1 r (o - 1)) else some (false, xSe 124 a om w o)) := if_neg h1
theorem XW_end {lk : Int → Int} {a o : Int} {om om2 w : List Int} (h1 : ¬ (lk a = 38 ∨ lk a = 124)) (h2 : xSe 124 a om w o = (a, om2, [], o)) : XW lk false (a, om, w, o) (true, (a, om2, [], o)) := ⟨1, by rw [xRun_f 0 h1, h2]⟩
theorem XW_cl {lk : Int → Int} {a o x : Int} {om om2 w r : List Int} {res : Bool × MPS} (h1 : lk a = 41) (h2 : xSe 124 a om w o = (a, om2, x :: r, o)) : XW lk false (xWh (a + 1) om2 r (o - 1)) res → XW lk false (a, om, w, o) res := fun ⟨N, h⟩ => ⟨N + 1, by rw [xRun_f N (by omega), h2]; exact (if_pos h1).trans h⟩
theorem XW_nc {lk : Int → Int} {a o x : Int} {om om2 w r : List Int} (h1 : ¬ (lk a = 38 ∨ lk a = 124)) (h3 : lk a ≠ 41) (h2 : xSe 124 a om w o = (a, om2, x :: r, o)) : XW lk false (a, om, w, o) (false, (a, om2, x :: r, o)) := ⟨1, by rw [xRun_f 0 h1, h2]; exact if_neg h3⟩
theorem xSe_two : ∀ (w : List Int) (a : Int) (out : List Int) (o : Int) (a1 o1 : Int) (out1 w1 : List Int), xSe 38 a out w o = (a1, out1, w1, o1) → xSe 124 a out w o = xSe 124 a1 out1 w1 o1 := by
  intro w
  induction w with
  | nil => intro a out o a1 o1 out1 w1 h; cases h; rfl
  | cons x r ih =>
    intro a out o a1 o1 out1 w1 h
    unfold xSe at h
    by_cases hx : x = 38
    · rw [if_pos (Or.inl hx)] at h
      have := ih a (out ++ [-x]) o a1 o1 out1 w1 h
      rw [← this]
      exact if_pos (Or.inl hx)
    · rw [if_neg (fun z => z.elim hx (fun y => y.2 rfl))] at h
      cases h
      rfl
theorem xSe_id {c a o : Int} {out w : List Int} (h1 : w.headD 0 ≠ 38) (h2 : c = 38 ∨ w.headD 0 ≠ 124) : xSe c a out w o = (a, out, w, o) := by
  cases w with
  | nil => rfl
  | cons x r =>
    refine if_neg (fun z => ?_)
    rcases z with z | ⟨z, y⟩
    · exact h1 z
    · rcases h2 with h2 | h2
      · exact y h2
      · exact h2 z
theorem xSe_pop {c a o x : Int} {out w : List Int} (h : x = 38 ∨ (x = 124 ∧ c ≠ 38)) : xSe c a out (x :: w) o = xSe c a (out ++ [-x]) w o := if_pos h
theorem xWh_id {a o : Int} {out w : List Int} (h : w.headD 0 ≠ 33) : xWh a out w o = (a, out, w, o) := by
  cases w with
  | nil => rfl
  | cons x r => exact if_neg h
theorem xWh_pop {a o : Int} {out w : List Int} : xWh a out (33 :: w) o = xWh a (out ++ [-33]) w (o - 1) := if_pos rfl
/-- the component reads a piece, and the model's machine reads the same -/
def GD (lk : Int → Int) (n : Int) (B : Nat) (o : Int) (f : PS → PS) (hw : List Int → Prop) (fin : Int → List Int → List Int → MPS → Prop) : Prop :=
  ∀ (a : Int) (out : List Int), 0 ≤ a → a ≤ n → (out.length : Int) ≤ a →
    (∃ a1 out1, f (a, false, out) = (a1, true, out1) ∧ a ≤ a1 ∧ a1 ≤ n ∧ ∀ om w, hw w → ∃ res, XW lk true (a, om, w, o) res ∧ res.1 = false ∧ res.2.1 = a1) ∨
    (∃ a1 tk, f (a, false, out) = (a1, false, out ++ tk) ∧ a + tk.length + 2 ≤ a1 ∧ a1 ≤ n ∧ (∀ h, h + B ≤ 20 → hr tk h = some (h + 1)) ∧ ∀ om w, hw w → ∃ S, fin a1 (om ++ tk.map tr) w S ∧ ∀ res, XW lk false S res → XW lk true (a, om, w, o) res)
def fPa (o : Int) : Int → List Int → List Int → MPS → Prop := fun a om w S => S = xWh a om w o
def fBo (lk : Int → Int) (o : Int) : Int → List Int → List Int → MPS → Prop := fun a om w S => (S.1 = a ∧ S.2.2.2 = o ∧ xSe 38 a S.2.1 S.2.2.1 o = (a, om, w, o)) ∧ lk a ≠ 38
def fEi (lk : Int → Int) (o : Int) : Int → List Int → List Int → MPS → Prop := fun a om w S => (S.1 = a ∧ S.2.2.2 = o ∧ xSe 124 a S.2.1 S.2.2.1 o = (a, om, w, o)) ∧ ¬ (lk a = 38 ∨ lk a = 124)
def wBo (w : List Int) : Prop := w.headD 0 ≠ 33 ∧ w.headD 0 ≠ 38
def wEi (w : List Int) : Prop := wBo w ∧ w.headD 0 ≠ 124
theorem pOne_s (lk : Int → Int) (l : List Int) (n k : Nat) (s : PS) : pOne lk l (n + 1) k s = if s.2.1 = false ∧ lk s.1 = l.getD k 0 then ((k : Int), (s.1 + 1, s.2)) else pOne lk l n (k + 1) s := rfl
theorem pOne_0 (lk : Int → Int) (l : List Int) (k : Nat) (s : PS) : pOne lk l 0 k s = (0, (s.1, true, s.2.2)) := rfl
theorem pOne_f {lk : Int → Int} {l : List Int} {a : Int} {out : List Int} : ∀ n k, pOne lk l n k (a, true, out) = (0, (a, true, out)) := by
  intro n
  induction n with
  | zero => intro k; rfl
  | succ n ih => intro k; exact (if_neg (fun z => Bool.noConfusion z.1)).trans (ih (k + 1))
theorem pOne13 {lk : Int → Int} {a : Int} {out : List Int} : pOne lk (zxr 13) 6 0 (a, false, out) = if xPl (lk a) < 0 then (0, (a, true, out)) else (xPl (lk a), (a + 1, false, out)) := by
  show (if false = false ∧ lk a = 112 then (((0 : Nat) : Int), (a + 1, false, out)) else if false = false ∧ lk a = 115 then (((1 : Nat) : Int), (a + 1, false, out)) else if false = false ∧ lk a = 107 then (((2 : Nat) : Int), (a + 1, false, out)) else if false = false ∧ lk a = 104 then (((3 : Nat) : Int), (a + 1, false, out)) else if false = false ∧ lk a = 102 then (((4 : Nat) : Int), (a + 1, false, out)) else if false = false ∧ lk a = 109 then (((5 : Nat) : Int), (a + 1, false, out)) else (0, (a, true, out))) = _
  unfold xPl
  generalize lk a = c
  by_cases h1 : c = 112
  · subst h1; rfl
  · by_cases h2 : c = 115
    · subst h2; rfl
    · by_cases h3 : c = 107
      · subst h3; rfl
      · by_cases h4 : c = 104
        · subst h4; rfl
        · by_cases h5 : c = 102
          · subst h5; rfl
          · by_cases h6 : c = 109
            · subst h6; rfl
            · simp only [h1, h2, h3, h4, h5, h6, and_false, if_false]
              rfl
theorem pOne14 {lk : Int → Int} {a : Int} {out : List Int} : pOne lk (zxr 14) 3 0 (a, false, out) = if 60 ≤ lk a ∧ lk a ≤ 62 then (lk a - 60, (a + 1, false, out)) else (0, (a, true, out)) := by
  show (if false = false ∧ lk a = 60 then (((0 : Nat) : Int), (a + 1, false, out)) else if false = false ∧ lk a = 61 then (((1 : Nat) : Int), (a + 1, false, out)) else if false = false ∧ lk a = 62 then (((2 : Nat) : Int), (a + 1, false, out)) else (0, (a, true, out))) = _
  generalize lk a = c
  by_cases h1 : c = 60
  · subst h1; rfl
  · by_cases h2 : c = 61
    · subst h2; rfl
    · by_cases h3 : c = 62
      · subst h3; rfl
      · rw [if_neg (fun z => h1 z.2), if_neg (fun z => h2 z.2), if_neg (fun z => h3 z.2), if_neg (show ¬ (60 ≤ c ∧ c ≤ 62) by omega)]
theorem pNum_x {lk : Int → Int} {a : Int} {out : List Int} : pNum lk (a, false, out) = if 48 ≤ lk a ∧ lk a ≤ 57 then ((xNum lk a).1, ((xNum lk a).2, false, out)) else (0, (a, true, out)) := by
  unfold pNum xNum
  by_cases h : 48 ≤ lk a ∧ lk a ≤ 57
  · rw [if_neg (fun z => z.elim (fun y => Bool.noConfusion y) (fun y => y h)), if_pos h]
    by_cases h2 : 48 ≤ lk (a + 1) ∧ lk (a + 1) ≤ 57
    · rw [if_pos h2, if_pos h2]
    · rw [if_neg h2, if_neg h2]
  · rw [if_pos (Or.inr h), if_neg h]
theorem pNum_ft {lk : Int → Int} {a : Int} {out : List Int} : pNum lk (a, true, out) = (0, (a, true, out)) := if_pos (Or.inl rfl)
theorem pAdd_ok {x a : Int} {out : List Int} {b : Bool} (h : out.length < 100) : pAdd x (a, b, out) = (a, b, out ++ [x]) := by
  show (a, b, if out.length < 100 then out ++ [x] else out) = _
  rw [if_pos h]
theorem pAdd_f {x a : Int} {out : List Int} {b : Bool} : ∃ out2, pAdd x (a, b, out) = (a, b, out2) := ⟨_, rfl⟩
theorem pEx_y {lk : Int → Int} {w a : Int} {out : List Int} (h : lk a = w) : pEx lk w (a, false, out) = (a + 1, false, out) := (if_neg Bool.false_ne_true).trans (if_pos h)
theorem pEx_n {lk : Int → Int} {w a : Int} {out : List Int} (h : lk a ≠ w) : pEx lk w (a, false, out) = (a, true, out) := (if_neg Bool.false_ne_true).trans (if_neg h)
theorem pEx_f {lk : Int → Int} {w a : Int} {out : List Int} : pEx lk w (a, true, out) = (a, true, out) := if_pos rfl
theorem xNum_b {lk : Int → Int} {n a : Int} (hl : LKP lk n) (h : 48 ≤ lk a ∧ lk a ≤ 57) : (0 ≤ (xNum lk a).1 ∧ (xNum lk a).1 < 100) ∧ a + 1 ≤ (xNum lk a).2 ∧ (xNum lk a).2 ≤ n := by
  have h0 := hl.2 a (by omega)
  unfold xNum
  by_cases h2 : 48 ≤ lk (a + 1) ∧ lk (a + 1) ≤ 57
  · rw [if_pos h2]
    have h1 := hl.2 (a + 1) (by omega)
    exact ⟨⟨by show 0 ≤ (lk a - 48) * 10 + lk (a + 1) - 48; omega, by show (lk a - 48) * 10 + lk (a + 1) - 48 < 100; omega⟩, by show a + 1 ≤ a + 2; omega, by show a + 2 ≤ n; omega⟩
  · rw [if_neg h2]
    exact ⟨⟨by show 0 ≤ lk a - 48; omega, by show lk a - 48 < 100; omega⟩, by show a + 1 ≤ a + 1; omega, by show a + 1 ≤ n; omega⟩
theorem GD_test {lk : Int → Int} {n o : Int} (hl : LKP lk n) : ∀ (a : Int) (out : List Int), 0 ≤ a → a ≤ n → (out.length : Int) ≤ a → (o = 4 ∨ ¬ (lk a = 33 ∨ lk a = 40)) →
    (∃ a1 out1, pTest lk (a, false, out) = (a1, true, out1) ∧ a ≤ a1 ∧ a1 ≤ n ∧ ∀ om w, ∃ res, XW lk true (a, om, w, o) res ∧ res.1 = false ∧ res.2.1 = a1) ∨
    (∃ a1 tk, pTest lk (a, false, out) = (a1, false, out ++ tk) ∧ a + tk.length + 2 ≤ a1 ∧ a1 ≤ n ∧ (∀ h, h + 1 ≤ 20 → hr tk h = some (h + 1)) ∧ ∀ om w, ∃ S, fPa o a1 (om ++ tk.map tr) w S ∧ ∀ res, XW lk false S res → XW lk true (a, om, w, o) res) := by
  intro a out h0 hn ho hh
  have hn1 := hl.1
  unfold pTest
  rw [pOne13]
  by_cases c0 : lk a = 33 ∨ lk a = 40
  · have hx : xPl (lk a) < 0 := by rcases c0 with c0 | c0 <;> rw [c0] <;> decide
    rw [if_pos hx]
    show (∃ a1 out1, pAdd _ (pNum lk (pOne lk (zxr 14) 3 0 (a, true, out)).2).2 = _ ∧ _) ∨ _
    rw [pOne_f, pNum_ft]
    refine Or.inl ⟨a, _, rfl, Int.le_refl _, hn, fun om w => ⟨_, XW_full c0 (hh.elim id (fun z => absurd c0 z)), rfl, rfl⟩⟩
  · by_cases c1 : xPl (lk a) < 0
    · rw [if_pos c1]
      show (∃ a1 out1, pAdd _ (pNum lk (pOne lk (zxr 14) 3 0 (a, true, out)).2).2 = _ ∧ _) ∨ _
      rw [pOne_f, pNum_ft]
      refine Or.inl ⟨a, _, rfl, Int.le_refl _, hn, fun om w => ?_⟩
      have e : xTest lk a om w o = (false, (a, om, w, o)) := if_pos c1
      exact ⟨_, XW_tf c0 (by rw [e]; exact Bool.false_ne_true), rfl, by rw [e]⟩
    · rw [if_neg c1]
      have l0 := hl.2 a (fun z => by rw [z] at c1; exact c1 (by decide))
      show (∃ a1 out1, pAdd ((xPl (lk a) * 3 + (pOne lk (zxr 14) 3 0 (a + 1, false, out)).1) * 100 + (pNum lk (pOne lk (zxr 14) 3 0 (a + 1, false, out)).2).1) (pNum lk (pOne lk (zxr 14) 3 0 (a + 1, false, out)).2).2 = _ ∧ _) ∨ (∃ a1 tk, pAdd ((xPl (lk a) * 3 + (pOne lk (zxr 14) 3 0 (a + 1, false, out)).1) * 100 + (pNum lk (pOne lk (zxr 14) 3 0 (a + 1, false, out)).2).1) (pNum lk (pOne lk (zxr 14) 3 0 (a + 1, false, out)).2).2 = _ ∧ _)
      rw [pOne14]
      by_cases c2 : 60 ≤ lk (a + 1) ∧ lk (a + 1) ≤ 62
      · rw [if_pos c2]
        have l1 := hl.2 (a + 1) (by omega)
        show (∃ a1 out1, pAdd ((xPl (lk a) * 3 + (lk (a + 1) - 60)) * 100 + (pNum lk (a + 1 + 1, false, out)).1) (pNum lk (a + 1 + 1, false, out)).2 = _ ∧ _) ∨ (∃ a1 tk, pAdd ((xPl (lk a) * 3 + (lk (a + 1) - 60)) * 100 + (pNum lk (a + 1 + 1, false, out)).1) (pNum lk (a + 1 + 1, false, out)).2 = _ ∧ _)
        rw [show a + 1 + 1 = a + 2 by omega, pNum_x]
        by_cases c3 : 48 ≤ lk (a + 2) ∧ lk (a + 2) ≤ 57
        · rw [if_pos c3]
          have hx := xNum_b hl c3
          have hp := xPl_r (lk a)
          refine Or.inr ⟨(xNum lk (a + 2)).2, [(xPl (lk a) * 3 + (lk (a + 1) - 60)) * 100 + (xNum lk (a + 2)).1], pAdd_ok (by omega), ?_, hx.2.2, fun h hB => ?_, fun om w => ?_⟩
          · show a + ((1 : Nat) : Int) + 2 ≤ _; omega
          · show (if _ then _ else _) = _
            rw [if_neg (by omega), if_neg (by omega), if_pos (by omega)]
            rfl
          · have e : xTest lk a om w o = (true, xWh (xNum lk (a + 2)).2 (om ++ [1000 * xPl (lk a) + 100 * (lk (a + 1) - 60) + (xNum lk (a + 2)).1]) w o) := (if_neg c1).trans ((if_neg (fun z => z c2)).trans (if_neg (fun z => z c3)))
            refine ⟨_, rfl, fun res hres => XW_test c0 (by rw [e]) ?_⟩
            rw [e]
            have e2 : [(xPl (lk a) * 3 + (lk (a + 1) - 60)) * 100 + (xNum lk (a + 2)).1].map tr = [1000 * xPl (lk a) + 100 * (lk (a + 1) - 60) + (xNum lk (a + 2)).1] := by
              show [tr _] = _
              rw [tr_test (by omega) (by omega) hx.1]
            rw [e2] at hres
            exact hres
        · rw [if_neg c3]
          refine Or.inl ⟨a + 2, _, rfl, by omega, by omega, fun om w => ?_⟩
          have e : xTest lk a om w o = (false, (a + 2, om, w, o)) := (if_neg c1).trans ((if_neg (fun z => z c2)).trans (if_pos c3))
          exact ⟨_, XW_tf c0 (by rw [e]; exact Bool.false_ne_true), rfl, by rw [e]⟩
      · rw [if_neg c2]
        show (∃ a1 out1, pAdd _ (pNum lk (a + 1, true, out)).2 = _ ∧ _) ∨ _
        rw [pNum_ft]
        refine Or.inl ⟨a + 1, _, rfl, by omega, by omega, fun om w => ?_⟩
        have e : xTest lk a om w o = (false, (a + 1, om, w, o)) := (if_neg c1).trans (if_pos c2)
        exact ⟨_, XW_tf c0 (by rw [e]; exact Bool.false_ne_true), rfl, by rw [e]⟩
