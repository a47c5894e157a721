/-! parts, both, either, clauses, the whole text -/
theorem pLoop_f {lk : Int → Int} {w x a : Int} {f : PS → PS} {out : List Int} : ∀ m, pLoop lk w x f m (a, true, out) = (a, true, out) := by
  intro m
  cases m with
  | zero => rfl
  | succ m => exact if_neg (fun z => Bool.noConfusion z.1)
theorem pLoop_n {lk : Int → Int} {w x a : Int} {f : PS → PS} {out : List Int} (h : lk a ≠ w) : ∀ m, pLoop lk w x f m (a, false, out) = (a, false, out) := by
  intro m
  cases m with
  | zero => rfl
  | succ m => exact if_neg (fun z => h z.2)
theorem pLoop_y {lk : Int → Int} {w x a : Int} {f : PS → PS} {out : List Int} (h : lk a = w) (m : Nat) : pLoop lk w x f (m + 1) (a, false, out) = pLoop lk w x f m (pAdd x (f (a + 1, false, out))) := (if_pos ⟨rfl, h⟩).trans (by rw [pEx_y h])
def SetS (wc o : Int) (E : Int → Prop) (a : Int) (om w : List Int) (S : MPS) : Prop := (S.1 = a ∧ S.2.2.2 = o ∧ xSe wc a S.2.1 S.2.2.1 o = (a, om, w, o)) ∧ E a
theorem lp_hr {tk tk2 : List Int} {x : Int} {B : Nat} (hx : x = 1900 ∨ x = 2000) (h1 : ∀ h, h + (B + 1) ≤ 20 → hr tk h = some (h + 1)) (h2 : ∀ h, h + B ≤ 20 → hr tk2 h = some (h + 1)) : ∀ h, h + (B + 1) ≤ 20 → hr (tk ++ tk2 ++ [x]) h = some (h + 1) := by
  intro h hB
  rw [hr_app, hr_app, h1 h hB]
  show Option.bind (hr tk2 (h + 1)) _ = _
  rw [h2 (h + 1) (by omega)]
  show hr [x] (h + 1 + 1) = _
  show (if x = 1800 then _ else if x = 1900 ∨ x = 2000 then (if 2 ≤ h + 1 + 1 then some (h + 1 + 1 - 1) else none) else _) = _
  rw [if_neg (by omega), if_pos hx, if_pos (by omega)]
  rfl
theorem GD_loop {lk : Int → Int} {n o wc x : Int} {B : Nat} {f : PS → PS} {hwI hwO : List Int → Prop} {finI : Int → List Int → List Int → MPS → Prop} {E : Int → Prop} (hl : LKP lk n) (hwc : wc = 38 ∨ wc = 124) (hx : x = 1900 ∨ x = 2000) (htr : tr x = -wc) (H1 : GD lk n B o f hwI finI) (H2 : ∀ w, hwO w → hwI (wc :: w)) (H3 : ∀ a om w S, hwO w → finI a om (wc :: w) S → (S.1 = a ∧ S.2.2.2 = o ∧ xSe wc a S.2.1 S.2.2.1 o = xSe wc a om (wc :: w) o) ∧ E a) (H4 : ∀ w a om, hwO w → xSe wc a om w o = (a, om, w, o)) :
    ∀ (m : Nat) (a0 a : Int) (out tk : List Int), 0 ≤ a0 → (out.length : Int) ≤ a0 → a0 + tk.length + 2 ≤ a → a ≤ n → 100 ≤ a + m → (∀ h, h + (B + 1) ≤ 20 → hr tk h = some (h + 1)) →
    (∃ a1 out1, pLoop lk wc x f m (a, false, out ++ tk) = (a1, true, out1) ∧ a0 ≤ a1 ∧ a1 ≤ n ∧ ∀ om w, hwO w → ∀ S, SetS wc o E a (om ++ tk.map tr) w S → ∃ res, XW lk false S res ∧ res.1 = false ∧ res.2.1 = a1) ∨
    (∃ a1 tk1, pLoop lk wc x f m (a, false, out ++ tk) = (a1, false, out ++ tk1) ∧ a0 + tk1.length + 2 ≤ a1 ∧ a1 ≤ n ∧ (∀ h, h + (B + 1) ≤ 20 → hr tk1 h = some (h + 1)) ∧ ∀ om w, hwO w → ∀ S, SetS wc o E a (om ++ tk.map tr) w S → ∃ S2, (SetS wc o E a1 (om ++ tk1.map tr) w S2 ∧ lk a1 ≠ wc) ∧ ∀ res, XW lk false S2 res → XW lk false S res) := by
  intro m
  have hn1 := hl.1
  induction m with
  | zero =>
    intro a0 a out tk h0 ho h1 h2 h3 h4
    have hne : lk a ≠ wc := fun z => by have := hl.2 a (by omega); omega
    exact Or.inr ⟨a, tk, rfl, h1, h2, h4, fun om w hw S hS => ⟨S, ⟨hS, hne⟩, fun res h => h⟩⟩
  | succ m ih =>
    intro a0 a out tk h0 ho h1 h2 h3 h4
    by_cases hc : lk a = wc
    · have hlt := hl.2 a (by omega)
      rw [pLoop_y hc]
      have hen : ∀ om w, hwO w → ∀ S, SetS wc o E a (om ++ tk.map tr) w S → ∀ res, XW lk true (a + 1, om ++ tk.map tr, wc :: w, o) res → XW lk false S res := by
        intro om w hw S hS res hr
        obtain ⟨⟨e1, e2, e3⟩, _⟩ := hS
        have e0 : S = (a, S.2.1, S.2.2.1, o) := Prod.ext e1 (Prod.ext rfl (Prod.ext rfl e2))
        rw [e0]
        refine XW_op (by rcases hwc with z | z; exact Or.inl (hc.trans z); exact Or.inr (hc.trans z)) ?_
        rw [hc, e3]
        exact hr
      rcases H1 (a + 1) (out ++ tk) (by omega) (by omega) (by rw [List.length_append]; omega) with ⟨a1, out1, e, r1, r2, hf⟩ | ⟨a1, tk2, e, r1, r2, r3, hf⟩
      · rw [e]
        obtain ⟨out2, e2⟩ := pAdd_f (x := x) (a := a1) (out := out1) (b := true)
        rw [e2, pLoop_f]
        refine Or.inl ⟨a1, out2, rfl, by omega, r2, fun om w hw S hS => ?_⟩
        obtain ⟨res, q1, q2, q3⟩ := hf (om ++ tk.map tr) (wc :: w) (H2 w hw)
        exact ⟨res, hen om w hw S hS res q1, q2, q3⟩
      · rw [e, pAdd_ok (by rw [List.length_append, List.length_append]; omega), show out ++ tk ++ tk2 ++ [x] = out ++ (tk ++ tk2 ++ [x]) by simp only [List.append_assoc]]
        have hs : ∀ om w, hwO w → ∀ S, SetS wc o E a (om ++ tk.map tr) w S → ∃ S2, SetS wc o E a1 (om ++ (tk ++ tk2 ++ [x]).map tr) w S2 ∧ ∀ res, XW lk false S2 res → XW lk false S res := by
          intro om w hw S hS
          obtain ⟨S2, q1, q2⟩ := hf (om ++ tk.map tr) (wc :: w) (H2 w hw)
          obtain ⟨⟨e1, e2, e3⟩, e4⟩ := H3 _ _ _ _ hw q1
          refine ⟨S2, ⟨⟨e1, e2, ?_⟩, e4⟩, fun res h => hen om w hw S hS res (q2 res h)⟩
          rw [e3, xSe_pop (by omega), H4 _ _ _ hw, List.map_append, List.map_append, show [x].map tr = [tr x] from rfl, htr, ← List.append_assoc, ← List.append_assoc]
        rcases ih a0 a1 out (tk ++ tk2 ++ [x]) h0 ho (by rw [List.length_append, List.length_append]; show a0 + ((tk.length + tk2.length + 1 : Nat) : Int) + 2 ≤ a1; omega) r2 (by omega) (lp_hr hx h4 r3) with ⟨a3, out3, e, s1, s2, hg⟩ | ⟨a3, tk3, e, s1, s2, s3, hg⟩
        · refine Or.inl ⟨a3, out3, e, s1, s2, fun om w hw S hS => ?_⟩
          obtain ⟨S2, q1, q2⟩ := hs om w hw S hS
          obtain ⟨res, q3, q4⟩ := hg om w hw S2 q1
          exact ⟨res, q2 res q3, q4⟩
        · refine Or.inr ⟨a3, tk3, e, s1, s2, s3, fun om w hw S hS => ?_⟩
          obtain ⟨S2, q1, q2⟩ := hs om w hw S hS
          obtain ⟨S3, q3, q4⟩ := hg om w hw S2 q1
          exact ⟨S3, q3, fun res h => q2 res (q4 res h)⟩
    · rw [pLoop_n hc]
      exact Or.inr ⟨a, tk, rfl, h1, h2, h4, fun om w hw S hS => ⟨S, ⟨hS, hc⟩, fun res h => h⟩⟩
theorem GD_many {lk : Int → Int} {n o wc x : Int} {B : Nat} {f : PS → PS} {hwI hwO : List Int → Prop} {finI : Int → List Int → List Int → MPS → Prop} {E : Int → Prop} (hl : LKP lk n) (hwc : wc = 38 ∨ wc = 124) (hx : x = 1900 ∨ x = 2000) (htr : tr x = -wc) (H1 : GD lk n B o f hwI finI) (H0 : ∀ w, hwO w → hwI w) (H2 : ∀ w, hwO w → hwI (wc :: w)) (H3 : ∀ a om w S, hwO w → finI a om (wc :: w) S → (S.1 = a ∧ S.2.2.2 = o ∧ xSe wc a S.2.1 S.2.2.1 o = xSe wc a om (wc :: w) o) ∧ E a) (H4 : ∀ w a om, hwO w → xSe wc a om w o = (a, om, w, o)) (H5 : ∀ a om w S, hwO w → finI a om w S → SetS wc o E a om w S) :
    GD lk n (B + 1) o (fun s => pLoop lk wc x f 99 (f s)) hwO (fun a om w S => SetS wc o E a om w S ∧ lk a ≠ wc) := by
  intro a out h0 hn ho
  show (∃ a1 out1, pLoop lk wc x f 99 (f (a, false, out)) = _ ∧ _) ∨ (∃ a1 tk, pLoop lk wc x f 99 (f (a, false, out)) = _ ∧ _)
  rcases H1 a out h0 hn ho with ⟨a1, out1, e, r1, r2, hf⟩ | ⟨a1, tk, e, r1, r2, r3, hf⟩
  · rw [e, pLoop_f]
    exact Or.inl ⟨a1, out1, rfl, r1, r2, fun om w hw => hf om w (H0 w hw)⟩
  · rw [e]
    have hn1 := hl.1
    rcases GD_loop hl hwc hx htr H1 H2 H3 H4 99 a a1 out tk h0 ho r1 r2 (by omega) (fun h hB => r3 h (by omega)) with ⟨a3, out3, e, s1, s2, hg⟩ | ⟨a3, tk3, e, s1, s2, s3, hg⟩
    · refine Or.inl ⟨a3, out3, e, s1, s2, fun om w hw => ?_⟩
      obtain ⟨S, q1, q2⟩ := hf om w (H0 w hw)
      obtain ⟨res, q3, q4⟩ := hg om w hw S (H5 _ _ _ _ hw q1)
      exact ⟨res, q2 res q3, q4⟩
    · refine Or.inr ⟨a3, tk3, e, s1, s2, s3, fun om w hw => ?_⟩
      obtain ⟨S, q1, q2⟩ := hf om w (H0 w hw)
      obtain ⟨S3, q3, q4⟩ := hg om w hw S (H5 _ _ _ _ hw q1)
      exact ⟨S3, q3, fun res h => q2 res (q4 res h)⟩
theorem GD_bo {lk : Int → Int} {n o : Int} {B : Nat} {f : PS → PS} (hl : LKP lk n) (H : GD lk n B o f (fun _ => True) (fPa o)) : GD lk n (B + 1) o (pBo lk f) wBo (fun a om w S => SetS 38 o (fun _ => True) a om w S ∧ lk a ≠ 38) := by
  refine GD_many (x := 1900) hl (Or.inl rfl) (Or.inl rfl) rfl H (fun _ _ => trivial) (fun _ _ => trivial) (fun a om w S hw h => ?_) (fun w a om hw => xSe_id hw.2 (Or.inl rfl)) (fun a om w S hw h => ?_)
  · have e : S = (a, om, 38 :: w, o) := h.trans (xWh_id (by show (38 : Int) ≠ 33; decide))
    rw [e]
    exact ⟨⟨rfl, rfl, rfl⟩, trivial⟩
  · have e : S = (a, om, w, o) := h.trans (xWh_id hw.1)
    rw [e]
    exact ⟨⟨rfl, rfl, xSe_id hw.2 (Or.inl rfl)⟩, trivial⟩
theorem GD_ei {lk : Int → Int} {n o : Int} {B : Nat} {f : PS → PS} (hl : LKP lk n) (H : GD lk n B o f (fun _ => True) (fPa o)) : GD lk n (B + 1 + 1) o (pEi lk f) wEi (fun a om w S => SetS 124 o (fun a => lk a ≠ 38) a om w S ∧ lk a ≠ 124) := by
  refine GD_many (x := 2000) hl (Or.inr rfl) (Or.inr rfl) rfl (GD_bo hl H) (fun w hw => hw.1) (fun w hw => ⟨by show (124 : Int) ≠ 33; decide, by show (124 : Int) ≠ 38; decide⟩) (fun a om w S hw h => ?_) (fun w a om hw => xSe_id hw.1.2 (Or.inr hw.2)) (fun a om w S hw h => ?_)
  · obtain ⟨⟨⟨e1, e2, e3⟩, _⟩, e4⟩ := h
    exact ⟨⟨e1, e2, xSe_two _ _ _ _ _ _ _ _ e3⟩, e4⟩
  · obtain ⟨⟨⟨e1, e2, e3⟩, _⟩, e4⟩ := h
    exact ⟨⟨e1, e2, (xSe_two _ _ _ _ _ _ _ _ e3).trans (xSe_id hw.1.2 (Or.inr hw.2))⟩, e4⟩
theorem GD_pa {lk : Int → Int} {n : Int} (hl : LKP lk n) : ∀ (r : Nat) (o : Int), o = 4 - (r : Int) → GD lk n (2 * r + 1) o (pPa lk r) (fun _ => True) (fPa o) := by
  intro r
  have hn1 := hl.1
  induction r with
  | zero =>
    intro o ho a out h0 hn hlen
    rcases GD_test hl (o := o) a out h0 hn hlen (Or.inl (by omega)) with ⟨a1, out1, e, r1, r2, hf⟩ | ⟨a1, tk, e, r1, r2, r3, hf⟩
    · exact Or.inl ⟨a1, out1, e, r1, r2, fun om w _ => hf om w⟩
    · exact Or.inr ⟨a1, tk, e, r1, r2, r3, fun om w _ => hf om w⟩
  | succ r ih =>
    intro o ho a out h0 hn hlen
    have IH := ih (o + 1) (by omega)
    by_cases c1 : lk a = 33
    · have hlt := hl.2 a (by omega)
      have hd : pPa lk (r + 1) (a, false, out) = pAdd 1800 (pPa lk r (a + 1, false, out)) := by
        refine (if_pos ⟨rfl, c1⟩).trans ?_
        rw [pEx_y c1]
      rw [hd]
      have hen : ∀ om w res, XW lk true (a + 1, om, 33 :: w, o + 1) res → XW lk true (a, om, w, o) res := fun om w res h => XW_push (Or.inl c1) (by omega) (by rw [c1]; exact h)
      rcases IH (a + 1) out (by omega) (by omega) (by omega) with ⟨a1, out1, e, r1, r2, hf⟩ | ⟨a1, tk, e, r1, r2, r3, hf⟩
      · rw [e]
        refine Or.inl ⟨a1, _, rfl, by omega, r2, fun om w _ => ?_⟩
        obtain ⟨res, q1, q2⟩ := hf om (33 :: w) trivial
        exact ⟨res, hen om w res q1, q2⟩
      · rw [e, pAdd_ok (by rw [List.length_append]; omega), List.append_assoc]
        refine Or.inr ⟨a1, tk ++ [1800], rfl, by rw [List.length_append]; show a + ((tk.length + 1 : Nat) : Int) + 2 ≤ a1; omega, r2, fun h hB => ?_, fun om w _ => ?_⟩
        · rw [hr_app, r3 h (by omega)]
          rfl
        · obtain ⟨S, q1, q2⟩ := hf om (33 :: w) trivial
          have q1 : S = xWh a1 (om ++ tk.map tr) (33 :: w) (o + 1) := q1
          rw [xWh_pop, show o + 1 - 1 = o by omega] at q1
          refine ⟨S, ?_, fun res h => hen om w res (q2 res h)⟩
          show S = xWh a1 (om ++ (tk ++ [1800]).map tr) w o
          rw [List.map_append, ← List.append_assoc]
          exact q1
    · by_cases c2 : lk a = 40
      · have hlt := hl.2 a (by omega)
        have hd : pPa lk (r + 1) (a, false, out) = pEx lk 41 (pEi lk (pPa lk r) (a + 1, false, out)) := by
          refine ((if_neg (fun z => c1 z.2)).trans (if_pos ⟨rfl, c2⟩)).trans ?_
          rw [pEx_y c2]
        rw [hd]
        have hen : ∀ om w res, XW lk true (a + 1, om, 40 :: w, o + 1) res → XW lk true (a, om, w, o) res := fun om w res h => XW_push (Or.inr c2) (by omega) (by rw [c2]; exact h)
        have hw40 : ∀ w, wEi (40 :: w) := fun w => ⟨⟨by show (40 : Int) ≠ 33; decide, by show (40 : Int) ≠ 38; decide⟩, by show (40 : Int) ≠ 124; decide⟩
        rcases GD_ei hl IH (a + 1) out (by omega) (by omega) (by omega) with ⟨a1, out1, e, r1, r2, hf⟩ | ⟨a1, tk, e, r1, r2, r3, hf⟩
        · rw [e, pEx_f]
          refine Or.inl ⟨a1, _, rfl, by omega, r2, fun om w _ => ?_⟩
          obtain ⟨res, q1, q2⟩ := hf om (40 :: w) (hw40 w)
          exact ⟨res, hen om w res q1, q2⟩
        · rw [e]
          by_cases c3 : lk a1 = 41
          · have hlt1 := hl.2 a1 (by omega)
            rw [pEx_y c3]
            refine Or.inr ⟨a1 + 1, tk, rfl, by omega, by omega, fun h hB => r3 h (by omega), fun om w _ => ?_⟩
            obtain ⟨S, ⟨⟨⟨e1, e2, e3⟩, e4⟩, e5⟩, q2⟩ := hf om (40 :: w) (hw40 w)
            refine ⟨xWh (a1 + 1) (om ++ tk.map tr) w o, rfl, fun res h => hen om w res (q2 res ?_)⟩
            have e0 : S = (a1, S.2.1, S.2.2.1, o + 1) := Prod.ext e1 (Prod.ext rfl (Prod.ext rfl e2))
            rw [e0]
            refine XW_cl c3 e3 ?_
            rw [show o + 1 - 1 = o by omega]
            exact h
          · rw [pEx_n c3]
            refine Or.inl ⟨a1, _, rfl, by omega, r2, fun om w _ => ?_⟩
            obtain ⟨S, ⟨⟨⟨e1, e2, e3⟩, e4⟩, e5⟩, q2⟩ := hf om (40 :: w) (hw40 w)
            have e0 : S = (a1, S.2.1, S.2.2.1, o + 1) := Prod.ext e1 (Prod.ext rfl (Prod.ext rfl e2))
            exact ⟨_, hen om w _ (q2 _ (by rw [e0]; exact XW_nc (fun z => z.elim e4 e5) c3 e3)), rfl, rfl⟩
      · have hd : pPa lk (r + 1) (a, false, out) = pTest lk (a, false, out) := (if_neg (fun z => c1 z.2)).trans (if_neg (fun z => c2 z.2))
        rw [hd]
        rcases GD_test hl (o := o) a out h0 hn hlen (Or.inr (fun z => z.elim c1 c2)) with ⟨a1, out1, e, r1, r2, hf⟩ | ⟨a1, tk, e, r1, r2, r3, hf⟩
        · exact Or.inl ⟨a1, out1, e, r1, r2, fun om w _ => hf om w⟩
        · exact Or.inr ⟨a1, tk, e, r1, r2, fun h hB => r3 h (by omega), fun om w _ => hf om w⟩
theorem pTest_f {lk : Int → Int} {a : Int} {out : List Int} : ∃ out2, pTest lk (a, true, out) = (a, true, out2) := by
  unfold pTest
  rw [pOne_f]
  show ∃ out2, pAdd _ (pNum lk (pOne lk (zxr 14) 3 0 (a, true, out)).2).2 = _
  rw [pOne_f, pNum_ft]
  exact ⟨_, rfl⟩
theorem pPa_f {lk : Int → Int} {a : Int} {out : List Int} (r : Nat) : ∃ out2, pPa lk r (a, true, out) = (a, true, out2) := by
  cases r with
  | zero => exact pTest_f
  | succ r =>
    have e : pPa lk (r + 1) (a, true, out) = pTest lk (a, true, out) := (if_neg (fun z => Bool.noConfusion z.1)).trans (if_neg (fun z => Bool.noConfusion z.1))
    rw [e]
    exact pTest_f
theorem pTail_f {lk : Int → Int} {st a : Int} {out : List Int} : ∃ out2, pTail lk st (a, true, out) = (a, true, out2) := by
  unfold pTail
  rw [pNum_ft]
  show ∃ out2, pAdd _ (pEi lk (pPa lk 4) (pEx lk 32 (a, true, out))) = _
  rw [pEx_f]
  obtain ⟨o1, e1⟩ := pPa_f (lk := lk) (a := a) (out := out) 4
  unfold pEi pBo
  rw [e1, pLoop_f, pLoop_f]
  exact ⟨_, rfl⟩
theorem pWord_f {lk : Int → Int} {l : List Int} {a : Int} {out : List Int} : ∀ n k, pWord lk l n k (a, true, out) = (a, true, out) := by
  intro n
  induction n with
  | zero => intro k; rfl
  | succ n ih => intro k; show pWord lk l n (k + 1) (pEx lk _ (a, true, out)) = _; rw [pEx_f, ih]
theorem word_eq {lk : Int → Int} {n : Int} (hl : LKP lk n) {l : List Int} {out : List Int} : ∀ (m k j : Nat) (a : Int), a ≤ n → (∀ i, i < m → l.getD (k + i) 0 = xLet.getD (j + i) 0 ∧ xLet.getD (j + i) 0 ≠ -1) → l.getD (k + m) 0 = 32 → pWord lk l (m + 1) k (a, false, out) = ((xWd lk xLet m j a).2, !(xWd lk xLet m j a).1, out) ∧ a ≤ (xWd lk xLet m j a).2 ∧ (xWd lk xLet m j a).2 ≤ n := by
  intro m
  induction m with
  | zero =>
    intro k j a ha _ h
    rw [Nat.add_zero] at h
    show pEx lk (l.getD k 0) (a, false, out) = _ ∧ _
    rw [h]
    unfold xWd
    by_cases hc : lk a = 32
    · rw [if_pos hc, pEx_y hc]
      have := hl.2 a (by omega)
      exact ⟨rfl, by show a ≤ a + 1; omega, by show a + 1 ≤ n; omega⟩
    · rw [if_neg hc, pEx_n hc]
      exact ⟨rfl, Int.le_refl _, ha⟩
  | succ m ih =>
    intro k j a ha h1 h2
    have e0 := h1 0 (by omega)
    rw [Nat.add_zero, Nat.add_zero] at e0
    show pWord lk l (m + 1) (k + 1) (pEx lk (l.getD k 0) (a, false, out)) = _ ∧ _
    unfold xWd
    rw [e0.1]
    by_cases hc : lk a = xLet.getD j 0
    · rw [if_pos hc, pEx_y hc]
      have := hl.2 a (by rw [hc]; exact e0.2)
      have := ih (k + 1) (j + 1) (a + 1) (by omega) (fun i hi => by have := h1 (i + 1) (by omega); rwa [show k + (i + 1) = k + 1 + i by omega, show j + (i + 1) = j + 1 + i by omega] at this) (by rwa [show k + 1 + m = k + (m + 1) by omega])
      exact ⟨this.1, by omega, this.2.2⟩
    · rw [if_neg hc, pEx_n hc, pWord_f]
      exact ⟨rfl, Int.le_refl _, ha⟩
theorem head_eq {lk : Int → Int} {n : Int} (hl : LKP lk n) {a : Int} {out : List Int} (ha : a ≤ n) : (a ≤ (xHd lk a).2.2 ∧ (xHd lk a).2.2 ≤ n) ∧ (((xHd lk a).2.1 = true ∧ (0 ≤ (xHd lk a).1 ∧ (xHd lk a).1 ≤ 2) ∧ pCl lk (a, false, out) = pTail lk (21 + (xHd lk a).1) ((xHd lk a).2.2, false, out)) ∨ ((xHd lk a).2.1 = false ∧ ∃ st, pCl lk (a, false, out) = pTail lk st ((xHd lk a).2.2, true, out))) := by
  have w10 := word_eq hl (l := zxr 10) (out := out) 4 0 4 a ha (by decide) rfl
  have w11 := word_eq hl (l := zxr 11) (out := out) 4 0 8 a ha (by decide) rfl
  have w12 := word_eq hl (l := zxr 12) (out := out) 4 0 0 a ha (by decide) rfl
  by_cases c1 : lk a = 109
  · have e : xHd lk a = (1, xWd lk xLet 4 4 a) := if_pos c1
    have e2 : pCl lk (a, false, out) = pTail lk 22 (pWord lk (zxr 10) 5 0 (a, false, out)) := if_pos c1
    rw [e, e2, w10.1]
    refine ⟨w10.2, ?_⟩
    cases hb : (xWd lk xLet 4 4 a).1 with
    | true => exact Or.inl ⟨rfl, by show (0 : Int) ≤ 1 ∧ (1 : Int) ≤ 2; decide, rfl⟩
    | false => exact Or.inr ⟨rfl, 22, rfl⟩
  · by_cases c2 : lk a = 119
    · have e : xHd lk a = (0, xWd lk xLet 4 0 a) := (if_neg c1).trans (if_pos c2)
      have e2 : pCl lk (a, false, out) = pTail lk 21 (pWord lk (zxr 12) 5 0 (a, false, out)) := (if_neg c1).trans (if_neg (show ¬ lk a = 100 by omega))
      rw [e, e2, w12.1]
      refine ⟨w12.2, ?_⟩
      cases hb : (xWd lk xLet 4 0 a).1 with
      | true => exact Or.inl ⟨rfl, by show (0 : Int) ≤ 0 ∧ (0 : Int) ≤ 2; decide, rfl⟩
      | false => exact Or.inr ⟨rfl, 21, rfl⟩
    · have e : xHd lk a = (2, xWd lk xLet 4 8 a) := (if_neg c1).trans (if_neg c2)
      by_cases c3 : lk a = 100
      · have e2 : pCl lk (a, false, out) = pTail lk 23 (pWord lk (zxr 11) 5 0 (a, false, out)) := (if_neg c1).trans (if_pos c3)
        rw [e, e2, w11.1]
        refine ⟨w11.2, ?_⟩
        cases hb : (xWd lk xLet 4 8 a).1 with
        | true => exact Or.inl ⟨rfl, by show (0 : Int) ≤ 2 ∧ (2 : Int) ≤ 2; decide, rfl⟩
        | false => exact Or.inr ⟨rfl, 23, rfl⟩
      · have e2 : pCl lk (a, false, out) = pTail lk 21 (pWord lk (zxr 12) 5 0 (a, false, out)) := (if_neg c1).trans (if_neg c3)
        have e3 : xWd lk xLet 4 8 a = (false, a) := if_neg c3
        have e4 : xWd lk xLet 4 0 a = (false, a) := if_neg c2
        rw [e, e2, w12.1, e3, e4]
        exact ⟨⟨Int.le_refl _, ha⟩, Or.inr ⟨rfl, 21, rfl⟩⟩
theorem clause_eq {lk : Int → Int} {n : Int} (hl : LKP lk n) {a : Int} {out : List Int} (h0 : 0 ≤ a) (ha : a ≤ n) (ho : (out.length : Int) ≤ a) :
    (∃ a1 out1, pCl lk (a, false, out) = (a1, true, out1) ∧ a ≤ a1 ∧ a1 ≤ n ∧ ∀ om, ∃ y : YC, XC lk a om y ∧ y.1 = false ∧ y.2.1 = a1) ∨
    (∃ a1 tk i nb, pCl lk (a, false, out) = (a1, false, out ++ (tk ++ [(21 + i) * 100 + nb])) ∧ (0 ≤ i ∧ i ≤ 2) ∧ (0 ≤ nb ∧ nb < 100) ∧ (out.length : Int) + tk.length + 1 ≤ a1 ∧ a ≤ a1 ∧ a1 ≤ n ∧ hr tk 0 = some 1 ∧ ∀ om, XC lk a om (true, a1, om ++ tk.map tr, i, nb)) := by
  have hn1 := hl.1
  obtain ⟨hr1, hh⟩ := head_eq hl (out := out) ha
  rcases hh with ⟨e1, e2, e3⟩ | ⟨e1, st, e3⟩
  · rw [e3]
    generalize hA : (xHd lk a).2.2 = b at hr1
    generalize hI : (xHd lk a).1 = i at e2
    have hXC : ∀ (om : List Int) (y : YC), XC lk a om y ↔ (if ¬ (48 ≤ lk b ∧ lk b ≤ 57) then (y.1 = false ∧ y.2.1 = b) else if lk (xNum lk b).2 ≠ 32 then (y.1 = false ∧ y.2.1 = (xNum lk b).2) else ∃ res, XR lk ((xNum lk b).2 + 1, om, [], 0) res ∧ y = (res.1, res.2.1, res.2.2.1, i, (xNum lk b).1)) := by
      intro om y
      unfold XC
      rw [if_neg (show ¬ (xHd lk a).2.1 = false by rw [e1]; decide), hA, hI]
    unfold pTail
    rw [pNum_x]
    by_cases c1 : 48 ≤ lk b ∧ lk b ≤ 57
    · rw [if_pos c1]
      have hx := xNum_b hl c1
      show (∃ a1 out1, pAdd ((21 + i) * 100 + (xNum lk b).1) (pEi lk (pPa lk 4) (pEx lk 32 ((xNum lk b).2, false, out))) = _ ∧ _) ∨ (∃ a1 tk i_1 nb, pAdd ((21 + i) * 100 + (xNum lk b).1) (pEi lk (pPa lk 4) (pEx lk 32 ((xNum lk b).2, false, out))) = _ ∧ _)
      by_cases c2 : lk (xNum lk b).2 = 32
      · rw [pEx_y c2]
        have hlt := hl.2 (xNum lk b).2 (by omega)
        rcases GD_ei hl (GD_pa hl 4 0 rfl) ((xNum lk b).2 + 1) out (by omega) (by omega) (by omega) with ⟨a1, out1, e, r1, r2, hf⟩ | ⟨a1, tk, e, r1, r2, r3, hf⟩
        · rw [e]
          refine Or.inl ⟨a1, _, rfl, by omega, r2, fun om => ?_⟩
          obtain ⟨res, q1, q2, q3⟩ := hf om [] ⟨⟨by decide, by decide⟩, by decide⟩
          refine ⟨(res.1, res.2.1, res.2.2.1, i, (xNum lk b).1), (hXC _ _).mpr ?_, q2, q3⟩
          rw [if_neg (fun z => z c1), if_neg (fun z => z c2)]
          exact ⟨res, q1, rfl⟩
        · rw [e, pAdd_ok (by rw [List.length_append]; omega), List.append_assoc]
          refine Or.inr ⟨a1, tk, i, (xNum lk b).1, rfl, e2, hx.1, by omega, by omega, r2, r3 0 (by omega), fun om => (hXC _ _).mpr ?_⟩
          rw [if_neg (fun z => z c1), if_neg (fun z => z c2)]
          obtain ⟨S, ⟨⟨⟨s1, s2, s3⟩, s4⟩, s5⟩, q2⟩ := hf om [] ⟨⟨by decide, by decide⟩, by decide⟩
          have e0 : S = (a1, S.2.1, S.2.2.1, 0) := Prod.ext s1 (Prod.ext rfl (Prod.ext rfl s2))
          exact ⟨_, q2 _ (by rw [e0]; exact XW_end (fun z => z.elim s4 s5) s3), rfl⟩
      · rw [pEx_n c2]
        obtain ⟨o1, e4⟩ := pPa_f (lk := lk) (a := (xNum lk b).2) (out := out) 4
        unfold pEi pBo
        rw [e4, pLoop_f, pLoop_f]
        refine Or.inl ⟨(xNum lk b).2, _, rfl, by omega, hx.2.2, fun om => ⟨(false, (xNum lk b).2, [], 0, 0), (hXC _ _).mpr ?_, rfl, rfl⟩⟩
        rw [if_neg (fun z => z c1), if_pos c2]
        exact ⟨rfl, rfl⟩
    · rw [if_neg c1]
      show (∃ a1 out1, pAdd _ (pEi lk (pPa lk 4) (pEx lk 32 (b, true, out))) = _ ∧ _) ∨ _
      obtain ⟨o1, e4⟩ := pPa_f (lk := lk) (a := b) (out := out) 4
      unfold pEi pBo
      rw [pEx_f, e4, pLoop_f, pLoop_f]
      refine Or.inl ⟨b, _, rfl, by omega, hr1.2, fun om => ⟨(false, b, [], 0, 0), (hXC _ _).mpr ?_, rfl, rfl⟩⟩
      rw [if_pos c1]
      exact ⟨rfl, rfl⟩
  · rw [e3]
    obtain ⟨o1, e4⟩ := pTail_f (lk := lk) (st := st) (a := (xHd lk a).2.2) (out := out)
    rw [e4]
    refine Or.inl ⟨(xHd lk a).2.2, o1, rfl, hr1.1, hr1.2, fun om => ⟨(false, (xHd lk a).2.2, [], 0, 0), ?_, rfl, rfl⟩⟩
    unfold XC
    rw [if_pos e1]
    exact ⟨rfl, rfl⟩
theorem pCl_f {lk : Int → Int} {a : Int} {out : List Int} : ∃ out2, pCl lk (a, true, out) = (a, true, out2) := by
  unfold pCl
  split
  · rw [pWord_f]; exact pTail_f
  · split
    · rw [pWord_f]; exact pTail_f
    · rw [pWord_f]; exact pTail_f
/-- the steps of clauses, as the component lays them -/
def ccat (L : List CL1) : List Int := match L with
  | [] => []
  | c :: r => c.1 ++ [(21 + c.2.1) * 100 + c.2.2] ++ ccat r
def trc (c : CL1) : CL1 := (c.1.map tr, c.2)
def COK1 (c : CL1) : Prop := (0 ≤ c.2.1 ∧ c.2.1 ≤ 2) ∧ (0 ≤ c.2.2 ∧ c.2.2 < 100) ∧ hr c.1 0 = some 1
theorem text_eq {lk : Int → Int} {n : Int} (hl : LKP lk n) : ∀ (m k : Nat) (s : PS) (a : Int) (out : List Int) (cl : List CL1), (if k = 0 then s else pEx lk 59 s) = (a, false, out) → 0 ≤ a → a ≤ n → (out.length : Int) ≤ a →
    ∃ y, XT lk n (m + 1) a cl y ∧ (0 ≤ y.2.1 ∧ y.2.1 ≤ 100) ∧ ((y.1 = false ∧ (pTx lk n (m + 1) k s).1 = y.2.1) ∨ (y.1 = true ∧ (pTx lk n (m + 1) k s).1 = -1 ∧ ∃ L : List CL1, (pTx lk n (m + 1) k s).2.2.2 = out ++ ccat L ∧ y.2.2 = cl ++ L.map trc ∧ L.length ≤ m + 1 ∧ (out.length : Int) + (ccat L).length ≤ 100 ∧ ∀ c, c ∈ L → COK1 c)) := by
  intro m
  have hn1 := hl.1
  induction m with
  | zero =>
    intro k s a out cl hs h0 ha ho
    have hp : pTx lk n (0 + 1) k s = if (pCl lk (a, false, out)).2.1 = true then ((pCl lk (a, false, out)).1, pCl lk (a, false, out)) else if n ≤ (pCl lk (a, false, out)).1 then (-1, pCl lk (a, false, out)) else ((pCl lk (a, false, out)).1, pCl lk (a, false, out)) := by
      rw [← hs]; rfl
    rw [hp]
    rcases clause_eq hl (out := out) h0 ha ho with ⟨a1, out1, e, r1, r2, hf⟩ | ⟨a1, tk, i, nb, e, ri, rn, rl, r1, r2, r3, hf⟩
    · obtain ⟨c, q1, q2, q3⟩ := hf (cat cl)
      refine ⟨(false, a1, []), ⟨c, q1, fun _ => ⟨rfl, q3.symm⟩, fun z => absurd (q2.symm.trans z) (by decide)⟩, ⟨by show 0 ≤ a1; omega, by show a1 ≤ 100; omega⟩, Or.inl ⟨rfl, ?_⟩⟩
      rw [e]; rfl
    · rw [e]
      by_cases hc : a1 = n
      · refine ⟨(true, a1, cl ++ [(tk.map tr, i, nb)]), ⟨_, hf (cat cl), fun z => Bool.noConfusion z, fun _ => ⟨tk.map tr, rfl, ?_⟩⟩, ⟨by show 0 ≤ a1; omega, by show a1 ≤ 100; omega⟩, Or.inr ⟨rfl, ?_, [(tk, i, nb)], ?_, rfl, Nat.le_refl _, ?_, fun c hc => ?_⟩⟩
        · rw [if_pos hc]
        · show (if false = true then _ else if n ≤ a1 then _ else _ : Int × PS).1 = _
          rw [if_neg Bool.false_ne_true, if_pos (show n ≤ a1 by omega)]
        · show (if false = true then _ else if n ≤ a1 then _ else _ : Int × PS).2.2.2 = _
          rw [if_neg Bool.false_ne_true, if_pos (show n ≤ a1 by omega)]
          show out ++ (tk ++ [(21 + i) * 100 + nb]) = out ++ (tk ++ [(21 + i) * 100 + nb] ++ [])
          rw [List.append_nil]
        · show (out.length : Int) + ((tk ++ [(21 + i) * 100 + nb] ++ [] : List Int).length : Nat) ≤ 100
          rw [List.append_nil, List.length_append]
          show (out.length : Int) + ((tk.length + 1 : Nat) : Int) ≤ 100
          omega
        · rw [List.mem_singleton.mp hc]; exact ⟨ri, rn, r3⟩
      · refine ⟨(false, a1, []), ⟨_, hf (cat cl), fun z => Bool.noConfusion z, fun _ => ⟨tk.map tr, rfl, ?_⟩⟩, ⟨by show 0 ≤ a1; omega, by show a1 ≤ 100; omega⟩, Or.inl ⟨rfl, ?_⟩⟩
        · rw [if_neg hc, if_pos (Or.inl rfl)]; exact ⟨rfl, rfl⟩
        · show (if false = true then _ else if n ≤ a1 then _ else _ : Int × PS).1 = _
          rw [if_neg Bool.false_ne_true, if_neg (show ¬ n ≤ a1 by omega)]
  | succ m ih =>
    intro k s a out cl hs h0 ha ho
    have hp : pTx lk n (m + 1 + 1) k s = if (pCl lk (a, false, out)).2.1 = true then ((pCl lk (a, false, out)).1, pCl lk (a, false, out)) else if n ≤ (pCl lk (a, false, out)).1 then (-1, pCl lk (a, false, out)) else pTx lk n (m + 1) (k + 1) (pCl lk (a, false, out)) := by
      rw [← hs]; rfl
    rw [hp]
    rcases clause_eq hl (out := out) h0 ha ho with ⟨a1, out1, e, r1, r2, hf⟩ | ⟨a1, tk, i, nb, e, ri, rn, rl, r1, r2, r3, hf⟩
    · obtain ⟨c, q1, q2, q3⟩ := hf (cat cl)
      refine ⟨(false, a1, []), ⟨c, q1, fun _ => ⟨rfl, q3.symm⟩, fun z => absurd (q2.symm.trans z) (by decide)⟩, ⟨by show 0 ≤ a1; omega, by show a1 ≤ 100; omega⟩, Or.inl ⟨rfl, ?_⟩⟩
      rw [e]; rfl
    · rw [e]
      by_cases hc : a1 = n
      · refine ⟨(true, a1, cl ++ [(tk.map tr, i, nb)]), ⟨_, hf (cat cl), fun z => Bool.noConfusion z, fun _ => ⟨tk.map tr, rfl, ?_⟩⟩, ⟨by show 0 ≤ a1; omega, by show a1 ≤ 100; omega⟩, Or.inr ⟨rfl, ?_, [(tk, i, nb)], ?_, rfl, by show 1 ≤ m + 1 + 1; omega, ?_, fun c hc => ?_⟩⟩
        · rw [if_pos hc]
        · show (if false = true then _ else if n ≤ a1 then _ else _ : Int × PS).1 = _
          rw [if_neg Bool.false_ne_true, if_pos (show n ≤ a1 by omega)]
        · show (if false = true then _ else if n ≤ a1 then _ else _ : Int × PS).2.2.2 = _
          rw [if_neg Bool.false_ne_true, if_pos (show n ≤ a1 by omega)]
          show out ++ (tk ++ [(21 + i) * 100 + nb]) = out ++ (tk ++ [(21 + i) * 100 + nb] ++ [])
          rw [List.append_nil]
        · show (out.length : Int) + ((tk ++ [(21 + i) * 100 + nb] ++ [] : List Int).length : Nat) ≤ 100
          rw [List.append_nil, List.length_append]
          show (out.length : Int) + ((tk.length + 1 : Nat) : Int) ≤ 100
          omega
        · rw [List.mem_singleton.mp hc]; exact ⟨ri, rn, r3⟩
      · have hpt : (if ((a1, false, out ++ (tk ++ [(21 + i) * 100 + nb])) : PS).2.1 = true then (a1, ((a1, false, out ++ (tk ++ [(21 + i) * 100 + nb])) : PS)) else if n ≤ ((a1, false, out ++ (tk ++ [(21 + i) * 100 + nb])) : PS).1 then (-1, (a1, false, out ++ (tk ++ [(21 + i) * 100 + nb]))) else pTx lk n (m + 1) (k + 1) (a1, false, out ++ (tk ++ [(21 + i) * 100 + nb]))) = pTx lk n (m + 1) (k + 1) (a1, false, out ++ (tk ++ [(21 + i) * 100 + nb])) := (if_neg Bool.false_ne_true).trans (if_neg (show ¬ n ≤ a1 by omega))
        rw [hpt]
        by_cases c59 : lk a1 = 59
        · have hlt := hl.2 a1 (by omega)
          obtain ⟨y, y1, y2, y3⟩ := ih (k + 1) (a1, false, out ++ (tk ++ [(21 + i) * 100 + nb])) (a1 + 1) (out ++ (tk ++ [(21 + i) * 100 + nb])) (cl ++ [(tk.map tr, i, nb)]) (by rw [if_neg (Nat.succ_ne_zero k), pEx_y c59]) (by omega) (by omega) (by rw [List.length_append, List.length_append]; show (((out.length + (tk.length + 1) : Nat)) : Int) ≤ a1 + 1; omega)
          refine ⟨y, ⟨_, hf (cat cl), fun z => Bool.noConfusion z, fun _ => ⟨tk.map tr, rfl, ?_⟩⟩, y2, ?_⟩
          · rw [if_neg hc, if_neg (fun z => z.elim (Nat.succ_ne_zero m) (fun w => w c59))]
            exact y1
          · rcases y3 with y3 | ⟨z1, z2, L, z3, z4, z5, z6, z7⟩
            · exact Or.inl y3
            · refine Or.inr ⟨z1, z2, (tk, i, nb) :: L, ?_, ?_, by show L.length + 1 ≤ m + 1 + 1; omega, ?_, fun c hc => ?_⟩
              · rw [z3, List.append_assoc]; rfl
              · rw [z4, List.append_assoc]; rfl
              · show (out.length : Int) + ((tk ++ [(21 + i) * 100 + nb] ++ ccat L).length : Nat) ≤ 100
                rw [List.length_append] at z6
                rw [List.length_append]
                omega
              · rcases List.mem_cons.mp hc with hc | hc
                · rw [hc]; exact ⟨ri, rn, r3⟩
                · exact z7 c hc
        · refine ⟨(false, a1, []), ⟨_, hf (cat cl), fun z => Bool.noConfusion z, fun _ => ⟨tk.map tr, rfl, ?_⟩⟩, ⟨by show 0 ≤ a1; omega, by show a1 ≤ 100; omega⟩, Or.inl ⟨rfl, ?_⟩⟩
          · rw [if_neg hc, if_pos (Or.inr c59)]; exact ⟨rfl, rfl⟩
          · obtain ⟨o2, e2⟩ := pCl_f (lk := lk) (a := a1) (out := out ++ (tk ++ [(21 + i) * 100 + nb]))
            have e3 : (if k + 1 = 0 then ((a1, false, out ++ (tk ++ [(21 + i) * 100 + nb])) : PS) else pEx lk 59 (a1, false, out ++ (tk ++ [(21 + i) * 100 + nb]))) = (a1, true, out ++ (tk ++ [(21 + i) * 100 + nb])) := by
              rw [if_neg (Nat.succ_ne_zero k), pEx_n c59]
            unfold pTx
            rw [e3, e2]
            rfl
