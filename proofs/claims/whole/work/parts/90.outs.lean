/-! what lies outside when the law begins -/
theorem ki_all {c : Nat} {q : vw_C} (h : vwCl[c]? = some q) : ∃ n, Cond.instantiable q.1 n ∈ zTB := by
  match c, h with
  | 0, h => cases h; exact ⟨5, zinT 56 (by decide +kernel) rfl⟩
  | 1, h => cases h; exact ⟨9, zinT 215 (by decide +kernel) rfl⟩
  | 2, h => cases h; exact ⟨12, zinT 138 (by decide +kernel) rfl⟩
  | 3, h => cases h; exact ⟨3, zinT 103 (by decide +kernel) rfl⟩
  | 4, h => cases h; exact ⟨3, zinT 118 (by decide +kernel) rfl⟩
  | 5, h => cases h; exact ⟨6, zinT 29 (by decide +kernel) rfl⟩
  | 6, h => cases h; exact ⟨4, zinT 84 (by decide +kernel) rfl⟩
  | 7, h => cases h; exact ⟨10, zinT 17 (by decide +kernel) rfl⟩
  | 8, h => cases h; exact ⟨52, zinT 689 (by decide +kernel) rfl⟩
  | k + 9, h => simp [vwCl] at h
theorem prim_K {s : State} {A0 : Array Value} {ty : FieldType} (hp : ∀ C : String, ty ≠ .object C) (h : (Cond.arrayClass ty).before A0 s = true) : ∃ c : ClassId, ArrOfT s c ty ∧ va_RA s c ty := by
  obtain ⟨c, k, comp, h1, h2, h3⟩ := Cond.arrayClass_spec h
  refine ⟨c, fun N z => ⟨(fun k h => by cases h), k, h2, comp, h3⟩, ?_⟩
  cases ty with
  | object C => exact absurd rfl (hp C)
  | _ => exact h1
theorem obj_K {s : State} {A0 : Array Value} {C : String} (h : (Cond.arrayOver (.object C)).before A0 s = true) : ∃ c : ClassId, ArrOfT s c (.object C) ∧ va_RA s c (.object C) := by
  obtain ⟨comp, c, k, h1, -, h2, h3, h4⟩ := Cond.arrayOver_spec h
  exact ⟨c, fun N z => ⟨(fun k h => by cases h), k, h2, comp, h3⟩, k, comp, h2, h3, h1, h4⟩
theorem start_K {s : State} {A0 : Array Value} (htl : ∀ w ∈ lw_tbl, w.before A0 s = true) : ∃ (D : va_G) (cA : Nat → ClassId), va_K D vwCl (btys cA) s := by
  have hts : ∀ w ∈ zTB, w.before A0 s = true := fun w hw => htl w (List.mem_filter.mp hw).1
  have h0 : ∀ c : Nat, ∃ d : ClassId × (Nat → Nat), ∀ q : vw_C, vwCl[c]? = some q → u_Kn s q.1 q.2.1 q.2.2 d.1 d.2 := by
    intro c
    cases h : vwCl[c]? with
    | none => exact ⟨(0, fun _ => 0), fun q hq => by cases hq⟩
    | some q =>
      obtain ⟨n, hn⟩ := ki_all h
      obtain ⟨d1, d2, hd⟩ := u_known (C := q.1) (T := q.2.1) (N := q.2.2) (n := n) hts (zcl_all h).1 (hts _ hn)
      exact ⟨(d1, d2), fun q' hq => by cases hq; exact hd⟩
  obtain ⟨d, hd⟩ := Classical.axiomOfChoice h0
  obtain ⟨c1, k1⟩ := prim_K (ty := .int) (by intro C z; cases z) (hts _ (zinT 82 (by decide +kernel) rfl))
  obtain ⟨c2, k2⟩ := prim_K (ty := .byte) (by intro C z; cases z) (hts _ (zinT 54 (by decide +kernel) rfl))
  obtain ⟨c3, k3⟩ := prim_K (ty := .boolean) (by intro C z; cases z) (hts _ (zinT 851 (by decide +kernel) rfl))
  obtain ⟨c4, k4⟩ := prim_K (ty := .long) (by intro C z; cases z) (hts _ (zinT 136 (by decide +kernel) rfl))
  obtain ⟨c5, k5⟩ := obj_K (C := "ThirdAlike$Street") (htl _ (List.mem_append_right _ (List.mem_of_getElem? (i := 25) (by decide +kernel))))
  obtain ⟨c6, k6⟩ := obj_K (C := "ThirdAlike$Tape") (htl _ (List.mem_append_right _ (List.mem_of_getElem? (i := 27) (by decide +kernel))))
  refine ⟨(fun c => (d c).1, fun c => (d c).2), fun k => if k = 1 then c1 else if k = 2 then c2 else if k = 3 then c3 else if k = 4 then c4 else if k = 5 then c5 else c6, fun c q hq => hd c q hq, fun k q hq => ?_⟩
  match k, hq with
  | 0, hq => cases hq; exact k1
  | 1, hq => cases hq; exact k2
  | 2, hq => cases hq; exact k3
  | 3, hq => cases hq; exact k4
  | 4, hq => cases hq; exact k5
  | 5, hq => cases hq; exact k6
  | k + 6, hq => simp [btys] at hq
abbrev tmS (i : Nat) : Term := .string "ThirdAlike$Text" (zkT i).1
abbrev tmA : Term := .static "ThirdAlike" "ABOVE" "[I"
abbrev tmW : Term := .static "ThirdAlike" "WISHES_THAT_DIFFER" "[I"
abbrev GV : Cond := Jvm.Cond.and given_1 narrow_1
theorem gvA : ∀ j, j < 7 → Cond.eq (.elem tmA (.int (Int32.ofNat j))) (.int (Int32.ofInt ((zxr 0).getD j 0))) ∈ flatC GV := by decide +kernel
theorem gvW : ∀ j, j < 11 → Cond.eq (.elem tmW (.int (Int32.ofNat j))) (.int (Int32.ofInt ((zxr 1).getD j 0))) ∈ flatC GV := by decide +kernel
theorem gvS1 : ∀ i, i < 5 → Cond.exactly (tmS i) "java/lang/String" ∈ flatC GV := by decide +kernel
theorem gvS2 : ∀ i, i < 5 → Cond.eq (.field (tmS i) "java/lang/String" "coder" "B") (.int 0) ∈ flatC GV := by decide +kernel
theorem gvS3 : ∀ i, i < 5 → Cond.arrayOf (.field (tmS i) "java/lang/String" "value" "[B") .byte ∈ flatC GV := by decide +kernel
theorem gvS4 : ∀ i, i < 5 → Cond.eq (.length (.field (tmS i) "java/lang/String" "value" "[B")) (.int (Int32.ofNat (zxlen.getD i 0))) ∈ flatC GV := by decide +kernel
theorem gvS5 : ∀ i, i < 5 → ∀ j, j < zxlen.getD i 0 → Cond.eq (.elem (.field (tmS i) "java/lang/String" "value" "[B") (.int (Int32.ofNat j))) (.int ((zxbyt.getD i []).getD j 0)) ∈ flatC GV := by decide +kernel
theorem gvS6 : ∀ i, i < 5 → ∀ j, j < 5 → i ≠ j → Cond.not (Cond.eq (tmS i) (tmS j)) ∈ flatC GV ∨ Cond.not (Cond.eq (tmS j) (tmS i)) ∈ flatC GV := by decide +kernel
theorem tbS : ∀ i, i < 5 → Cond.stringRef "ThirdAlike$Text" (zkT i).1 (zkT i).2 ∈ tables_1 := by decide +kernel
theorem ext_start {s : State} {A0 : Array Value} (b : Nat) (hts : ∀ w ∈ lw_tbl, w.before A0 s = true) (hgv : GV.before A0 s = true) : ∃ ex : Nat → Nat, ex 30 = b ∧ BK ex s.heap.size s := by
  have hs := flat_of_before _ hgv
  have hA : ∀ a : Nat, a < s.heap.size → ¬ (fun q : Nat => s.heap.size ≤ q) a := fun a h => Nat.not_le.mpr h
  obtain ⟨aA, eA, tA⟩ := va_Tof (tm := tmA) (ty := .int) (N := 7) (f := fun j => .int (Int32.ofInt ((zxr 0).getD j 0))) (A := fun q : Nat => s.heap.size ≤ q) (by decide) (hs _ (by decide +kernel)) (va_eqt (hs _ (by decide +kernel))) (fun j hj => va_eqt (hs _ (gvA j hj))) hA
  obtain ⟨aW, eW, tW⟩ := va_Tof (tm := tmW) (ty := .int) (N := 11) (f := fun j => .int (Int32.ofInt ((zxr 1).getD j 0))) (A := fun q : Nat => s.heap.size ≤ q) (by decide) (hs _ (by decide +kernel)) (va_eqt (hs _ (by decide +kernel))) (fun j hj => va_eqt (hs _ (gvW j hj))) hA
  obtain ⟨adK, adV, hS, hev⟩ := vk_Sof (N := 5) (tm := tmS) (len := zxlen) (byt := zxbyt) (A := fun q : Nat => s.heap.size ≤ q) (by decide +kernel) (fun i hi => hs _ (gvS1 i hi)) (fun i hi => hs _ (gvS2 i hi)) (fun i hi => hs _ (gvS3 i hi)) (fun i hi => hs _ (gvS4 i hi)) (fun i hi j hj => hs _ (gvS5 i hi j hj)) (fun i j hi hj hij => (gvS6 i hi j hj hij).imp (hs _) (hs _)) hA
  refine ⟨fun k => if k = 0 then aA else if k = 1 then aW else if k = 30 then b else if k < 20 then adK (k - 10) else adV (k - 20), rfl, ⟨va_AO.of (hts _ (List.mem_append_right _ (List.mem_of_getElem? (i := 25) (by decide +kernel)))), va_AO.of (hts _ (List.mem_append_right _ (List.mem_of_getElem? (i := 27) (by decide +kernel))))⟩, ?_⟩
  have eK : (fun i => (fun k => if k = 0 then aA else if k = 1 then aW else if k = 30 then b else if k < 20 then adK (k - 10) else adV (k - 20)) (10 + i)) = fun i => if 10 + i = 30 then b else if 10 + i < 20 then adK i else adV (10 + i - 20) := by
    funext i
    dsimp only
    rw [if_neg (by omega), if_neg (by omega), show 10 + i - 10 = i by omega]
  have eV : (fun i => (fun k => if k = 0 then aA else if k = 1 then aW else if k = 30 then b else if k < 20 then adK (k - 10) else adV (k - 20)) (20 + i)) = fun i => if 20 + i = 30 then b else adV i := by
    funext i
    dsimp only
    rw [if_neg (by omega), if_neg (by omega), if_neg (show ¬ 20 + i < 20 by omega), show 20 + i - 20 = i by omega]
  refine ⟨va_Zof (hts _ (List.mem_append_right _ (List.mem_of_getElem? (i := 654) (by decide +kernel)))) (hts _ (List.mem_append_right _ (List.mem_of_getElem? (i := 1) (by decide +kernel)))) eA hA, tA, va_Zof (hts _ (List.mem_append_right _ (List.mem_of_getElem? (i := 568) (by decide +kernel)))) (hts _ (List.mem_append_right _ (List.mem_of_getElem? (i := 1) (by decide +kernel)))) eW hA, tW, ?_, ?_, va_Zof (hts _ (List.mem_append_right _ (List.mem_of_getElem? (i := 423) (by decide +kernel)))) (hts _ (List.mem_append_right _ (List.mem_of_getElem? (i := 12) (by decide +kernel)))) (va_eqi (hs _ (by decide +kernel))) hA, va_Zqof (hts _ (List.mem_append_right _ (List.mem_of_getElem? (i := 439) (by decide +kernel)))) (hts _ (List.mem_append_right _ (List.mem_of_getElem? (i := 14) (by decide +kernel)))) (hs _ (by decide +kernel)) hA, fun i y hy => va_Nw.of rfl (hts _ (List.mem_append_right _ hy))⟩
  · rw [eK, eV]
    have e1 : ∀ i, i < 5 → (if 10 + i = 30 then b else if 10 + i < 20 then adK i else adV (10 + i - 20)) = adK i := fun i hi => by rw [if_neg (by omega), if_pos (by omega)]
    have e2 : ∀ i, i < 5 → (if 20 + i = 30 then b else adV i) = adV i := fun i hi => by rw [if_neg (by omega)]
    refine ⟨fun i hi => ?_, fun i j hi hj h => ?_⟩
    · dsimp only
      rw [e1 i hi, e2 i hi]
      exact hS.1 i hi
    · dsimp only at h
      rw [e1 i hi, e1 j hj] at h
      exact hS.2 i j hi hj h
  · intro i hi
    show vk_R _ _ _ (if 10 + i = 0 then aA else if 10 + i = 1 then aW else if 10 + i = 30 then b else if 10 + i < 20 then adK (10 + i - 10) else adV (10 + i - 20)) s
    rw [if_neg (by omega), if_neg (by omega), if_neg (by omega), if_pos (by omega), show 10 + i - 10 = i by omega]
    exact vk_R.of (hts _ (List.mem_append_right _ (tbS i hi))) (hev i hi)
