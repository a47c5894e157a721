/-! contracts -/
def zpre (Y : ZW) (av : List ZV) (g : ZG) : Array Value → State → Prop := va_Pc (av.map (zval Y)) (fun U => zH Y g U.heap ∧ va_K (zD Y) vwCl (ztys Y) U ∧ zExt Y U U.heap)
def ZC (M : ZM) (d : Nat) (pre : List ZV → ZG → Prop) (post : List ZV → ZG → Option ZV → ZG → Prop) : Prop :=
  ∀ (l : Launch) (Y : ZW) (av : List ZV) (g : ZG), zwf Y → (∀ v, v ∈ av → zok Y v) → pre av g → Met l (zy M) (Cond.code (zy M) (zcc M) (zn M) (zret M) :: zTB) (zrm d) (zpre Y av g) (zQ Y (post av g)) 0 0 (zZ Y)
def zfl (av : List ZV) : List ZV := match av with
  | [] => []
  | .inr (.inl x) :: r => ZJ x :: ZX 99 :: zfl r
  | v :: r => v :: zfl r
def zent (av : List ZV) (n : Nat) : List ZV := zfl av ++ List.replicate (n - (zfl av).length) (ZX 99)
theorem zfl_len (Y : ZW) (av : List ZV) : (lg_sl (av.map (zval Y))).length = (zfl av).length := by
  induction av with
  | nil => rfl
  | cons v r ih =>
    have h1 : ∀ (w : Value) (ws : List Value), (lg_sl (w :: ws)).length = (if w.category = 2 then 2 else 1) + (lg_sl ws).length := by
      intro w ws
      unfold lg_sl
      rw [List.flatMap_cons, List.length_append]
      split <;> rfl
    rw [List.map_cons, h1, ih]
    rcases v with x | x | x | x
    · show 1 + _ = _ + 1; omega
    · show 2 + _ = _ + 1 + 1; omega
    · show 1 + _ = _ + 1; omega
    · show 1 + _ = _ + 1; omega
theorem zfl_args (Y : ZW) (av : List ZV) : ∀ (b j : Nat) (v : ZV), (zfl av)[j]? = some v → v ≠ ZX 99 → (b + j, zval Y v) ∈ lv_args b (av.map (zval Y)) ∧ v ∈ av := by
  induction av with
  | nil => intro b j v h; simp [zfl] at h
  | cons u r ih =>
    intro b j v h hv
    have one : ∀ (hu : ∀ x, u ≠ ZJ x), (b + j, zval Y v) ∈ lv_args b ((u :: r).map (zval Y)) ∧ v ∈ u :: r := by
      intro hu
      have hz : zfl (u :: r) = u :: zfl r := by
        rcases u with x | x | x | x
        · rfl
        · exact absurd rfl (hu x)
        · rfl
        · rfl
      rw [hz] at h
      have hc : ¬ (zval Y u).category = 2 := by rw [zcat1 hu]; decide
      rw [List.map_cons]
      unfold lv_args
      rw [if_neg hc]
      cases j with
      | zero =>
        have h : u = v := by simpa using h
        subst h
        exact ⟨List.mem_cons_self, List.mem_cons_self⟩
      | succ j =>
        have h : (zfl r)[j]? = some v := by simpa using h
        obtain ⟨h1, h2⟩ := ih (b + 1) j v h hv
        rw [show b + 1 + j = b + (j + 1) by omega] at h1
        exact ⟨List.mem_cons_of_mem _ h1, List.mem_cons_of_mem _ h2⟩
    rcases u with x | x | x | x
    · exact one (fun y z => by cases z)
    · have hz : zfl (ZJ x :: r) = ZJ x :: ZX 99 :: zfl r := rfl
      rw [hz] at h
      rw [List.map_cons]
      unfold lv_args
      rw [if_pos (show (zval Y (ZJ x)).category = 2 from rfl)]
      match j, h with
      | 0, h =>
        have h : ZJ x = v := by simpa using h
        subst h
        exact ⟨List.mem_cons_self, List.mem_cons_self⟩
      | 1, h =>
        have h : ZX 99 = v := by simpa using h
        exact absurd h.symm hv
      | j + 2, h =>
        have h : (zfl r)[j]? = some v := by simpa using h
        obtain ⟨h1, h2⟩ := ih (b + 2) j v h hv
        rw [show b + 2 + j = b + (j + 2) by omega] at h1
        exact ⟨List.mem_cons_of_mem _ h1, List.mem_cons_of_mem _ h2⟩
    · exact one (fun y z => by cases z)
    · exact one (fun y z => by cases z)
theorem zExt_to {Y : ZW} {s U : State} {H : Heap} {locs : List Loc} (h : zExt Y s s.heap) (hS : va_S (zZ Y) s.heap H locs) (hW : s.WarmedH U.vm) (hU : U.heap = H) : zExt Y U U.heap := by
  obtain ⟨h1, h2, h3, h4, h5, h6, h7, h8, h9⟩ := h
  rw [hU]
  have ha := hW.alike
  refine ⟨(h1.moved ha).kept hS.2.1, (h2.moved ha).kept hS.2.1, (h3.moved ha).kept hS.2.1, (h4.moved ha).kept hS.2.1, (h5.moved ha).kept hS.2.1, fun i hi => (h6 i hi).warm hW, (h7.moved ha).kept hS.2.1, ?_, fun i y hy => (h9 i y hy).warmM hW⟩
  rcases h8 with q | ⟨t, q⟩
  · exact Or.inl ((q.moved ha).kept hS.2.1)
  · exact Or.inr ⟨t, (q.moved ha).kept hS.2.1⟩
theorem zpre_blind (Y : ZW) (av : List ZV) (g : ZG) : FrameBlind (zpre Y av g) := by
  intro a U gf mk q
  obtain ⟨q0, q1, q2, q3⟩ := q
  refine ⟨q0, q1, va_K.moved (u := U) (U := U.calling gf mk a) (Vm.Alike.refl U.vm) q2, ?_⟩
  obtain ⟨h1, h2, h3, h4, h5, h6, h7, h8, h9⟩ := q3
  have ha : U.vm.Alike (U.calling gf mk a).vm := Vm.Alike.refl U.vm
  refine ⟨h1.moved ha, h2.moved ha, h3.moved ha, h4.moved ha, h5.moved ha, fun i hi => (h6 i hi).same rfl, h7.moved ha, ?_, fun i y hy => (h9 i y hy).same rfl rfl⟩
  rcases h8 with q | ⟨t, q⟩
  · exact Or.inl (q.moved ha)
  · exact Or.inr ⟨t, q.moved ha⟩
theorem zc_of {M : ZM} {d : Nat} {pre : List ZV → ZG → Prop} {post : List ZV → ZG → Option ZV → ZG → Prop} (hg : zgood M) (hlen : ∀ av g, pre av g → (zfl av).length ≤ zn M) (body : ∀ Y av g, zwf Y → zrg Y g → pre av g → (∀ v, v ∈ av → zok Y v) → ZVV Y M (zcx Y d (post av g)) 0 (zent av (zn M)) [] g) : ZC M d pre post := by
  intro l Y av g hwf hok hp
  refine Met.ofW (cc := zcc M) (maxL := zn M) (ret := zret M) hg.1 rfl ?_
  intro p e s m args below meth c s₁ B hml hv
  obtain ⟨rfl, hH, hK, hE⟩ := hv
  have hts0 := atoms_spec (ws := Cond.code (zy M) (zcc M) (zn M) (zret M) :: zTB) B.pre
  have hts : ∀ w ∈ zTB, w.before (av.map (zval Y)).toArray s = true := fun w hw => hts0 w (List.mem_cons_of_mem _ hw)
  have hown : s.vm.findClass (zown M) = some m.cls := by rw [← hg.2.1]; exact findClass_of_methodNamed B.named
  have hlen' : (lg_sl (av.map (zval Y))).length ≤ zn M := by rw [zfl_len]; exact hlen av g hp
  have hl := lv_entry (av.map (zval Y)) (n := zn M) hlen'
  rw [lg_entry_eq]
  have hL : zLs Y (zent av (zn M)) ((lg_sl (av.map (zval Y)) ++ List.replicate (zn M - (lg_sl (av.map (zval Y))).length) Slot.unset).toArray) (zn M) := by
    refine ⟨hl.1, hl.2.1, ?_, fun j v hj hv => ?_⟩
    · unfold zent
      rw [List.length_append, List.length_replicate]
      have := hlen av g hp
      omega
    · unfold zent at hj
      rw [List.getElem?_append] at hj
      by_cases hlt : j < (zfl av).length
      · rw [if_pos hlt] at hj
        obtain ⟨h1, h2⟩ := zfl_args Y av 0 j v hj hv
        rw [Nat.zero_add] at h1
        exact ⟨hl.2.2 _ h1, hok v h2⟩
      · rw [if_neg hlt, List.getElem?_replicate] at hj
        split at hj
        · cases hj; exact absurd rfl hv
        · cases hj
  exact body Y av g hwf hH.2.2 hp hok p l e s m _ below meth c s.heap [] _ ⟨hg, hwf, B.exec, B.bytes, hml, B.returns, B.notSynchronized, hown, hts, hK, hE⟩ trivial hH va_S.rf hL (fun v hv => by cases hv)
theorem zc_weaken {M : ZM} {d : Nat} {pre pre' : List ZV → ZG → Prop} {post post' : List ZV → ZG → Option ZV → ZG → Prop} (h : ZC M d pre post) (h1 : ∀ av g, pre' av g → pre av g) (h2 : ∀ av g r g', pre' av g → post av g r g' → post' av g r g') : ZC M d pre' post' := by
  intro l Y av g hwf hok hp
  have h := h l Y av g hwf hok (h1 av g hp)
  refine (fun (hq : ∀ a st o t, zQ Y (post av g) a st o t → zQ Y (post' av g) a st o t) => ?_) ?_
  · exact MetFree.mono h (fun _ _ z => z) (fun _ _ _ _ _ z => z) (fun a st o t _ z => ⟨hq a st o t z.1, z.2⟩)
  · rintro a st o t ⟨⟨r, g', e1, e2, e3, e4⟩, hF⟩
    exact ⟨⟨r, g', e1, h2 av g r g' hp e2, e3, e4⟩, hF⟩
/-- a call's words -/
def zlk (own : String) (idx : Nat) (M : ZM) (n : Nat) : Prop := Cond.methodLink own idx (zy M) ∈ zTB ∧ Cond.initialized (zy M).cls ∈ zTB ∧ ((zy M).cls ≠ "java/lang/invoke/MethodHandle" ∧ (zy M).cls ≠ "java/lang/invoke/VarHandle" ∧ (parseMethodDescriptor (zy M).desc).map (fun d => d.parameters.length) = some n) ∧ zn M ≤ 21 ∧ Cond.code (zy M) (zcc M) (zn M) (zret M) ∈ zTB
def zlkN (own : String) (idx : Nat) (M : ZM) (n : Nat) (host : String) : Prop := own = "ThirdAlike" ∧ host = "ThirdAlike" ∧ Cond.methodLinkNest "ThirdAlike" idx (zy M) "ThirdAlike" ∈ tables_1 ∧ Cond.initialized (zy M).cls ∈ zTB ∧ ((zy M).cls ≠ "java/lang/invoke/MethodHandle" ∧ (zy M).cls ≠ "java/lang/invoke/VarHandle" ∧ (parseMethodDescriptor (zy M).desc).map (fun d => d.parameters.length) = some n) ∧ zn M ≤ 21 ∧ Cond.code (zy M) (zcc M) (zn M) (zret M) ∈ zTB
def zvirt (f : Nat) (M : ZM) : Prop := ((vwCl[f]?).map fun r => r.1) = some (zy M).cls ∧ Cond.instanceMethod (zy M) ∈ zTB ∧ Cond.selects (zy M).cls (zy M) (zy M) ∈ zTB
theorem zgood_in {c : Cond} (h : c ∈ zTB) : GoodIn zTB (c :: zTB) := fun w hw => by
  have hm : w ∈ zTB := by
    rcases List.mem_cons.mp hw with rfl | hw
    · exact h
    · exact hw
  exact ⟨hm, good_of_word (List.mem_filter.mp hm).2⟩
def zcat (v : ZV) : Nat := match v with
  | .inr (.inl _) => 2
  | _ => 1
theorem zcat_sum (Y : ZW) (S : List ZV) : ((S.map (zval Y)).map fun v => v.category).sum = (S.map zcat).sum := by
  induction S with
  | nil => rfl
  | cons v r ih =>
    rw [List.map_cons, List.map_cons, List.sum_cons, ih, List.map_cons, List.sum_cons]
    congr 1
    rcases v with x | x | x | x <;> rfl
theorem zrun {p : Program} {l : Launch} {e : Env} {R : Room} {s : State} {m : MethodId} {args : Array Value} {below : List Frame} {meth : Method} {c : Code} {H : Heap} {locs : List Loc} {Q : State → Prop} {pc : Nat} {ls : Array Slot} {rest st0 : List Value} {a : Array Value} {cs ss : Nat} {Y : ZW} {Qp : Option ZV → ZG → Prop}
    (hr : va_Run p l e R s m args below meth c H locs cs ss 0 0 (F0 m pc ls st0) rest (zQ Y Qp a) (zZ Y)) (hS : va_S (zZ Y) s.heap H locs)
    (kk : ∀ (r : Option ZV) (g' : ZG) (H1 : Heap) (locs1 : List Loc), Qp r g' → (∀ v, r = some v → zok Y v) → zH Y g' H1 → va_S (zZ Y) s.heap H1 locs1 → W p l e R s m args below meth c H1 locs1 cs ss Q (F0 m (pc + 3) ls ((r.map (zval Y)).toList ++ rest))) : W p l e R s m args below meth c H locs cs ss Q (F0 m pc ls st0) := by
  intro T hT X
  obtain ⟨v, st₀, t, T', L, h0, X', hL, e1, e2, ⟨⟨r, g', hv, hq, hok, hH⟩, hz, hk⟩, st⟩ := hr T hT X
  have hv : v = r.map (zval Y) := Outcome.returned.inj hv
  subst hv
  rw [h0] at hz hk
  obtain ⟨t2, a1, b1⟩ := kk r g' T'.heap (locs ++ L) hq hok (by rw [e1]; exact hH)
    ⟨Nat.le_trans hS.1 (by rw [e1]; exact hz), fun q h1 h2 => by rw [e1, hk q (Nat.lt_of_lt_of_le h1 hS.1) h2]; exact hS.2.1 q h1 h2, fun q hq => by
      rcases List.mem_append.mp hq with h | h
      · exact hS.2.2 q h
      · exact hL q h⟩ T' rfl X'
  exact ⟨t2, st t2 a1, b1⟩
section ZK
variable {Y : ZW} {M M' : ZM} {d' : Nat} {C : ZCx} {pc idx n : Nat} {L S St As : List ZV} {g : ZG} {pre : List ZV → ZG → Prop} {post : List ZV → ZG → Option ZV → ZG → Prop}
theorem zs_callV {f q : Nat} {host : String} (hT : zat M pc = some (.invokevirtual idx, 3)) (hl : zlk (zown M) idx M' n) (hv : zvirt f M') (hC : ZC M' d' pre post) (As : List ZV) (S : List ZV) (hst : St = As.reverse ++ ZR f q :: S) (hd : zroom C d') (hn : As.length = n) (hcat : (S.map zcat).sum ≤ 8) (hp : pre (ZR f q :: As) g) (kk : ∀ r g', post (ZR f q :: As) g r g' → ZVV Y M C (pc + 3) L (r.toList ++ S) g') : ZVV Y M C pc L St g := by
  subst hst
  intro p l e s m args below meth c H locs ls F hX hH hS hL hO
  have hx := F.2.2.1
  have hb := F.2.2.2.1
  have hts := F.2.2.2.2.2.2.2.2.1
  have hOA : ∀ v, v ∈ (ZR f q :: As) → zok Y v := fun v hv => hO v (by first | (rw [List.mem_append, List.mem_reverse]; exact Or.inl hv) | (rw [List.mem_append, List.mem_reverse]; rcases List.mem_cons.mp hv with rfl | hv; exact Or.inr List.mem_cons_self; exact Or.inl hv))
  have hOS : ∀ v, v ∈ S → zok Y v := fun v hv => hO v (by first | (rw [List.mem_append]; exact Or.inr (List.mem_cons_of_mem _ hv)) | (rw [List.mem_append]; exact Or.inr hv))
  obtain ⟨k1, k2, k3, k4, k5⟩ := hl
  have hM := hC l Y (ZR f q :: As) g F.2.1 hOA hp
  have hRm : (zrm d').frames + 1 ≤ C.1.frames ∧ 8 + (zn M' + 11) + (zrm d').locals ≤ C.1.locals := by
    refine ⟨hd.1, ?_⟩
    have h2 := hd.2.1
    show 8 + (zn M' + 11) + 40 * d' ≤ C.1.locals
    omega
  have hpre : ∀ U : State, U.heap = H → s.WarmedH U.vm → zpre Y (ZR f q :: As) g ((ZR f q :: As).map (zval Y)).toArray U := fun U hU hW => ⟨rfl, by rw [hU]; exact hH, va_K.moved hW.alike F.2.2.2.2.2.2.2.2.2.1, zExt_to F.2.2.2.2.2.2.2.2.2.2 hS hW hU⟩
  obtain ⟨v1, v2, v3⟩ := hv
  have hr : ∃ r : vw_C, vwCl[f]? = some r ∧ r.1 = (zy M').cls := by
    cases hh : vwCl[f]? with
    | none => rw [hh] at v1; cases v1
    | some r => rw [hh] at v1; exact ⟨r, rfl, Option.some.inj v1⟩
  obtain ⟨rr, hr1, hr2⟩ := hr
  obtain ⟨q0, hq0⟩ := List.getElem?_of_mem (show (f, q) ∈ zids Y from hOA _ List.mem_cons_self)
  have hrec := va_recv (H := H) F.2.2.2.2.2.2.2.2.2.1 hH.1 hr1 (by rw [zws_at hq0, zcell_o (zcl_all hr1).2.2.2.1])
  rw [hr2] at hrec
  refine zrun (Qp := post (ZR f q :: As) g) (rest := S.map (zval Y)) (a := ((ZR f q :: As).map (zval Y)).toArray) ?_ hS ?_
  · exact va_runV (As := As.map (zval Y)) (n := n) (nL := zn M) ⟨hx, hb, F.2.2.2.2.1, F.2.2.2.2.2.2.2.1, hts⟩ hM ⟨callB_of n hts (zgood_in k5) rfl rfl rfl (hts _ k2) (hts _ k1) k3 hRm, hts _ v2, hts _ v3⟩ ⟨zpre_blind _ _ _, hrec, hpre⟩ rfl (by rw [List.length_map]; exact hn) hL.1 (by show (List.map (zval Y) _) = _; rw [List.map_append, List.map_reverse]; rfl) (lv_room (by rw [zcat_sum]; exact hcat)) (zfx_dec F hT) ⟨hd.2.2.1, hd.2.2.2⟩
  · intro r g' H1 locs1 hq hok hH1 hS1
    have := kk r g' hq p l e s m args below meth c H1 locs1 ls F hX hH1 hS1 hL (fun v hv => by
      rcases List.mem_append.mp hv with h | h
      · exact hok v (by rcases r with _ | r; cases h; rw [List.mem_singleton.mp h])
      · exact hOS v h)
    rw [List.map_append] at this
    have e1 : (r.toList).map (zval Y) = (r.map (zval Y)).toList := by rcases r with _ | r <;> rfl
    rw [e1] at this
    exact this
theorem zs_callS {host : String} (hT : zat M pc = some (.invokestatic idx, 3)) (hl : zlk (zown M) idx M' n) (hs : Cond.static (zy M') ∈ zTB) (hC : ZC M' d' pre post) (As : List ZV) (S : List ZV) (hst : St = As.reverse ++ S) (hd : zroom C d') (hn : As.length = n) (hcat : (S.map zcat).sum ≤ 8) (hp : pre As g) (kk : ∀ r g', post As g r g' → ZVV Y M C (pc + 3) L (r.toList ++ S) g') : ZVV Y M C pc L St g := by
  subst hst
  intro p l e s m args below meth c H locs ls F hX hH hS hL hO
  have hx := F.2.2.1
  have hb := F.2.2.2.1
  have hts := F.2.2.2.2.2.2.2.2.1
  have hOA : ∀ v, v ∈ As → zok Y v := fun v hv => hO v (by first | (rw [List.mem_append, List.mem_reverse]; exact Or.inl hv) | (rw [List.mem_append, List.mem_reverse]; rcases List.mem_cons.mp hv with rfl | hv; exact Or.inr List.mem_cons_self; exact Or.inl hv))
  have hOS : ∀ v, v ∈ S → zok Y v := fun v hv => hO v (by first | (rw [List.mem_append]; exact Or.inr (List.mem_cons_of_mem _ hv)) | (rw [List.mem_append]; exact Or.inr hv))
  obtain ⟨k1, k2, k3, k4, k5⟩ := hl
  have hM := hC l Y As g F.2.1 hOA hp
  have hRm : (zrm d').frames + 1 ≤ C.1.frames ∧ 8 + (zn M' + 11) + (zrm d').locals ≤ C.1.locals := by
    refine ⟨hd.1, ?_⟩
    have h2 := hd.2.1
    show 8 + (zn M' + 11) + 40 * d' ≤ C.1.locals
    omega
  have hpre : ∀ U : State, U.heap = H → s.WarmedH U.vm → zpre Y As g (As.map (zval Y)).toArray U := fun U hU hW => ⟨rfl, by rw [hU]; exact hH, va_K.moved hW.alike F.2.2.2.2.2.2.2.2.2.1, zExt_to F.2.2.2.2.2.2.2.2.2.2 hS hW hU⟩

  refine zrun (Qp := post As g) (rest := S.map (zval Y)) (a := (As.map (zval Y)).toArray) ?_ hS ?_
  · exact va_runS (As := As.map (zval Y)) (n := n) (nL := zn M) ⟨hx, hb, F.2.2.2.2.1, F.2.2.2.2.2.2.2.1, hts⟩ hM ⟨callB_of n hts (zgood_in k5) rfl rfl rfl (hts _ k2) (hts _ k1) k3 hRm, hts _ hs⟩ ⟨zpre_blind _ _ _, hpre⟩ rfl (by rw [List.length_map]; exact hn) hL.1 (by show (List.map (zval Y) _) = _; rw [List.map_append, List.map_reverse]) (lv_room (by rw [zcat_sum]; exact hcat)) (zfx_dec F hT) ⟨hd.2.2.1, hd.2.2.2⟩
  · intro r g' H1 locs1 hq hok hH1 hS1
    have := kk r g' hq p l e s m args below meth c H1 locs1 ls F hX hH1 hS1 hL (fun v hv => by
      rcases List.mem_append.mp hv with h | h
      · exact hok v (by rcases r with _ | r; cases h; rw [List.mem_singleton.mp h])
      · exact hOS v h)
    rw [List.map_append] at this
    have e1 : (r.toList).map (zval Y) = (r.map (zval Y)).toList := by rcases r with _ | r <;> rfl
    rw [e1] at this
    exact this
theorem zs_callSN {host : String} (hT : zat M pc = some (.invokestatic idx, 3)) (hl : zlkN (zown M) idx M' n host) (hs : Cond.static (zy M') ∈ zTB) (hC : ZC M' d' pre post) (As : List ZV) (S : List ZV) (hst : St = As.reverse ++ S) (hd : zroom C d') (hn : As.length = n) (hcat : (S.map zcat).sum ≤ 8) (hp : pre As g) (kk : ∀ r g', post As g r g' → ZVV Y M C (pc + 3) L (r.toList ++ S) g') : ZVV Y M C pc L St g := by
  subst hst
  intro p l e s m args below meth c H locs ls F hX hH hS hL hO
  have hx := F.2.2.1
  have hb := F.2.2.2.1
  have hts := F.2.2.2.2.2.2.2.2.1
  have hOA : ∀ v, v ∈ As → zok Y v := fun v hv => hO v (by first | (rw [List.mem_append, List.mem_reverse]; exact Or.inl hv) | (rw [List.mem_append, List.mem_reverse]; rcases List.mem_cons.mp hv with rfl | hv; exact Or.inr List.mem_cons_self; exact Or.inl hv))
  have hOS : ∀ v, v ∈ S → zok Y v := fun v hv => hO v (by first | (rw [List.mem_append]; exact Or.inr (List.mem_cons_of_mem _ hv)) | (rw [List.mem_append]; exact Or.inr hv))
  obtain ⟨k0, k00, k1, k2, k3, k4, k5⟩ := hl
  have hnw : va_Nw (Cond.methodLinkNest (zown M) idx (zy M') host) s := by rw [k0, k00]; exact F.2.2.2.2.2.2.2.2.2.2.2.2.2.2.2.2.2.2 idx _ k1
  have hM := hC l Y As g F.2.1 hOA hp
  have hRm : (zrm d').frames + 1 ≤ C.1.frames ∧ 8 + (zn M' + 11) + (zrm d').locals ≤ C.1.locals := by
    refine ⟨hd.1, ?_⟩
    have h2 := hd.2.1
    show 8 + (zn M' + 11) + 40 * d' ≤ C.1.locals
    omega
  have hpre : ∀ U : State, U.heap = H → s.WarmedH U.vm → zpre Y As g (As.map (zval Y)).toArray U := fun U hU hW => ⟨rfl, by rw [hU]; exact hH, va_K.moved hW.alike F.2.2.2.2.2.2.2.2.2.1, zExt_to F.2.2.2.2.2.2.2.2.2.2 hS hW hU⟩

  refine zrun (Qp := post As g) (rest := S.map (zval Y)) (a := (As.map (zval Y)).toArray) ?_ hS ?_
  · exact va_runSN (As := As.map (zval Y)) (n := n) (nL := zn M) (host := host) ⟨hx, hb, F.2.2.2.2.1, F.2.2.2.2.2.2.2.1, hts⟩ hM ⟨va_cnB n hts (zgood_in k5) rfl rfl rfl hnw (hts _ k2) k3 hRm, hts _ hs, trivial⟩ ⟨zpre_blind _ _ _, hpre⟩ rfl (by rw [List.length_map]; exact hn) hL.1 (by show (List.map (zval Y) _) = _; rw [List.map_append, List.map_reverse]) (lv_room (by rw [zcat_sum]; exact hcat)) (zfx_dec F hT) ⟨hd.2.2.1, hd.2.2.2⟩
  · intro r g' H1 locs1 hq hok hH1 hS1
    have := kk r g' hq p l e s m args below meth c H1 locs1 ls F hX hH1 hS1 hL (fun v hv => by
      rcases List.mem_append.mp hv with h | h
      · exact hok v (by rcases r with _ | r; cases h; rw [List.mem_singleton.mp h])
      · exact hOS v h)
    rw [List.map_append] at this
    have e1 : (r.toList).map (zval Y) = (r.map (zval Y)).toList := by rcases r with _ | r <;> rfl
    rw [e1] at this
    exact this
end ZK
