/-! contracts of constructors -/
def bpre (D : va_G) (cA : Nat → ClassId) (h0 sz ci : Nat) (fs0 As : List Value) (K : State → Prop) : Array Value → State → Prop := va_Pc (.ref h0 :: As) (fun U => U.heap.size = sz ∧ va_P D vwCl [(h0, .inr (ci, fs0))] U.heap ∧ va_K D vwCl (btys cA) U ∧ va_D (fun _ => True) [(h0, .inr (ci, fs0))] ∧ K U)
def bpost (D : va_G) (cA : Nat → ClassId) (h0 sz ci : Nat) (fs0 : List Value) (post : (Nat → ClassId) → Nat → va_W → Prop) : Array Value → State → Outcome → State → Prop := va_Qv (fun _ : Unit => True) (fun _ t => ∃ ws', post cA h0 ws' ∧ va_P D vwCl ws' t.heap ∧ va_D (va_A [(h0, .inr (ci, fs0))] sz) ws') (va_A [(h0, .inr (ci, fs0))] sz)
def BC (M : ZM) (R : Room) (ci : Nat) (fs0 As : List Value) (K : State → Prop) (post : (Nat → ClassId) → Nat → va_W → Prop) : Prop :=
  ∀ (l : Launch) (D : va_G) (cA : Nat → ClassId) (h0 sz : Nat), Met l (zy M) (Cond.code (zy M) (zcc M) (zn M) none :: zTB) R (bpre D cA h0 sz ci fs0 As K) (bpost D cA h0 sz ci fs0 post) R.cells R.slots (va_A [(h0, .inr (ci, fs0))] sz)
abbrev bcx (R : Room) (K : State → Prop) (D : va_G) (cA : Nat → ClassId) (h0 sz ci : Nat) (fs0 : List Value) (post : (Nat → ClassId) → Nat → va_W → Prop) : BCx := (R, fun _ s _ meth => (meth.name = "<init>" ∧ meth.sig.returnType = none) ∧ K s, fun below args s => MQ below (bpost D cA h0 sz ci fs0 post) args s R.cells R.slots (va_A [(h0, .inr (ci, fs0))] sz))
theorem bc_of {M : ZM} {R : Room} {ci : Nat} {fs0 As : List Value} {K : State → Prop} {post : (Nat → ClassId) → Nat → va_W → Prop} (hg : zgood M) (hr : zret M = none) (hn : (zy M).name = "<init>") (hlen : (lg_sl (Value.ref 0 :: As)).length ≤ zn M) (body : ∀ D cA h0 sz, BV D cA M (bcx R K D cA h0 sz ci fs0 post) (va_A [(h0, .inr (ci, fs0))] sz) 0 0 0 (lv_args 0 (.ref h0 :: As)) [] [(h0, .inr (ci, fs0))]) : BC M R ci fs0 As K post := by
  intro l D cA h0 sz
  refine Met.ofW (cc := zcc M) (maxL := zn M) (ret := none) hg.1 rfl ?_
  intro p e s m args below meth c s₁ B hml hv
  obtain ⟨rfl, hsz, hP, hK, hD0, hKK⟩ := hv
  have hts0 := atoms_spec (ws := Cond.code (zy M) (zcc M) (zn M) none :: zTB) B.pre
  have hts : ∀ w ∈ zTB, w.before (Value.ref h0 :: As).toArray s = true := fun w hw => hts0 w (List.mem_cons_of_mem _ hw)
  have hown : s.vm.findClass (zown M) = some m.cls := by rw [← hg.2.1]; exact findClass_of_methodNamed B.named
  have hin : meth.name = "<init>" := (name_of_methodNamed B.named B.method).1.trans hn
  subst hsz
  have hD := hD0.self (sz := s.heap.size)
  have hl2 : (lg_sl (Value.ref h0 :: As)).length ≤ zn M := hlen
  have hl := lv_entry (Value.ref h0 :: As) (n := zn M) hl2
  rw [lg_entry_eq]
  exact body D cA h0 s.heap.size p l e s m _ below meth c s.heap [] _ ⟨hg, B.exec, B.bytes, hml, B.notSynchronized, hown, hts, hK⟩ ⟨⟨hin, B.returns⟩, hKK⟩ (fun q h => Or.inr h) hP hD va_S.rf hl
theorem bs_ret {M : ZM} {R : Room} {K : State → Prop} {D : va_G} {cA : Nat → ClassId} {h0 sz ci pc : Nat} {fs0 : List Value} {post : (Nat → ClassId) → Nat → va_W → Prop} {L : List (Nat × Value)} {ws : va_W} (hT : zat M pc = some (.return_, 1)) (hp : post cA h0 ws) : BV D cA M (bcx R K D cA h0 sz ci fs0 post) (va_A [(h0, .inr (ci, fs0))] sz) R.cells R.slots pc L [] ws := by
  intro p l e s m args below meth c H locs ls F hX hA hP hD hS hL
  have hlocks := F.2.2.2.2.1
  exact W.vret F.2.1 F.2.2.1 hX.1.2 (fun t ht hW => ⟨⟨(), rfl, trivial, ws, hp, by rw [ht]; exact hP, hD⟩, hS.F ht⟩) hS.2.2 (bfx_dec F hT)
theorem va_nd_of : ∀ l : List Nat, l.Nodup → va_nd l = true := by
  intro l
  induction l with
  | nil => intro _; rfl
  | cons a r ih =>
    intro h
    have h := List.nodup_cons.mp h
    unfold va_nd
    rw [ih h.2, decide_eq_true h.1]
    rfl
theorem range_map {X : Type} (wr : List X) (x : X) : (List.range wr.length).map (fun i => (wr ++ [x])[i]?) = wr.map some := by
  apply List.ext_getElem?
  intro i
  rw [List.getElem?_map, List.getElem?_map]
  by_cases h : i < wr.length
  · rw [List.getElem?_range h, List.getElem?_eq_getElem h]
    show some ((wr ++ [x])[i]?) = _
    rw [List.getElem?_append_left h, List.getElem?_eq_getElem h]
    rfl
  · rw [List.getElem?_eq_none (by rw [List.length_range]; omega), List.getElem?_eq_none (by omega)]
    rfl
theorem last_map {X : Type} (wr : List X) (x : X) : [wr.length].map (fun i => (wr ++ [x])[i]?) = [x].map some := by
  show [(wr ++ [x])[wr.length]?] = [some x]
  rw [List.getElem?_append_right (Nat.le_refl _), Nat.sub_self]
  rfl
theorem bs_call {M M' : ZM} {C : BCx} {D : va_G} {cA : Nat → ClassId} {A : Nat → Prop} {cs ss pc idx b ci : Nat} {L : List (Nat × Value)} {S As fs0 : List Value} {wr : va_W} {R' : Room} {K' : State → Prop} {post : (Nat → ClassId) → Nat → va_W → Prop} (hT : zat M pc = some (.invokespecial idx, 3)) (hM : BC M' R' ci fs0 As K' post) (hK' : ∀ args s m meth, C.2.1 args s m meth → K' s) (hKm : ∀ u U : State, u.vm.Alike U.vm → K' u → K' U)
    (hlink : Cond.methodLink (zown M) idx (zy M') ∈ zTB) (hini : Cond.initialized (zy M').cls ∈ zTB) (hinst : Cond.instanceMethod (zy M') ∈ zTB) (hcode : Cond.code (zy M') (zcc M') (zn M') none ∈ zTB) (hname : (zy M').name = "<init>") (hdesc : (zy M').cls ≠ "java/lang/invoke/MethodHandle" ∧ (zy M').cls ≠ "java/lang/invoke/VarHandle" ∧ (parseMethodDescriptor (zy M').desc).map (fun d => d.parameters.length) = some As.length) (hfr : R'.frames + 1 ≤ C.1.frames ∧ 8 + (zn M' + 11) + R'.locals ≤ C.1.locals) (hcs : cs + R'.cells ≤ C.1.cells ∧ ss + R'.slots ≤ C.1.slots) (hs : (S.map fun v => v.category).sum ≤ 8) {S0 : List Value} (hS0 : S0 = As.reverse ++ .ref b :: S)
    (kk : ∀ ws', post cA b ws' → BV D cA M C A (cs + R'.cells) (ss + R'.slots) (pc + 3) L S (wr ++ ws')) : BV D cA M C A cs ss pc L S0 (wr ++ [(b, .inr (ci, fs0))]) := by
  intro p l e s m args below meth c H locs ls F hX hA hP hD hS hL
  have hts := F.2.2.2.2.2.2.1
  have hK := F.2.2.2.2.2.2.2
  have hC := last_map wr ((b, .inr (ci, fs0)) : Nat × va_E)
  have hPc : va_P D vwCl [(b, .inr (ci, fs0))] H := hP.sub (ws' := [(b, .inr (ci, fs0))]) [wr.length] (by
    show [wr.length].filterMap (fun i => (wr ++ [((b, .inr (ci, fs0)) : Nat × va_E)])[i]?) = _
    rw [List.filterMap_cons_some (by rw [List.getElem?_append_right (Nat.le_refl _), Nat.sub_self]; rfl)]
    rfl)
  have hDc : va_D A [(b, .inr (ci, fs0))] := hD.sub (ws' := [(b, .inr (ci, fs0))]) [wr.length] rfl hC
  have hFc := va_free (wc := [((b, .inr (ci, fs0)) : Nat × va_E)]) hD hS hA [wr.length] hC
  subst hS0
  refine va_callv (va_runI (As := As) (rest := S) ⟨F.2.1, F.2.2.1, F.2.2.2.1, F.2.2.2.2.2.1, hts⟩ (hM l D cA b H.size) (cwI As.length hts (zgood_in hcode) rfl rfl rfl (hts _ hini) (hts _ hlink) (hts _ hinst) hname hdesc hfr) ⟨fun a U g mk q => ?_, fun U hU hW => ⟨rfl, by rw [hU], by rw [hU]; exact hPc, va_K.moved hW.alike hK, hDc.weaken (fun _ _ _ _ => trivial), hKm _ _ hW.alike (hK' _ _ _ _ hX)⟩⟩ rfl rfl hL.1 rfl (lv_room hs) (bfx_dec F hT) hcs) hS (fun q _ h => hFc q h) hFc (fun u t H1 locs1 ht hvm _ hB hz1 hk1 hS1 => ?_)
  · obtain ⟨q0, q1, qP, qK, qD, qx⟩ := q
    exact ⟨q0, q1, qP, va_K.moved (u := U) (U := U.calling g mk a) (Vm.Alike.refl U.vm) qK, qD, hKm U (U.calling g mk a) (Vm.Alike.refl U.vm) qx⟩
  · obtain ⟨ws', hp, hP1, hD1⟩ := hB
    rw [ht] at hP1
    obtain ⟨hP2, hD2⟩ := va_join (wr := wr) (w1 := ws') hP hD [wr.length] (List.range wr.length) hC (range_map wr _) (va_nd_of _ List.nodup_range) (fun i hi hi2 => by
      have h1 := List.mem_range.mp hi
      have h2 := List.mem_singleton.mp hi2
      omega) hk1 hFc hP1 hD1
    exact kk ws' hp p l e s m args below meth c H1 locs1 ls F hX hA hP2 hD2 hS1 hL
