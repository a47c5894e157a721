/-! contracts of constructors -/
/-- what lies outside, and is not among the cells from z0 on -/
def zExtA (ex : Nat → Nat) (A : Nat → Prop) (s : State) (H : Heap) : Prop :=
  va_Z "ThirdAlike" "ABOVE" "[I" (.ref (ex 0)) A s H ∧ va_T .int (ex 0) 7 (fun j => .int (Int32.ofInt ((zxr 0).getD j 0))) A s H ∧
  va_Z "ThirdAlike" "WISHES_THAT_DIFFER" "[I" (.ref (ex 1)) A s H ∧ va_T .int (ex 1) 11 (fun j => .int (Int32.ofInt ((zxr 1).getD j 0))) A s H ∧
  vk_S 5 zxlen zxbyt (fun i => ex (10 + i)) (fun i => ex (20 + i)) A s H ∧
  (∀ i, i < 5 → vk_R "ThirdAlike$Text" (zkT i).1 (zkT i).2 (ex (10 + i)) s) ∧
  va_Z "java/lang/String" "COMPACT_STRINGS" "Z" (.int 1) A s H ∧ va_Zq "jdk/internal/util/Preconditions" "SIOOBE_FORMATTER" "Ljava/util/function/BiFunction;" A s H ∧
  (∀ (i : Nat) (y : MethodName), Cond.methodLinkNest "ThirdAlike" i y "ThirdAlike" ∈ tables_1 → va_Nw (.methodLinkNest "ThirdAlike" i y "ThirdAlike") s)
theorem zExtA.ext {Y : ZW} {A : Nat → Prop} {s : State} {H : Heap} (h : zExtA (zex Y) A s H) (hA : ∀ q, zZ Y q → A q) : zExt Y s H := by
  obtain ⟨h1, h2, h3, h4, h5, h6, h7, h8, h9⟩ := h
  exact ⟨h1.narrow hA, h2.narrow hA, h3.narrow hA, h4.narrow hA, h5.narrow hA, h6, h7.narrow hA, h8.narrow hA, h9⟩
def BK (ex : Nat → Nat) (z0 : Nat) (U : State) : Prop := (va_AO "ThirdAlike$Street" U ∧ va_AO "ThirdAlike$Tape" U) ∧ zExtA ex (fun q => z0 ≤ q) U U.heap
theorem BK.to {ex : Nat → Nat} {z0 : Nat} {s U : State} {A : Nat → Prop} {H : Heap} {locs : List Loc} (h : BK ex z0 s) (hA : ∀ q, A q → z0 ≤ q) (hS : va_S A s.heap H locs) (hW : s.WarmedH U.vm) (hU : U.heap = H) : BK ex z0 U := by
  obtain ⟨⟨o1, o2⟩, h1, h2, h3, h4, h5, h6, h7, h8, h9⟩ := h
  have ha := hW.alike
  have hk : ∀ a : Nat, a < s.heap.size → ¬ z0 ≤ a → H[a]? = s.heap[a]? := fun a h1 h2 => hS.2.1 a h1 (fun z => h2 (hA a z))
  refine ⟨⟨o1.moved ha, o2.moved ha⟩, ?_⟩
  rw [hU]
  refine ⟨(h1.moved ha).kept hk, (h2.moved ha).kept hk, (h3.moved ha).kept hk, (h4.moved ha).kept hk, (h5.moved ha).kept hk, fun i hi => (h6 i hi).warm hW, (h7.moved ha).kept hk, ?_, fun i y hy => (h9 i y hy).warmM hW⟩
  rcases h8 with q | ⟨t, q⟩
  · exact Or.inl ((q.moved ha).kept hk)
  · exact Or.inr ⟨t, (q.moved ha).kept hk⟩
/-- the world that a constructor finds: its own object, and what it is handed -/
abbrev bw0 (h0 ci : Nat) (fs0 : List Value) (ext : va_W) : va_W := (h0, .inr (ci, fs0)) :: ext
def bpre (D : va_G) (cA : Nat → ClassId) (ex : Nat → Nat) (z0 h0 sz : Nat) (As : List Value) (ws0 : va_W) : Array Value → State → Prop := va_Pc (.ref h0 :: As) (fun U => U.heap.size = sz ∧ va_P D vwCl ws0 U.heap ∧ va_K D vwCl (btys cA) U ∧ va_D (fun _ => True) ws0 ∧ BK ex z0 U ∧ ∀ q, va_A ws0 sz q → z0 ≤ q)
def bpost (D : va_G) (ws0 : va_W) (sz : Nat) (post : va_W → Prop) : Array Value → State → Outcome → State → Prop := va_Qv (fun _ : Unit => True) (fun _ t => ∃ ws', post ws' ∧ va_P D vwCl ws' t.heap ∧ va_D (va_A ws0 sz) ws') (va_A ws0 sz)
def BC (M : ZM) (R : Room) (ci : Nat) (fs0 As : List Value) (ext : (Nat → ClassId) → va_W) (post : (Nat → ClassId) → Nat → va_W → Prop) : Prop :=
  ∀ (l : Launch) (D : va_G) (cA : Nat → ClassId) (ex : Nat → Nat) (z0 h0 sz : Nat), Met l (zy M) (Cond.code (zy M) (zcc M) (zn M) none :: zTB) R (bpre D cA ex z0 h0 sz As (bw0 h0 ci fs0 (ext cA))) (bpost D (bw0 h0 ci fs0 (ext cA)) sz (post cA h0)) R.cells R.slots (va_A (bw0 h0 ci fs0 (ext cA)) sz)
abbrev bcx (R : Room) (ex : Nat → Nat) (z0 : Nat) (D : va_G) (ws0 : va_W) (sz : Nat) (post : va_W → Prop) : BCx := (R, fun _ s _ meth => (meth.name = "<init>" ∧ meth.sig.returnType = none) ∧ BK ex z0 s ∧ ∀ q, va_A ws0 sz q → z0 ≤ q, fun below args s => MQ below (bpost D ws0 sz post) args s R.cells R.slots (va_A ws0 sz))
theorem bc_of {M : ZM} {R : Room} {ci : Nat} {fs0 As : List Value} {ext : (Nat → ClassId) → va_W} {post : (Nat → ClassId) → Nat → va_W → Prop} (hg : zgood M) (hn : (zy M).name = "<init>") (hlen : (lg_sl (Value.ref 0 :: As)).length ≤ zn M) (body : ∀ D cA ex z0 h0 sz, BV D cA M (bcx R ex z0 D (bw0 h0 ci fs0 (ext cA)) sz (post cA h0)) (va_A (bw0 h0 ci fs0 (ext cA)) sz) 0 0 0 (lv_args 0 (.ref h0 :: As)) [] (bw0 h0 ci fs0 (ext cA))) : BC M R ci fs0 As ext post := by
  intro l D cA ex z0 h0 sz
  refine Met.ofW (cc := zcc M) (maxL := zn M) (ret := none) hg.1 rfl ?_
  intro p e s m args below meth c s₁ B hml hv
  obtain ⟨rfl, hsz, hP, hK, hD0, hKK⟩ := hv
  have hts0 := atoms_spec (ws := Cond.code (zy M) (zcc M) (zn M) none :: zTB) B.pre
  have hts : ∀ w ∈ zTB, w.before (Value.ref h0 :: As).toArray s = true := fun w hw => hts0 w (List.mem_cons_of_mem _ hw)
  have hown : s.vm.findClass (zown M) = some m.cls := by rw [← hg.2.1]; exact findClass_of_methodNamed B.named
  have hin : meth.name = "<init>" := (name_of_methodNamed B.named B.method).1.trans hn
  subst hsz
  have hD := hD0.self (sz := s.heap.size)
  have hl2 : (lg_sl (Value.ref h0 :: As)).length ≤ zn M := hlen
  have hl := lv_entry (Value.ref h0 :: As) (n := zn M) hl2
  rw [lg_entry_eq]
  exact body D cA ex z0 h0 s.heap.size p l e s m _ below meth c s.heap [] _ ⟨hg, B.exec, B.bytes, hml, B.notSynchronized, hown, hts, hK⟩ ⟨⟨hin, B.returns⟩, hKK⟩ (fun q h => Or.inr h) hP hD va_S.rf hl
theorem bs_ret {M : ZM} {R : Room} {ex : Nat → Nat} {z0 : Nat} {D : va_G} {cA : Nat → ClassId} {ws0 : va_W} {sz pc : Nat} {post : va_W → Prop} {L : List (Nat × Value)} {ws : va_W} (hT : zat M pc = some (.return_, 1)) (hp : post ws) : BV D cA M (bcx R ex z0 D ws0 sz post) (va_A ws0 sz) R.cells R.slots pc L [] ws := by
  intro p l e s m args below meth c H locs ls F hX hA hP hD hS hL
  have hlocks := F.2.2.2.2.1
  exact W.vret F.2.1 F.2.2.1 hX.1.2 (fun t ht hW => ⟨⟨(), rfl, trivial, ws, hp, by rw [ht]; exact hP, hD⟩, hS.F ht⟩) hS.2.2 (bfx_dec F hT)
/-- a context that knows of the outside -/
def BKC (C : BCx) (A : Nat → Prop) (ex : Nat → Nat) (z0 : Nat) : Prop := ∀ args s m meth, C.2.1 args s m meth → BK ex z0 s ∧ ∀ q, A q → z0 ≤ q
theorem bkc (R : Room) (ex : Nat → Nat) (z0 : Nat) (D : va_G) (ws0 : va_W) (sz : Nat) (post : va_W → Prop) : BKC (bcx R ex z0 D ws0 sz post) (va_A ws0 sz) ex z0 := fun _ _ _ _ h => h.2
theorem bs_call {M M' : ZM} {C : BCx} {D : va_G} {cA : Nat → ClassId} {A : Nat → Prop} {cs ss pc idx b ci : Nat} {ex : Nat → Nat} {z0 : Nat} {L : List (Nat × Value)} {S As fs0 : List Value} {ws wr : va_W} {R' : Room} {ext : (Nat → ClassId) → va_W} {post : (Nat → ClassId) → Nat → va_W → Prop} (isC isR : List Nat) (hT : zat M pc = some (.invokespecial idx, 3)) (hM : BC M' R' ci fs0 As ext post) (hK : BKC C A ex z0)
    (hC : isC.map (fun i => ws[i]?) = (bw0 b ci fs0 (ext cA)).map some) (hC2 : isC.filterMap (fun i => ws[i]?) = bw0 b ci fs0 (ext cA)) (hCn : va_nd isC = true) (hR : isR.map (fun i => ws[i]?) = wr.map some) (hRn : va_nd isR = true) (hdis : ∀ i ∈ isR, i ∉ isC)
    (hlink : Cond.methodLink (zown M) idx (zy M') ∈ zTB) (hini : Cond.initialized (zy M').cls ∈ zTB) (hinst : Cond.instanceMethod (zy M') ∈ zTB) (hcode : Cond.code (zy M') (zcc M') (zn M') none ∈ zTB) (hname : (zy M').name = "<init>") (hdesc : (zy M').cls ≠ "java/lang/invoke/MethodHandle" ∧ (zy M').cls ≠ "java/lang/invoke/VarHandle" ∧ (parseMethodDescriptor (zy M').desc).map (fun d => d.parameters.length) = some As.length) (hfr : R'.frames + 1 ≤ C.1.frames ∧ 8 + (zn M' + 11) + R'.locals ≤ C.1.locals) (hcs : cs + R'.cells ≤ C.1.cells ∧ ss + R'.slots ≤ C.1.slots) (hs : (S.map fun v => v.category).sum ≤ 8) {S0 : List Value} (hS0 : S0 = As.reverse ++ .ref b :: S)
    (kk : ∀ ws', post cA b ws' → BV D cA M C A (cs + R'.cells) (ss + R'.slots) (pc + 3) L S (wr ++ ws')) : BV D cA M C A cs ss pc L S0 ws := by
  intro p l e s m args below meth c H locs ls F hX hA hP hD hS hL
  have hts := F.2.2.2.2.2.2.1
  have hKK := F.2.2.2.2.2.2.2
  obtain ⟨hBK, hz0⟩ := hK _ _ _ _ hX
  have hPc : va_P D vwCl (bw0 b ci fs0 (ext cA)) H := hP.sub (ws' := bw0 b ci fs0 (ext cA)) isC hC2
  have hDc : va_D A (bw0 b ci fs0 (ext cA)) := hD.sub (ws' := bw0 b ci fs0 (ext cA)) isC hCn hC
  have hFc := va_free (wc := bw0 b ci fs0 (ext cA)) hD hS hA isC hC
  subst hS0
  refine va_callv (va_runI (As := As) (rest := S) ⟨F.2.1, F.2.2.1, F.2.2.2.1, F.2.2.2.2.2.1, hts⟩ (hM l D cA ex z0 b H.size) (cwI As.length hts (zgood_in hcode) rfl rfl rfl (hts _ hini) (hts _ hlink) (hts _ hinst) hname hdesc hfr) ⟨fun a U g mk q => ?_, fun U hU hW => ⟨rfl, by rw [hU], by rw [hU]; exact hPc, va_K.moved hW.alike hKK, hDc.weaken (fun _ _ _ _ => trivial), hBK.to hz0 hS hW hU, fun q hq => hz0 q (hFc q hq)⟩⟩ rfl rfl hL.1 rfl (lv_room hs) (bfx_dec F hT) hcs) hS (fun q _ h => hFc q h) hFc (fun u t H1 locs1 ht hvm _ hB hz1 hk1 hS1 => ?_)
  · obtain ⟨q0, q1, qP, qK, qD, qx, qz⟩ := q
    have ha : U.vm.Alike (U.calling g mk a).vm := Vm.Alike.refl U.vm
    obtain ⟨⟨o1, o2⟩, h1, h2, h3, h4, h5, h6, h7, h8, h9⟩ := qx
    refine ⟨q0, q1, qP, va_K.moved (u := U) (U := U.calling g mk a) (Vm.Alike.refl U.vm) qK, qD, ⟨⟨o1.moved ha, o2.moved ha⟩, h1.moved ha, h2.moved ha, h3.moved ha, h4.moved ha, h5.moved ha, fun i hi => (h6 i hi).same rfl, h7.moved ha, ?_, fun i y hy => (h9 i y hy).same rfl rfl⟩, qz⟩
    rcases h8 with q | ⟨t, q⟩
    · exact Or.inl (q.moved ha)
    · exact Or.inr ⟨t, q.moved ha⟩
  · obtain ⟨ws', hp, hP1, hD1⟩ := hB
    rw [ht] at hP1
    obtain ⟨hP2, hD2⟩ := va_join (wr := wr) (w1 := ws') hP hD isC isR hC hR hRn hdis hk1 hFc hP1 hD1
    exact kk ws' hp p l e s m args below meth c H1 locs1 ls F hX hA hP2 hD2 hS1 hL
theorem zrunA {p : Program} {l : Launch} {e : Env} {R : Room} {s : State} {m : MethodId} {args : Array Value} {below : List Frame} {meth : Method} {c : Code} {H : Heap} {locs : List Loc} {Q : State → Prop} {pc : Nat} {ls : Array Slot} {rest st0 : List Value} {a : Array Value} {cs ss : Nat} {Y : ZW} {Qp : Option ZV → ZG → Prop} {A : Nat → Prop}
    (hr : va_Run p l e R s m args below meth c H locs cs ss 0 0 (F0 m pc ls st0) rest (zQ Y Qp a) (zZ Y)) (hS : va_S A s.heap H locs) (hZA : ∀ q, zZ Y q → A q)
    (kk : ∀ (r : Option ZV) (g' : ZG) (H1 : Heap) (locs1 : List Loc), Qp r g' → (∀ v, r = some v → zok Y v) → zH Y g' H1 → (∀ q, q < H.size → ¬ zZ Y q → H1[q]? = H[q]?) → va_S A s.heap H1 locs1 → W p l e R s m args below meth c H1 locs1 cs ss Q (F0 m (pc + 3) ls ((r.map (zval Y)).toList ++ rest))) : W p l e R s m args below meth c H locs cs ss Q (F0 m pc ls st0) := by
  intro T hT X
  obtain ⟨v, st₀, t, T', L, h0, X', hL, e1, e2, ⟨⟨r, g', hv, hq, hok, hH⟩, hz, hk⟩, st⟩ := hr T hT X
  have hv : v = r.map (zval Y) := Outcome.returned.inj hv
  subst hv
  rw [h0] at hz hk
  obtain ⟨t2, a1, b1⟩ := kk r g' T'.heap (locs ++ L) hq hok (by rw [e1]; exact hH) (fun q h1 h2 => by rw [e1]; exact hk q h1 h2)
    ⟨Nat.le_trans hS.1 (by rw [e1]; exact hz), fun q h1 h2 => by rw [e1, hk q (Nat.lt_of_lt_of_le h1 hS.1) (fun z => h2 (hZA q z))]; exact hS.2.1 q h1 h2, fun q hq => by
      rcases List.mem_append.mp hq with h | h
      · exact hS.2.2 q h
      · exact hZA _ (hL q h)⟩ T' rfl X'
  exact ⟨t2, st t2 a1, b1⟩
/-- a method of an object that already is in order -/
theorem bs_zcall {Y : ZW} {M M' : ZM} {C : BCx} {D : va_G} {cA : Nat → ClassId} {A : Nat → Prop} {cs ss pc idx n d' f q : Nat} {ex : Nat → Nat} {z0 : Nat} {L : List (Nat × Value)} {S : List Value} {As : List ZV} {ws wr : va_W} {g : ZG} {pre : List ZV → ZG → Prop} {post : List ZV → ZG → Option ZV → ZG → Prop} (isC isR : List Nat) (hT : zat M pc = some (.invokevirtual idx, 3)) (hl : zlk (zown M) idx M' n) (hv : zvirt f M') (hM : ZC M' d' pre post) (hK : BKC C A ex z0)
    (hYD : zD Y = D) (hYt : ztys Y = btys cA) (hYx : zex Y = ex) (hwf : zwf Y) (hrg : zrg Y g) (hok : ∀ v, v ∈ (ZR f q :: As) → zok Y v) (hp : pre (ZR f q :: As) g)
    (hC : isC.map (fun i => ws[i]?) = (zws Y g).map some) (hC2 : isC.filterMap (fun i => ws[i]?) = zws Y g) (hCn : va_nd isC = true) (hR : isR.map (fun i => ws[i]?) = wr.map some) (hRn : va_nd isR = true) (hdis : ∀ i ∈ isR, i ∉ isC)
    (hd : d' + 1 ≤ C.1.frames ∧ 40 * d' + 40 ≤ C.1.locals) (hcs : cs ≤ C.1.cells ∧ ss ≤ C.1.slots) (hn : As.length = n) (hs : (S.map fun v => v.category).sum ≤ 8) {S0 : List Value} (hS0 : S0 = (As.map (zval Y)).reverse ++ zval Y (ZR f q) :: S)
    (kk : ∀ g', post (ZR f q :: As) g none g' → zrg Y g' → BV D cA M C A cs ss (pc + 3) L S (wr ++ zws Y g')) (hnone : ∀ r g', post (ZR f q :: As) g r g' → r = none) : BV D cA M C A cs ss pc L S0 ws := by
  intro p l e s m args below meth c H locs ls F hX hA hP hD hS hL
  have hts := F.2.2.2.2.2.2.1
  have hKK := F.2.2.2.2.2.2.2
  obtain ⟨hBK, hz0⟩ := hK _ _ _ _ hX
  subst hS0
  have hPc : va_P D vwCl (zws Y g) H := hP.sub (ws' := zws Y g) isC hC2
  have hDc : va_D A (zws Y g) := hD.sub (ws' := zws Y g) isC hCn hC
  have hFc := va_free (wc := zws Y g) hD hS hA isC hC
  have hmem : ∀ (g9 : ZG) (k : Nat) (x : Nat × va_E), (zws Y g9)[k]? = some x → zZ Y x.1 := by
    intro g9 k x hx
    unfold zws at hx
    rw [List.getElem?_map] at hx
    cases hi : (zids Y)[k]? with
    | none => rw [hi] at hx; cases hx
    | some i => rw [hi] at hx; cases hx; exact ⟨i, List.mem_of_getElem? hi, rfl⟩
  have hat : ∀ q9, zZ Y q9 → ∃ (k : Nat) (x : va_E), (zws Y g)[k]? = some (q9, x) := by
    rintro q9 ⟨i, hi, rfl⟩
    obtain ⟨k, hk⟩ := List.getElem?_of_mem hi
    exact ⟨k, _, zws_at hk⟩
  have hZA : ∀ q9, zZ Y q9 → A q9 := fun q9 h => by
    obtain ⟨k, x, hk⟩ := hat q9 h
    exact hDc.2 k _ hk
  have hDz : va_D (zZ Y) (zws Y g) := ⟨hDc.1, fun k x hx => hmem g k x hx⟩
  have hH : zH Y g H := ⟨by rw [hYD]; exact hPc, hDz, hrg⟩
  obtain ⟨k1, k2, k3, k4, k5⟩ := hl
  have hMM := hM l Y (ZR f q :: As) g hwf hok hp
  have hRm : (zrm d').frames + 1 ≤ C.1.frames ∧ 8 + (zn M' + 11) + (zrm d').locals ≤ C.1.locals := by
    refine ⟨hd.1, ?_⟩
    have h2 := hd.2
    show 8 + (zn M' + 11) + 40 * d' ≤ C.1.locals
    omega
  have hKy : va_K (zD Y) vwCl (ztys Y) s := by rw [hYD, hYt]; exact hKK
  have hpre : ∀ U : State, U.heap = H → s.WarmedH U.vm → zpre Y (ZR f q :: As) g ((ZR f q :: As).map (zval Y)).toArray U := fun U hU hW => by
    have hb := (hBK.to hz0 hS hW hU).2
    rw [← hYx] at hb
    exact ⟨rfl, by rw [hU]; exact hH, va_K.moved hW.alike hKy, hb.ext (fun q9 h9 => hz0 q9 (hZA q9 h9))⟩
  obtain ⟨v1, v2, v3⟩ := hv
  have hr : ∃ r : vw_C, vwCl[f]? = some r ∧ r.1 = (zy M').cls := by
    cases hh : vwCl[f]? with
    | none => rw [hh] at v1; cases v1
    | some r => rw [hh] at v1; exact ⟨r, rfl, Option.some.inj v1⟩
  obtain ⟨rr, hr1, hr2⟩ := hr
  obtain ⟨q0, hq0⟩ := List.getElem?_of_mem (show (f, q) ∈ zids Y from hok _ List.mem_cons_self)
  have hrec := va_recv (H := H) hKy hH.1 hr1 (by rw [zws_at hq0, zcell_o (zcl_all hr1).2.2.2.1])
  rw [hr2] at hrec
  refine zrunA (Qp := post (ZR f q :: As) g) (rest := S) (a := ((ZR f q :: As).map (zval Y)).toArray) ?_ hS hZA ?_
  · exact va_runV (As := As.map (zval Y)) (n := n) (nL := zn M) ⟨F.2.1, F.2.2.1, F.2.2.2.1, F.2.2.2.2.2.1, hts⟩ hMM ⟨callB_of n hts (zgood_in k5) rfl rfl rfl (hts _ k2) (hts _ k1) k3 hRm, hts _ v2, hts _ v3⟩ ⟨zpre_blind _ _ _, hrec, hpre⟩ rfl (by rw [List.length_map]; exact hn) hL.1 rfl (lv_room hs) (bfx_dec F hT) hcs
  · intro r g' H1 locs1 hq hok1 hH1 hk1 hS1
    have hr0 := hnone r g' hq
    subst hr0
    have hP1 : va_P D vwCl (zws Y g') H1 := by rw [← hYD]; exact hH1.1
    have hD1 : va_D (va_A (zws Y g) H.size) (zws Y g') := hH1.2.1.weaken (fun k x hx hz => by
      obtain ⟨k2, x2, hk2⟩ := hat _ hz
      exact Or.inl ⟨k2, x2, hk2⟩)
    obtain ⟨hP2, hD2⟩ := va_join (wr := wr) (w1 := zws Y g') hP hD isC isR hC hR hRn hdis (fun q9 h1 h2 => hk1 q9 h1 (fun z => h2 (by
      obtain ⟨k2, x2, hk2⟩ := hat _ z
      exact Or.inl ⟨k2, x2, hk2⟩))) hFc hP1 hD1
    exact kk g' hq hH1.2.2 p l e s m args below meth c H1 locs1 ls F hX hA hP2 hD2 hS1 hL
