/-! how the objects are made: a machine over a list of cells -/
def btys (cA : Nat → ClassId) : List (ClassId × FieldType) := [(cA 1, .int), (cA 2, .byte), (cA 3, .boolean), (cA 4, .long), (cA 5, .object "ThirdAlike$Street"), (cA 6, .object "ThirdAlike$Tape")]
def BFx (D : va_G) (cA : Nat → ClassId) (M : ZM) (p : Program) (s : State) (m : MethodId) (args : Array Value) (meth : Method) (c : Code) : Prop :=
  zgood M ∧ p.tables.exec = Jvm.exec ∧ c.code = zcc M ∧ c.maxLocals = zn M ∧ meth.locks = false ∧ s.vm.findClass (zown M) = some m.cls ∧ (∀ w ∈ zTB, w.before args s = true) ∧ va_K D vwCl (btys cA) s
/-- room, what it knows besides, where it goes -/
abbrev BCx : Type := Room × (Array Value → State → MethodId → Method → Prop) × (List Frame → Array Value → State → State → Prop)
def BV (D : va_G) (cA : Nat → ClassId) (M : ZM) (C : BCx) (A : Nat → Prop) (cs ss pc : Nat) (L : List (Nat × Value)) (S : List Value) (ws : va_W) : Prop :=
  ∀ (p : Program) (l : Launch) (e : Env) (s : State) (m : MethodId) (args : Array Value) (below : List Frame) (meth : Method) (c : Code) (H : Heap) (locs : List Loc) (ls : Array Slot),
    BFx D cA M p s m args meth c → C.2.1 args s m meth → (∀ q, s.heap.size ≤ q → A q) → va_P D vwCl ws H → va_D A ws → va_S A s.heap H locs → lv_has ls (zn M) L →
    W p l e C.1 s m args below meth c H locs cs ss (C.2.2 below args s) (F0 m pc ls S)
section BUILD
variable {D : va_G} {cA : Nat → ClassId} {M : ZM} {C : BCx} {A : Nat → Prop} {cs ss pc : Nat} {L : List (Nat × Value)} {S : List Value} {ws : va_W}
theorem bfx_dec {p : Program} {s : State} {m : MethodId} {args : Array Value} {meth : Method} {c : Code} {x : Instr × Nat} (F : BFx D cA M p s m args meth c) (h : zat M pc = some x) : decode (zcc M) pc = .ok x := by
  have h1 := zchk_at _ 0 pc x F.1.2.2.2.1 h
  rwa [Nat.zero_add] at h1
theorem bs_aload_n {k : Fin 4} {i j q : Nat} (hT : zat M pc = some (.aload_n k, 1)) (hi : (k : Nat) = i) (hl : L[j]? = some (i, .ref q)) (kk : BV D cA M C A cs ss (pc + 1) L (.ref q :: S) ws) : BV D cA M C A cs ss pc L S ws := by
  intro p l e s m args below meth c H locs ls F hX hA hP hD hS hL
  exact lv_aload_n F.2.1 F.2.2.1 (bfx_dec F hT) hi (lv_at hL j hl) (kk p l e s m args below meth c H locs ls F hX hA hP hD hS hL)
theorem bs_iload_n {k : Fin 4} {i j : Nat} {x : Int32} (hT : zat M pc = some (.iload_n k, 1)) (hi : (k : Nat) = i) (hl : L[j]? = some (i, .int x)) (kk : BV D cA M C A cs ss (pc + 1) L (.int x :: S) ws) : BV D cA M C A cs ss pc L S ws := by
  intro p l e s m args below meth c H locs ls F hX hA hP hD hS hL
  exact lv_iload_n F.2.1 F.2.2.1 (bfx_dec F hT) hi (lv_at hL j hl) (kk p l e s m args below meth c H locs ls F hX hA hP hD hS hL)
theorem bs_iconst {n : Int} {v : Int32} (hT : zat M pc = some (.iconst n, 1)) (hv : Int32.ofInt n = v) (kk : BV D cA M C A cs ss (pc + 1) L (.int v :: S) ws) : BV D cA M C A cs ss pc L S ws := by
  intro p l e s m args below meth c H locs ls F hX hA hP hD hS hL
  exact lv_iconst F.2.1 F.2.2.1 (bfx_dec F hT) hv (kk p l e s m args below meth c H locs ls F hX hA hP hD hS hL)
theorem bs_bipush {n : Int} {v : Int32} (hT : zat M pc = some (.bipush n, 2)) (hv : (Int8.ofInt n).toInt32 = v) (kk : BV D cA M C A cs ss (pc + 2) L (.int v :: S) ws) : BV D cA M C A cs ss pc L S ws := by
  intro p l e s m args below meth c H locs ls F hX hA hP hD hS hL
  exact lv_bipush F.2.1 F.2.2.1 (bfx_dec F hT) hv (kk p l e s m args below meth c H locs ls F hX hA hP hD hS hL)
theorem bs_sipush {n : Int} {v : Int32} (hT : zat M pc = some (.sipush n, 3)) (hv : (Int16.ofInt n).toInt32 = v) (kk : BV D cA M C A cs ss (pc + 3) L (.int v :: S) ws) : BV D cA M C A cs ss pc L S ws := by
  intro p l e s m args below meth c H locs ls F hX hA hP hD hS hL
  exact lv_sipush F.2.1 F.2.2.1 (bfx_dec F hT) hv (kk p l e s m args below meth c H locs ls F hX hA hP hD hS hL)
theorem bs_dup {v : Value} (hT : zat M pc = some (.dup, 1)) (hv : v.category = 1) (kk : BV D cA M C A cs ss (pc + 1) L (v :: v :: S) ws) : BV D cA M C A cs ss pc L (v :: S) ws := by
  intro p l e s m args below meth c H locs ls F hX hA hP hD hS hL
  exact lv_dup F.2.1 F.2.2.1 (bfx_dec F hT) hv (kk p l e s m args below meth c H locs ls F hX hA hP hD hS hL)
theorem bs_istore_n {k : Fin 4} {i : Nat} {x : Int32} {L' : List (Nat × Value)} (hT : zat M pc = some (.istore_n k, 1)) (hi : (k : Nat) = i) (hn : i < zn M) (hl : (i, Value.int x) :: L.filter (fun q => !(q.1 == i) && !(q.1 + 1 == i && q.2.category == 2)) = L') (kk : BV D cA M C A cs ss (pc + 1) L' S ws) : BV D cA M C A cs ss pc L (.int x :: S) ws := by
  intro p l e s m args below meth c H locs ls F hX hA hP hD hS hL
  exact lv_istore_n F.2.1 F.2.2.1 (bfx_dec F hT) hi hL hn hl (fun ls' hL' => kk p l e s m args below meth c H locs ls' F hX hA hP hD hS hL')
theorem bs_astore_n {k : Fin 4} {i x : Nat} {L' : List (Nat × Value)} (hT : zat M pc = some (.astore_n k, 1)) (hi : (k : Nat) = i) (hn : i < zn M) (hl : (i, Value.ref x) :: L.filter (fun q => !(q.1 == i) && !(q.1 + 1 == i && q.2.category == 2)) = L') (kk : BV D cA M C A cs ss (pc + 1) L' S ws) : BV D cA M C A cs ss pc L (.ref x :: S) ws := by
  intro p l e s m args below meth c H locs ls F hX hA hP hD hS hL
  exact lv_astore_n F.2.1 F.2.2.1 (bfx_dec F hT) hi hL hn hl (fun ls' hL' => kk p l e s m args below meth c H locs ls' F hX hA hP hD hS hL')
theorem bs_iinc {i k : Nat} {n : Int} {x v : Int32} {L' : List (Nat × Value)} (hT : zat M pc = some (.iinc i n, 3)) (hk : L[k]? = some (i, .int x)) (hv : x + Int32.ofInt n = v) (hn : i < zn M) (hl : (i, Value.int v) :: L.filter (fun q => !(q.1 == i) && !(q.1 + 1 == i && q.2.category == 2)) = L') (kk : BV D cA M C A cs ss (pc + 3) L' S ws) : BV D cA M C A cs ss pc L S ws := by
  intro p l e s m args below meth c H locs ls F hX hA hP hD hS hL
  exact lv_iinc F.2.1 F.2.2.1 (bfx_dec F hT) hL hk hv hn hl (fun ls' hL' => kk p l e s m args below meth c H locs ls' F hX hA hP hD hS hL')
theorem bs_goto {off : Int} {tgt : Nat} (hT : zat M pc = some (.goto off, 3)) (ht : (pc : Int) + off = (tgt : Int)) (kk : BV D cA M C A cs ss tgt L S ws) : BV D cA M C A cs ss pc L S ws := by
  intro p l e s m args below meth c H locs ls F hX hA hP hD hS hL
  exact lv_goto F.2.1 F.2.2.1 (bfx_dec F hT) ht (kk p l e s m args below meth c H locs ls F hX hA hP hD hS hL)
theorem bs_icmp_geN {off : Int} {x y : Int32} {tgt : Nat} (hT : zat M pc = some (.if_icmp .ge off, 3)) (ht : (pc : Int) + off = (tgt : Int)) (h : ¬ y ≤ x) (kk : BV D cA M C A cs ss (pc + 3) L S ws) : BV D cA M C A cs ss pc L (.int y :: .int x :: S) ws := by
  intro p l e s m args below meth c H locs ls F hX hA hP hD hS hL
  exact lv_icmp_ge F.2.1 F.2.2.1 (bfx_dec F hT) ht (fun z => absurd z h) (fun _ => kk p l e s m args below meth c H locs ls F hX hA hP hD hS hL)
theorem bs_icmp_geY {off : Int} {x y : Int32} {tgt : Nat} (hT : zat M pc = some (.if_icmp .ge off, 3)) (ht : (pc : Int) + off = (tgt : Int)) (h : y ≤ x) (kk : BV D cA M C A cs ss tgt L S ws) : BV D cA M C A cs ss pc L (.int y :: .int x :: S) ws := by
  intro p l e s m args below meth c H locs ls F hX hA hP hD hS hL
  exact lv_icmp_ge F.2.1 F.2.2.1 (bfx_dec F hT) ht (fun _ => kk p l e s m args below meth c H locs ls F hX hA hP hD hS hL) (fun z => absurd h z)
/-- a row of numbers -/
theorem bs_newa {atype : ArrayType} {ty : FieldType} {t0 N : Nat} {cX : ClassId} {a0 : vp_A} {n : Int32} (hT : zat M pc = some (.newarray atype, 2)) (hw : Cond.arrayClass (newarray.typeOf atype) ∈ zTB) (hty : newarray.typeOf atype = ty) (hno : ∀ C : String, ty ≠ .object C) (ht : (btys cA)[t0]? = some (cX, ty)) (ha : ∀ c0 : ClassId, vp_cell c0 a0 = arrV c0 N (fun _ => defaultValue ty)) (hn : ¬ n < 0) (hN : n.toNatClampNeg = N) (hb : N * componentBytes ty ≤ 536870912) (hcs : cs + 1 ≤ C.1.cells) (hss : ss + N ≤ C.1.slots) (kk : ∀ q : Nat, BV D cA M C A (cs + 1) (ss + N) (pc + 2) L (.ref q :: S) (ws ++ [(q, .inl (cX, a0))])) : BV D cA M C A cs ss pc L (.int n :: S) ws := by
  intro p l e s m args below meth c H locs ls F hX hA hP hD hS hL
  refine va_newa F.2.1 F.2.2.1 (F.2.2.2.2.2.2.1 _ hw) hty F.2.2.2.2.2.2.2 hP hD hS hA ha hn hN hb hcs hss (bfx_dec F hT) (fun q c1 H1 hK1 hP1 hD1 hS1 => ?_)
  have h1 := (F.2.2.2.2.2.2.2.2 t0 _ ht).2
  have h2 := (hK1.2 (btys cA).length (c1, ty) (by rw [List.getElem?_append_right (Nat.le_refl _), Nat.sub_self]; rfl)).2
  have e : c1 = cX := by
    cases ty with
    | object C0 => exact absurd rfl (hno C0)
    | _ => exact Option.some.inj (Eq.trans (Eq.symm h2) h1)
  subst e
  exact kk q p l e s m args below meth c H1 locs ls F hX hA hP1 hD1 hS1 hL
/-- a row of objects -/
theorem bs_newq {E : String} {idx t0 N : Nat} {cX : ClassId} {n : Int32} (hT : zat M pc = some (.anewarray idx, 3)) (hw : Cond.classLink (zown M) idx E ∈ zTB) (ho : ∀ args s m meth, C.2.1 args s m meth → va_AO E s) (ht : (btys cA)[t0]? = some (cX, .object E)) (hn : ¬ n < 0) (hN : n.toNatClampNeg = N) (hb : N * 4 ≤ 536870912) (hcs : cs + 1 ≤ C.1.cells) (hss : ss + N ≤ C.1.slots) (kk : ∀ q : Nat, BV D cA M C A (cs + 1) (ss + N) (pc + 3) L (.ref q :: S) (ws ++ [(q, .inl (cX, N, .inr (.inr (.inr (.inr (fun _ => none))))))])) : BV D cA M C A cs ss pc L (.int n :: S) ws := by
  intro p l e s m args below meth c H locs ls F hX hA hP hD hS hL
  refine va_newq F.2.1 F.2.2.1 F.2.2.2.2.2.1 (F.2.2.2.2.2.2.1 _ hw) (ho _ _ _ _ hX) F.2.2.2.2.2.2.2 hP hD hS hA hn hN hb hcs hss (bfx_dec F hT) (fun q c1 H1 hK1 hP1 hD1 hS1 => ?_)
  obtain ⟨_, _, _, _, _, h1⟩ := (F.2.2.2.2.2.2.2.2 t0 _ ht).2
  obtain ⟨_, _, _, _, _, h2⟩ := (hK1.2 (btys cA).length (c1, .object E) (by rw [List.getElem?_append_right (Nat.le_refl _), Nat.sub_self]; rfl)).2
  have e : c1 = cX := Option.some.inj (Eq.trans (Eq.symm h2) h1)
  subst e
  exact kk q p l e s m args below meth c H1 locs ls F hX hA hP1 hD1 hS1 hL
/-- an object -/
theorem bs_new {ci idx : Nat} {r : vw_C} {fs : List Value} (ty : Nat → FieldType) (hty : ∀ k, k < r.2.2 → parseFieldDescriptor (r.2.1 k).2.2.1 = some (ty k)) (hT : zat M pc = some (.new idx, 3)) (hr : vwCl[ci]? = some r) (hcl : Cond.classLink (zown M) idx r.1 ∈ zTB) (hin : Cond.instantiable r.1 r.2.2 ∈ zTB) (hini : Cond.initialized r.1 ∈ zTB) (hfs : ∀ j, j < r.2.2 → defaultValue (ty j) = vp_V fs j) (hcs : cs + 1 ≤ C.1.cells) (hss : ss + r.2.2 ≤ C.1.slots) (kk : ∀ q : Nat, BV D cA M C A (cs + 1) (ss + r.2.2) (pc + 3) L (.ref q :: S) (ws ++ [(q, .inr (ci, fs))])) : BV D cA M C A cs ss pc L S ws := by
  intro p l e s m args below meth c H locs ls F hX hA hP hD hS hL
  exact va_new (C := r.1) (T := r.2.1) (N := r.2.2) F.2.1 F.2.2.1 F.2.2.2.2.2.2.1 (zcl_all hr).1 ty hty F.2.2.2.2.2.1 (F.2.2.2.2.2.2.1 _ hcl) (F.2.2.2.2.2.2.1 _ hin) (F.2.2.2.2.2.2.1 _ hini) F.2.2.2.2.2.2.2 hP hD hS hA hr hfs hcs hss (bfx_dec F hT) (fun q H1 hP1 hD1 hS1 => kk q p l e s m args below meth c H1 locs ls F hX hA hP1 hD1 hS1 hL)
/-- a field: of any kind -/
theorem bs_put {ci k idx q0 a : Nat} {r : vw_C} {fs : List Value} {v : Value} {ty : FieldType} (hT : zat M pc = some (.putfield idx, 3)) (hP0 : zPl M idx = some (.inl (ci, k))) (hr : vwCl[ci]? = some r) (he : ws[q0]? = some (a, .inr (ci, fs))) (hfin : (r.2.1 k).2.2.2 = false) (hd : parseFieldDescriptor (r.2.1 k).2.2.1 = some ty) (hn : narrow ty v = v) (hfit : fits ty v = true) (hl : k < fs.length) (kk : BV D cA M C A cs ss (pc + 3) L S (ws.set q0 (a, .inr (ci, fs.set k v)))) : BV D cA M C A cs ss pc L (v :: .ref a :: S) ws := by
  intro p l e s m args below meth c H locs ls F hX hA hP hD hS hL
  obtain ⟨r', hr', hk, hlink⟩ := F.1.2.2.2.2 idx _ hP0
  have hrr : r' = r := Option.some.inj (hr'.symm.trans hr)
  subst hrr
  obtain ⟨c1, ⟨ty0, c2⟩, c3, c4, c5⟩ := zcl_all hr
  have hdd : (r'.2.1 k).1 = r'.1 := (c5 k hk).1
  exact va_put (C := r'.1) (T := r'.2.1) (N := r'.2.2) (ref := r'.1) F.2.1 F.2.2.1 F.2.2.2.2.2.2.1 c1 ty0 c2 c3 F.2.2.2.2.2.1 F.2.2.2.2.2.2.2 hP hD hS q0 he hr k hk (F.2.2.2.2.2.2.1 _ hlink) (fun x hx => by rw [hdd] at hx; exact hx) hfin hd hn hfit hl (bfx_dec F hT) (fun H1 locs1 hP1 hD1 hS1 => kk p l e s m args below meth c H1 locs1 ls F hX hA hP1 hD1 hS1 hL)
/-- a field that is written once -/
theorem bs_putF {ci k idx q0 a : Nat} {r : vw_C} {fs : List Value} {v : Value} {ty : FieldType} (hT : zat M pc = some (.putfield idx, 3)) (hP0 : zPl M idx = some (.inl (ci, k))) (hr : vwCl[ci]? = some r) (he : ws[q0]? = some (a, .inr (ci, fs))) (hfin : (r.2.1 k).2.2.2 = true) (hini : ∀ args s m meth, C.2.1 args s m meth → meth.name = "<init>") (hdecl : (r.2.1 k).1 = zown M) (hd : parseFieldDescriptor (r.2.1 k).2.2.1 = some ty) (hn : narrow ty v = v) (hfit : fits ty v = true) (hl : k < fs.length) (kk : BV D cA M C A cs ss (pc + 3) L S (ws.set q0 (a, .inr (ci, fs.set k v)))) : BV D cA M C A cs ss pc L (v :: .ref a :: S) ws := by
  intro p l e s m args below meth c H locs ls F hX hA hP hD hS hL
  obtain ⟨r', hr', hk, hlink⟩ := F.1.2.2.2.2 idx _ hP0
  have hrr : r' = r := Option.some.inj (hr'.symm.trans hr)
  subst hrr
  obtain ⟨c1, ⟨ty0, c2⟩, c3, c4, c5⟩ := zcl_all hr
  have hdd : (r'.2.1 k).1 = r'.1 := (c5 k hk).1
  exact va_putF (C := r'.1) (T := r'.2.1) (N := r'.2.2) (ref := r'.1) F.2.1 F.2.2.1 F.2.2.2.2.2.2.1 c1 ty0 c2 c3 F.2.2.2.2.2.1 F.2.2.2.2.2.2.2 hP hD hS q0 he hr k hk (F.2.2.2.2.2.2.1 _ hlink) (fun x hx => by rw [hdd] at hx; exact hx) hfin (hini _ _ _ _ hX) hdecl hd hn hfit hl (bfx_dec F hT) (fun H1 locs1 hP1 hD1 hS1 => kk p l e s m args below meth c H1 locs1 ls F hX hA hP1 hD1 hS1 hL)
theorem bs_get {ci k idx q0 a : Nat} {r : vw_C} {fs : List Value} {v : Value} (hT : zat M pc = some (.getfield idx, 3)) (hP0 : zPl M idx = some (.inl (ci, k))) (hr : vwCl[ci]? = some r) (he : ws[q0]? = some (a, .inr (ci, fs))) (hv : fs[k]? = some v) (kk : BV D cA M C A cs ss (pc + 3) L (v :: S) ws) : BV D cA M C A cs ss pc L (.ref a :: S) ws := by
  intro p l e s m args below meth c H locs ls F hX hA hP hD hS hL
  obtain ⟨r', hr', hk, hlink⟩ := F.1.2.2.2.2 idx _ hP0
  have hrr : r' = r := Option.some.inj (hr'.symm.trans hr)
  subst hrr
  obtain ⟨c1, _, c3, c4, c5⟩ := zcl_all hr
  have hdd : (r'.2.1 k).1 = r'.1 := (c5 k hk).1
  exact va_get (C := r'.1) (T := r'.2.1) (N := r'.2.2) (ref := r'.1) F.2.1 F.2.2.1 F.2.2.2.2.2.2.1 c1 F.2.2.2.2.2.1 F.2.2.2.2.2.2.2 hP q0 he hr k hk (F.2.2.2.2.2.2.1 _ hlink) (fun x hx => by rw [hdd] at hx; exact hx) hv (bfx_dec F hT) (kk p l e s m args below meth c H locs ls F hX hA hP hD hS hL)
/-- an object into a row -/
theorem bs_aast {q0 qk t0 ci a N v : Nat} {cX : ClassId} {r : vw_C} {vs : List Value} {f : Nat → Option Nat} {i : Int32} (hT : zat M pc = some (.aastore, 1)) (ha : ws[q0]? = some (a, .inl (cX, N, .inr (.inr (.inr (.inr f)))))) (ht : (btys cA)[t0]? = some (cX, .object r.1)) (hv : ws[qk]? = some (v, .inr (ci, vs))) (hr : vwCl[ci]? = some r) (hin : vp_in i N) (kk : BV D cA M C A cs ss (pc + 1) L S (ws.set q0 (a, .inl (cX, N, .inr (.inr (.inr (.inr (va_up f i.toNatClampNeg (some v)))))))) ) : BV D cA M C A cs ss pc L (.ref v :: .int i :: .ref a :: S) ws := by
  intro p l e s m args below meth c H locs ls F hX hA hP hD hS hL
  exact va_astq F.2.1 F.2.2.1 F.2.2.2.2.2.2.2 hP hD hS q0 t0 qk ci ha ht hv hr hin (bfx_dec F hT) (fun H1 locs1 hP1 hD1 hS1 => kk p l e s m args below meth c H1 locs1 ls F hX hA hP1 hD1 hS1 hL)
/-- a number into a row -/
theorem bs_iast {q0 t0 a N : Nat} {cX : ClassId} {f : Nat → Int32} {i x : Int32} (hT : zat M pc = some (.iastore, 1)) (ha : ws[q0]? = some (a, .inl (cX, N, .inl f))) (ht : (btys cA)[t0]? = some (cX, .int)) (hin : vp_in i N) (kk : BV D cA M C A cs ss (pc + 1) L S (ws.set q0 (a, .inl (cX, N, .inl (upd f i.toNatClampNeg x))))) : BV D cA M C A cs ss pc L (.int x :: .int i :: .ref a :: S) ws := by
  intro p l e s m args below meth c H locs ls F hX hA hP hD hS hL
  exact va_iast F.2.1 F.2.2.1 F.2.2.2.2.2.2.2 hP hD hS q0 t0 ha ht hin (bfx_dec F hT) (fun H1 locs1 hP1 hD1 hS1 => kk p l e s m args below meth c H1 locs1 ls F hX hA hP1 hD1 hS1 hL)
theorem bs_obj {idx b : Nat} (hT : zat M pc = some (.invokespecial idx, 3)) (h1 : Cond.methodLink (zown M) idx objectInit ∈ zTB) (h2 : Cond.instanceMethod objectInit ∈ zTB) (h3 : Cond.code objectInit ⟨#[0xb1]⟩ 1 none ∈ zTB) (hf : 1 ≤ C.1.frames) (hlo : (S.map fun v => v.category).sum + 20 ≤ C.1.locals) (hs : (S.map fun v => v.category).sum ≤ 8) (kk : BV D cA M C A cs ss (pc + 3) L S ws) : BV D cA M C A cs ss pc L (.ref b :: S) ws := by
  intro p l e s m args below meth c H locs ls F hX hA hP hD hS hL
  have hm : 2 * (F0 m pc ls (.ref b :: S)).monitorRoom + (S.map fun v => v.category).sum ≤ 8 := lv_room hs
  refine W.objInit F.2.1 F.2.2.1 F.2.2.2.2.2.1 (F.2.2.2.2.2.2.1 _ h1) (F.2.2.2.2.2.2.1 _ h2) (F.2.2.2.2.2.2.1 _ h3) rfl (by rw [F.2.2.2.1]; exact hL.1) rfl (bfx_dec F hT) hf (by omega) ?_
  exact kk p l e s m args below meth c H locs ls F hX hA hP hD hS hL
end BUILD
