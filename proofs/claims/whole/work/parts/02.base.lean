/-! MINI MACHINE: values as whole numbers, cells by family and number; V: the walk Y, seen from there -/
abbrev ZV : Type := Int ⊕ (Int ⊕ ((Nat × Nat) ⊕ Nat))
abbrev ZI (x : Int) : ZV := .inl x
abbrev ZJ (x : Int) : ZV := .inr (.inl x)
abbrev ZR (f i : Nat) : ZV := .inr (.inr (.inl (f, i)))
abbrev ZX (k : Nat) : ZV := .inr (.inr (.inr k))
abbrev ZG : Type := Nat → Nat → Nat → Int
def zup (g : ZG) (f i k : Nat) (v : Int) : ZG := fun a b c => if a = f ∧ c = k ∧ b = i then v else g a b c
/-- the words that a callee may be handed -/
def zTB : List Cond := lw_tbl.filter goodWord
/-- what a family is: kind (0 object, 1 ints, 2 bytes, 3 booleans, 4 longs, 5 streets, 6 tapes), how many -/
def zfam (f : Nat) : Nat × Nat := match f with
  | 0 => (0, 5) | 1 => (0, 9) | 2 => (0, 12) | 3 => (0, 3) | 4 => (0, 3) | 5 => (0, 6) | 6 => (0, 4) | 7 => (0, 10) | 8 => (0, 52)
  | 10 => (1, 20) | 11 => (1, 6) | 12 => (1, 864) | 13 => (1, 288) | 14 => (1, 8) | 15 => (1, 6) | 16 => (1, 6) | 17 => (1, 6) | 18 => (1, 6) | 19 => (1, 12)
  | 20 => (1, 100) | 21 => (4, 60) | 22 => (2, 100) | 23 => (1, 6) | 24 => (1, 6) | 25 => (5, 6) | 26 => (6, 6)
  | 30 => (1, 6) | 31 => (1, 6) | 32 => (1, 6) | 33 => (1, 6) | 34 => (1, 100) | 35 => (1, 6) | 36 => (1, 60) | 37 => (1, 60) | 38 => (1, 60) | 39 => (1, 60) | 40 => (1, 600) | 41 => (1, 101) | 42 => (1, 12) | 43 => (3, 100)
  | 44 => (1, 6) | 45 => (1, 6) | 46 => (1, 12) | 47 => (1, 6) | 48 => (1, 6) | 49 => (1, 6) | 50 => (1, 6) | 51 => (1, 12) | 52 => (1, 20) | 53 => (1, 6) | 54 => (1, 6) | 55 => (4, 360) | 56 => (4, 60)
  | _ => (9, 0)
/-- the fields of a class: (tag, a, b); tag 0 int, 1 boolean, 3 the cell (a, own number), 4 the cell (a, b), 5 a cell of family a, 6 that or null -/
def zfld (f : Nat) : List (Nat × Nat × Nat) := match f with
  | 0 => [(0, 0, 0), (0, 0, 0), (0, 0, 0), (0, 0, 0), (3, 10, 0)]
  | 1 => [(4, 2, 2), (0, 0, 0), (3, 11, 0), (0, 0, 0), (0, 0, 0), (0, 0, 0), (3, 12, 0), (3, 13, 0), (0, 0, 0)]
  | 2 => [(0, 0, 0), (0, 0, 0), (3, 14, 0), (0, 0, 0), (3, 15, 0), (3, 16, 0), (3, 17, 0), (3, 18, 0), (0, 0, 0), (3, 19, 0), (0, 0, 0), (5, 3, 0)]
  | 3 => [(3, 20, 0), (0, 0, 0), (1, 0, 0)]
  | 4 => [(0, 0, 0), (0, 0, 0), (3, 21, 0)]
  | 5 => [(0, 0, 0), (3, 22, 0), (6, 3, 0), (0, 0, 0), (0, 0, 0), (1, 0, 0)]
  | 6 => [(3, 23, 0), (3, 24, 0), (1, 0, 0), (0, 0, 0)]
  | 7 => [(3, 25, 0), (3, 26, 0), (4, 5, 0), (4, 0, 0), (4, 6, 0), (4, 2, 0), (4, 2, 1), (4, 1, 0), (0, 0, 0), (1, 0, 0)]
  | 8 => [(0, 0, 0), (0, 0, 0), (0, 0, 0), (0, 0, 0), (3, 30, 0), (3, 31, 0), (3, 32, 0), (3, 33, 0), (0, 0, 0), (0, 0, 0), (0, 0, 0), (0, 0, 0), (0, 0, 0), (3, 34, 0), (3, 35, 0), (3, 36, 0), (3, 37, 0), (3, 38, 0), (3, 39, 0), (3, 40, 0), (3, 41, 0), (0, 0, 0), (0, 0, 0), (0, 0, 0), (3, 42, 0), (3, 43, 0), (0, 0, 0), (3, 44, 0), (0, 0, 0), (3, 45, 0), (0, 0, 0), (0, 0, 0), (0, 0, 0), (3, 46, 0), (1, 0, 0), (0, 0, 0), (0, 0, 0), (0, 0, 0), (0, 0, 0), (0, 0, 0), (0, 0, 0), (3, 47, 0), (3, 48, 0), (3, 49, 0), (3, 50, 0), (3, 51, 0), (0, 0, 0), (3, 52, 0), (3, 53, 0), (3, 54, 0), (3, 55, 0), (3, 56, 0)]
  | _ => []
/-- a world: the kit's class numbers, the classes of arrays by kind, which cells there are, where they lie, where what is outside lies -/
abbrev ZW : Type := va_G × (Nat → ClassId) × List (Nat × Nat) × (Nat → Nat → Nat) × (Nat → Nat)
abbrev zD (Y : ZW) : va_G := Y.1
abbrev zcA (Y : ZW) : Nat → ClassId := Y.2.1
abbrev zids (Y : ZW) : List (Nat × Nat) := Y.2.2.1
abbrev zad (Y : ZW) : Nat → Nat → Nat := Y.2.2.2.1
abbrev zex (Y : ZW) : Nat → Nat := Y.2.2.2.2
def ztys (Y : ZW) : List (ClassId × FieldType) := [(zcA Y 1, .int), (zcA Y 2, .byte), (zcA Y 3, .boolean), (zcA Y 4, .long), (zcA Y 5, .object "ThirdAlike$Street"), (zcA Y 6, .object "ThirdAlike$Tape")]
def zval (Y : ZW) (v : ZV) : Value := match v with
  | .inl x => .int (Int32.ofInt x)
  | .inr (.inl x) => .long (Int64.ofInt x)
  | .inr (.inr (.inl q)) => .ref (zad Y q.1 q.2)
  | .inr (.inr (.inr k)) => .ref (zex Y k)
def zok (Y : ZW) (v : ZV) : Prop := match v with
  | .inl x => -2147483648 ≤ x ∧ x < 2147483648
  | .inr (.inl x) => -9223372036854775808 ≤ x ∧ x < 9223372036854775808
  | .inr (.inr (.inl q)) => q ∈ zids Y
  | .inr (.inr (.inr _)) => True
/-- a field's value -/
def zfv (Y : ZW) (t : Nat × Nat × Nat) (i : Nat) (x : Int) : Value := match t.1 with
  | 0 => .int (Int32.ofInt x)
  | 1 => .int (Int32.ofInt x)
  | 3 => .ref (zad Y t.2.1 i)
  | 4 => .ref (zad Y t.2.1 t.2.2)
  | 5 => .ref (zad Y t.2.1 x.toNat)
  | _ => if x < 0 then .null else .ref (zad Y t.2.1 x.toNat)
/-- what may stand in a place -/
def zfr (Y : ZW) (t : Nat × Nat × Nat) (i : Nat) (x : Int) : Prop := match t.1 with
  | 0 => -2147483648 ≤ x ∧ x < 2147483648
  | 1 => 0 ≤ x ∧ x ≤ 1
  | 3 => (t.2.1, i) ∈ zids Y
  | 4 => (t.2.1, t.2.2) ∈ zids Y
  | 5 => (t.2.1, x.toNat) ∈ zids Y
  | _ => 0 ≤ x → (t.2.1, x.toNat) ∈ zids Y
def zar (k : Nat) (x : Int) : Prop := match k with
  | 1 => -2147483648 ≤ x ∧ x < 2147483648
  | 2 => -128 ≤ x ∧ x < 128
  | 3 => 0 ≤ x ∧ x ≤ 1
  | 4 => -9223372036854775808 ≤ x ∧ x < 9223372036854775808
  | _ => True
def zcell (Y : ZW) (f i : Nat) (h : Nat → Int) : va_E := match (zfam f).1 with
  | 0 => .inr (f, (List.range (zfam f).2).map fun k => zfv Y ((zfld f).getD k (9, 0, 0)) i (h k))
  | 1 => .inl (zcA Y 1, (zfam f).2, .inl fun j => Int32.ofInt (h j))
  | 2 => .inl (zcA Y 2, (zfam f).2, .inl fun j => Int32.ofInt (h j))
  | 3 => .inl (zcA Y 3, (zfam f).2, .inl fun j => Int32.ofInt (h j))
  | 4 => .inl (zcA Y 4, (zfam f).2, .inr (.inl fun j => Int64.ofInt (h j)))
  | 5 => .inl (zcA Y 5, (zfam f).2, .inr (.inr (.inr (.inr fun j => some (zad Y 3 j)))))
  | _ => .inl (zcA Y 6, (zfam f).2, .inr (.inr (.inr (.inr fun j => some (zad Y 4 j)))))
def zws (Y : ZW) (g : ZG) : va_W := (zids Y).map fun q => (zad Y q.1 q.2, zcell Y q.1 q.2 (g q.1 q.2))
def zZ (Y : ZW) : Nat → Prop := fun a => ∃ q, q ∈ zids Y ∧ zad Y q.1 q.2 = a
/-- every place holds what it may -/
def zrg (Y : ZW) (g : ZG) : Prop := ∀ f i, (f, i) ∈ zids Y → ((zfam f).1 = 0 → ∀ k, k < (zfam f).2 → zfr Y ((zfld f).getD k (9, 0, 0)) i (g f i k)) ∧ ∀ k, k < (zfam f).2 → zar (zfam f).1 (g f i k)
/-- the cells are of the families; the rows of cells are whole -/
def zwf (Y : ZW) : Prop := ∀ f i, (f, i) ∈ zids Y → (zfam f).1 < 9 ∧ ((zfam f).1 = 5 → ∀ j, j < (zfam f).2 → (3, j) ∈ zids Y) ∧ ((zfam f).1 = 6 → ∀ j, j < (zfam f).2 → (4, j) ∈ zids Y)
def zH (Y : ZW) (g : ZG) (H : Heap) : Prop := va_P (zD Y) vwCl (zws Y g) H ∧ va_D (zZ Y) (zws Y g) ∧ zrg Y g
/-- static rows outside -/
def zxr (k : Nat) : List Int := match k with
  | 0 => [-1, 0, 0, 0, 1, 2, 3]
  | 1 => [0, 1, 21, 26, 34, 41, 51, 61, 67, 76, 81]
  | 10 => [109, 111, 115, 116, 32]
  | 11 => [100, 101, 97, 114, 32]
  | 12 => [119, 105, 115, 104, 32]
  | 13 => [112, 115, 107, 104, 102, 109]
  | 14 => [60, 61, 62]
  | _ => []
def zkT (k : Nat) : Nat × String := match k with
  | 0 => (48, "most ")
  | 1 => (50, "dear ")
  | 2 => (52, "wish ")
  | 3 => (80, "pskhfm")
  | _ => (86, "<=>")
def zxlen : List Nat := [5, 5, 5, 6, 3]
def zxbyt : List (List Int32) := [[109, 111, 115, 116, 32], [100, 101, 97, 114, 32], [119, 105, 115, 104, 32], [112, 115, 107, 104, 102, 109], [60, 61, 62]]
def zExt (Y : ZW) (s : State) (H : Heap) : Prop :=
  va_Z "ThirdAlike" "ABOVE" "[I" (.ref (zex Y 0)) (zZ Y) s H ∧ va_T .int (zex Y 0) 7 (fun j => .int (Int32.ofInt ((zxr 0).getD j 0))) (zZ Y) s H ∧
  va_Z "ThirdAlike" "WISHES_THAT_DIFFER" "[I" (.ref (zex Y 1)) (zZ Y) s H ∧ va_T .int (zex Y 1) 11 (fun j => .int (Int32.ofInt ((zxr 1).getD j 0))) (zZ Y) s H ∧
  vk_S 5 zxlen zxbyt (fun i => zex Y (10 + i)) (fun i => zex Y (20 + i)) (zZ Y) s H ∧
  (∀ i, i < 5 → vk_R "ThirdAlike$Text" (zkT i).1 (zkT i).2 (zex Y (10 + i)) s) ∧
  va_Z "java/lang/String" "COMPACT_STRINGS" "Z" (.int 1) (zZ Y) s H ∧ va_Zq "jdk/internal/util/Preconditions" "SIOOBE_FORMATTER" "Ljava/util/function/BiFunction;" (zZ Y) s H ∧
  (∀ (i : Nat) (y : MethodName), Cond.methodLinkNest "ThirdAlike" i y "ThirdAlike" ∈ tables_1 → va_Nw (.methodLinkNest "ThirdAlike" i y "ThirdAlike") s)
/-- a method: its class, its name, its code, its locals, its answer, its instructions, what its pool's entries are -/
abbrev ZPE : Type := (Nat × Nat) ⊕ ZV
abbrev ZM : Type := String × MethodName × ByteArray × Nat × Option FieldType × List (Option (Instr × Nat)) × (Nat → Option ZPE)
abbrev zown (M : ZM) : String := M.1
abbrev zy (M : ZM) : MethodName := M.2.1
abbrev zcc (M : ZM) : ByteArray := M.2.2.1
abbrev zn (M : ZM) : Nat := M.2.2.2.1
abbrev zret (M : ZM) : Option FieldType := M.2.2.2.2.1
abbrev zT (M : ZM) : List (Option (Instr × Nat)) := M.2.2.2.2.2.1
abbrev zPl (M : ZM) : Nat → Option ZPE := M.2.2.2.2.2.2
def zat (M : ZM) (pc : Nat) : Option (Instr × Nat) := (zT M).getD pc none
def zchk (b : ByteArray) : Nat → List (Option (Instr × Nat)) → Bool
  | _, [] => true
  | k, none :: r => zchk b (k + 1) r
  | k, some x :: r => (match decode b k with
    | .ok y => decide (y = x)
    | .error _ => false) && zchk b (k + 1) r
theorem zchk_at {b : ByteArray} : ∀ (T : List (Option (Instr × Nat))) (k pc : Nat) (x : Instr × Nat), zchk b k T = true → T.getD pc none = some x → decode b (k + pc) = .ok x := by
  intro T
  induction T with
  | nil => intro k pc x _ h; simp at h
  | cons o r ih =>
    intro k pc x h hx
    cases pc with
    | zero =>
      have hx : o = some x := by simpa using hx
      subst hx
      simp only [zchk, Bool.and_eq_true] at h
      cases hd : decode b k with
      | ok y => rw [hd] at h; simp only [decide_eq_true_eq] at h; rw [h.1]
      | error q => rw [hd] at h; simp at h
    | succ pc =>
      have hx : r.getD pc none = some x := by simpa using hx
      have h2 : zchk b (k + 1) r = true := by
        cases o with
        | none => exact h
        | some o => simp only [zchk, Bool.and_eq_true] at h; exact h.2
      have h3 := ih (k + 1) pc x h2 hx
      rw [show k + (pc + 1) = k + 1 + pc by omega]
      exact h3
def zPE (own : String) (idx : Nat) (e : ZPE) : Prop := match e with
  | .inl q => ∃ r : vw_C, vwCl[q.1]? = some r ∧ q.2 < r.2.2 ∧ Cond.fieldLink own idx r.1 (r.2.1 q.2).2.1 (r.2.1 q.2).2.2.1 ∈ zTB
  | .inr (.inr (.inl x)) => Cond.constantLong own idx (Int64.ofInt x) ∈ zTB ∧ -9223372036854775808 ≤ x ∧ x < 9223372036854775808
  | .inr (.inr (.inr (.inr k))) => (k = 0 ∧ Cond.fieldLink own idx "ThirdAlike" "ABOVE" "[I" ∈ zTB) ∨ (k = 1 ∧ Cond.fieldLink own idx "ThirdAlike" "WISHES_THAT_DIFFER" "[I" ∈ zTB) ∨ ∃ i, i < 5 ∧ k = 10 + i ∧ own = "ThirdAlike$Text" ∧ idx = (zkT i).1
  | _ => False
def zgood (M : ZM) : Prop := plainName (zy M).cls = true ∧ (zy M).cls = zown M ∧ True ∧ zchk (zcc M) 0 (zT M) = true ∧ ∀ idx e, zPl M idx = some e → zPE (zown M) idx e
def zrm (d : Nat) : Room := { frames := d, cells := 0, slots := 0, locals := 40 * d }
def zQ (Y : ZW) (Q : Option ZV → ZG → Prop) : Array Value → State → Outcome → State → Prop := fun _ st o t => (∃ (r : Option ZV) (g' : ZG), o = .returned (r.map (zval Y)) ∧ Q r g' ∧ (∀ v, r = some v → zok Y v) ∧ zH Y g' t.heap) ∧ va_F (zZ Y) st t
def zFx (Y : ZW) (M : ZM) (p : Program) (s : State) (m : MethodId) (args : Array Value) (meth : Method) (c : Code) : Prop :=
  zgood M ∧ zwf Y ∧ p.tables.exec = Jvm.exec ∧ c.code = zcc M ∧ c.maxLocals = zn M ∧ meth.sig.returnType = zret M ∧ meth.locks = false ∧ s.vm.findClass (zown M) = some m.cls ∧ (∀ w ∈ zTB, w.before args s = true) ∧ va_K (zD Y) vwCl (ztys Y) s ∧ zExt Y s s.heap
/-- the locals -/
def zLs (Y : ZW) (L : List ZV) (ls : Array Slot) (n : Nat) : Prop := ls.size = n ∧ lv_wf ls ∧ L.length = n ∧ ∀ (i : Nat) (v : ZV), L[i]? = some v → v ≠ ZX 99 → ls[i]? = some (.val (zval Y v)) ∧ zok Y v
/-- a walk's own: its room, what it has made so far, what it knows of its start besides, where it goes -/
abbrev ZCx : Type := Room × (Nat × Nat) × (Array Value → State → Prop) × (List Frame → Array Value → State → State → Prop)
abbrev zcx (Y : ZW) (d : Nat) (Q : Option ZV → ZG → Prop) : ZCx := (zrm d, (0, 0), fun _ _ => True, fun below args s => MQ below (zQ Y Q) args s 0 0 (zZ Y))
def zroom (C : ZCx) (d : Nat) : Prop := d + 1 ≤ C.1.frames ∧ 40 * d + 40 ≤ C.1.locals ∧ C.2.1.1 ≤ C.1.cells ∧ C.2.1.2 ≤ C.1.slots
theorem zroom_of {Y : ZW} {d d' : Nat} {Q : Option ZV → ZG → Prop} (h : d' + 1 ≤ d) : zroom (zcx Y d Q) d' := ⟨h, by show 40 * d' + 40 ≤ 40 * d; omega, Nat.le_refl _, Nat.le_refl _⟩
def ZVV (Y : ZW) (M : ZM) (C : ZCx) (pc : Nat) (L S : List ZV) (g : ZG) : Prop :=
  ∀ (p : Program) (l : Launch) (e : Env) (s : State) (m : MethodId) (args : Array Value) (below : List Frame) (meth : Method) (c : Code) (H : Heap) (locs : List Loc) (ls : Array Slot),
    zFx Y M p s m args meth c → C.2.2.1 args s → zH Y g H → va_S (zZ Y) s.heap H locs → zLs Y L ls (zn M) → (∀ v, v ∈ S → zok Y v) →
    W p l e C.1 s m args below meth c H locs C.2.1.1 C.2.1.2 (C.2.2.2 below args s) (F0 m pc ls (S.map (zval Y)))
