def zvirS (M : ZM) : Prop := (zy M).cls = "java/lang/String" ∧ Cond.instanceMethod (zy M) ∈ zTB ∧ Cond.selects "java/lang/String" (zy M) (zy M) ∈ zTB
def tJ0_length : List (Option (Instr × Nat)) := [some (.aload_n 0, 1), some (.getfield 9, 3), none, none, some (.arraylength, 1), some (.aload_n 0, 1), some (.invokevirtual 335, 3), none, none, some (.ishr, 1), some (.ireturn, 1)]
def mJ0_length : ZM := ("java/lang/String", ⟨"java/lang/String", "length", "()I"⟩, prog_12_method_54_code, 1, some .int, tJ0_length, fun _ => none)
theorem gJ0_length : zgood mJ0_length := ⟨by decide, rfl, trivial, by decide +kernel, fun idx e h => by cases h⟩
def tJ0_coder : List (Option (Instr × Nat)) := [some (.getstatic 38, 3), none, none, some (.ifCond .eq 10, 3), none, none, some (.aload_n 0, 1), some (.getfield 15, 3), none, none, some (.goto 4, 3), none, none, none, some (.ireturn, 1)]
def mJ0_coder : ZM := ("java/lang/String", ⟨"java/lang/String", "coder", "()B"⟩, prog_12_method_152_code, 1, some .byte, tJ0_coder, fun _ => none)
theorem gJ0_coder : zgood mJ0_coder := ⟨by decide, rfl, trivial, by decide +kernel, fun idx e h => by cases h⟩
def tJ0_isLatin1 : List (Option (Instr × Nat)) := [some (.getstatic 38, 3), none, none, some (.ifCond .eq 14, 3), none, none, some (.aload_n 0, 1), some (.getfield 15, 3), none, none, some (.ifCond .ne 7, 3), none, none, some (.iconst 1, 1), some (.goto 4, 3), none, none, none, some (.ireturn, 1)]
def mJ0_isLatin1 : ZM := ("java/lang/String", ⟨"java/lang/String", "isLatin1", "()Z"⟩, prog_12_method_154_code, 1, some .boolean, tJ0_isLatin1, fun _ => none)
theorem gJ0_isLatin1 : zgood mJ0_isLatin1 := ⟨by decide, rfl, trivial, by decide +kernel, fun idx e h => by cases h⟩
def tJ0_charAt : List (Option (Instr × Nat)) := [some (.aload_n 0, 1), some (.invokevirtual 492, 3), none, none, some (.ifCond .eq 12, 3), none, none, some (.aload_n 0, 1), some (.getfield 9, 3), none, none, some (.iload_n 1, 1), some (.invokestatic 495, 3), none, none, some (.ireturn, 1)]
def mJ0_charAt : ZM := ("java/lang/String", ⟨"java/lang/String", "charAt", "(I)C"⟩, prog_12_method_56_code, 2, some .char, tJ0_charAt, fun _ => none)
theorem gJ0_charAt : zgood mJ0_charAt := ⟨by decide, rfl, trivial, by decide +kernel, fun idx e h => by cases h⟩
def tJ0_checkIndex : List (Option (Instr × Nat)) := [some (.iload_n 0, 1), some (.iload_n 1, 1), some (.getstatic 1053, 3), none, none, some (.invokestatic 1059, 3), none, none, some (.pop, 1), some (.return_, 1)]
def mJ0_checkIndex : ZM := ("java/lang/String", ⟨"java/lang/String", "checkIndex", "(II)V"⟩, prog_12_method_155_code, 2, none, tJ0_checkIndex, fun _ => none)
theorem gJ0_checkIndex : zgood mJ0_checkIndex := ⟨by decide, rfl, trivial, by decide +kernel, fun idx e h => by cases h⟩
def tJ1_charAt : List (Option (Instr × Nat)) := [some (.iload_n 1, 1), some (.aload_n 0, 1), some (.arraylength, 1), some (.invokestatic 9, 3), none, none, some (.aload_n 0, 1), some (.iload_n 1, 1), some (.baload, 1), some (.sipush 255, 3), none, none, some (.iand, 1), some (.i2c, 1), some (.ireturn, 1)]
def mJ1_charAt : ZM := ("java/lang/StringLatin1", ⟨"java/lang/StringLatin1", "charAt", "([BI)C"⟩, prog_13_method_2_code, 2, some .char, tJ1_charAt, fun _ => none)
theorem gJ1_charAt : zgood mJ1_charAt := ⟨by decide, rfl, trivial, by decide +kernel, fun idx e h => by cases h⟩
def tJ3_checkIndex : List (Option (Instr × Nat)) := [some (.iload_n 0, 1), some (.ifCond .lt 8, 3), none, none, some (.iload_n 0, 1), some (.iload_n 1, 1), some (.if_icmp .lt 10, 3), none, none, none, none, none, none, none, none, none, some (.iload_n 0, 1), some (.ireturn, 1)]
def mJ3_checkIndex : ZM := ("jdk/internal/util/Preconditions", ⟨"jdk/internal/util/Preconditions", "checkIndex", "(IILjava/util/function/BiFunction;)I"⟩, prog_16_method_11_code, 3, some .int, tJ3_checkIndex, fun _ => none)
theorem gJ3_checkIndex : zgood mJ3_checkIndex := ⟨by decide, rfl, trivial, by decide +kernel, fun idx e h => by cases h⟩
theorem kX5_54 : zlk RX5 54 mJ0_length 0 := ⟨zinT 414 (by decide +kernel) rfl, zinT 12 (by decide +kernel) rfl, ⟨by decide, by decide, by decide +kernel⟩, by decide, zinT 417 (by decide +kernel) rfl⟩
theorem kJ0_335 : zlk "java/lang/String" 335 mJ0_coder 0 := ⟨zinT 418 (by decide +kernel) rfl, zinT 12 (by decide +kernel) rfl, ⟨by decide, by decide, by decide +kernel⟩, by decide, zinT 421 (by decide +kernel) rfl⟩
theorem kX5_59 : zlk RX5 59 mJ0_charAt 1 := ⟨zinT 424 (by decide +kernel) rfl, zinT 12 (by decide +kernel) rfl, ⟨by decide, by decide, by decide +kernel⟩, by decide, zinT 427 (by decide +kernel) rfl⟩
theorem kJ0_492 : zlk "java/lang/String" 492 mJ0_isLatin1 0 := ⟨zinT 428 (by decide +kernel) rfl, zinT 12 (by decide +kernel) rfl, ⟨by decide, by decide, by decide +kernel⟩, by decide, zinT 431 (by decide +kernel) rfl⟩
theorem kJ0_495 : zlk "java/lang/String" 495 mJ1_charAt 2 := ⟨zinT 432 (by decide +kernel) rfl, zinT 13 (by decide +kernel) rfl, ⟨by decide, by decide, by decide +kernel⟩, by decide, zinT 434 (by decide +kernel) rfl⟩
theorem kJ1_9 : zlk "java/lang/StringLatin1" 9 mJ0_checkIndex 2 := ⟨zinT 435 (by decide +kernel) rfl, zinT 12 (by decide +kernel) rfl, ⟨by decide, by decide, by decide +kernel⟩, by decide, zinT 437 (by decide +kernel) rfl⟩
theorem kJ0_1059 : zlk "java/lang/String" 1059 mJ3_checkIndex 3 := ⟨zinT 440 (by decide +kernel) rfl, zinT 14 (by decide +kernel) rfl, ⟨by decide, by decide, by decide +kernel⟩, by decide, zinT 442 (by decide +kernel) rfl⟩
theorem vJ0_length : zvirS mJ0_length := ⟨rfl, zinT 415 (by decide +kernel) rfl, zinT 416 (by decide +kernel) rfl⟩
theorem vJ0_coder : zvirS mJ0_coder := ⟨rfl, zinT 419 (by decide +kernel) rfl, zinT 420 (by decide +kernel) rfl⟩
theorem vJ0_charAt : zvirS mJ0_charAt := ⟨rfl, zinT 425 (by decide +kernel) rfl, zinT 426 (by decide +kernel) rfl⟩
theorem vJ0_isLatin1 : zvirS mJ0_isLatin1 := ⟨rfl, zinT 429 (by decide +kernel) rfl, zinT 430 (by decide +kernel) rfl⟩
theorem sJ1_charAt : Cond.static (zy mJ1_charAt) ∈ zTB := zinT 433 (by decide +kernel) rfl
theorem sJ0_checkIndex : Cond.static (zy mJ0_checkIndex) ∈ zTB := zinT 436 (by decide +kernel) rfl
theorem sJ3_checkIndex : Cond.static (zy mJ3_checkIndex) ∈ zTB := zinT 441 (by decide +kernel) rfl
theorem jF38 : Cond.fieldLink "java/lang/String" 38 "java/lang/String" "COMPACT_STRINGS" "Z" ∈ zTB := zinT 422 (by decide +kernel) rfl
theorem jF1053 : Cond.fieldLink "java/lang/String" 1053 "jdk/internal/util/Preconditions" "SIOOBE_FORMATTER" "Ljava/util/function/BiFunction;" ∈ zTB := zinT 438 (by decide +kernel) rfl
theorem jF9 : Cond.fieldLink "java/lang/String" 9 "java/lang/String" "value" "[B" ∈ zTB := zinT 1262 (by decide +kernel) rfl
theorem jF15 : Cond.fieldLink "java/lang/String" 15 "java/lang/String" "coder" "B" ∈ zTB := zinT 1263 (by decide +kernel) rfl
theorem jchr : ∀ n : Nat, n < 128 → narrow .char (.int (Int32.ofInt (n : Int))) = .int (Int32.ofInt (n : Int)) ∧ ((Int32.ofInt (n : Int)).toUInt32 % 65536).toInt32 = Int32.ofInt (n : Int) ∧ zand (n : Int) 255 = n := by decide +kernel
theorem jxr : ∀ i, i < 5 → (zxr (10 + i)).length = zxlen.getD i 0 ∧ zxlen.getD i 0 < 7 ∧ ∀ j, j < zxlen.getD i 0 → (zxbyt.getD i []).getD j 0 = Int32.ofInt ((zxr (10 + i)).getD j 0) ∧ 0 ≤ (zxr (10 + i)).getD j 0 ∧ (zxr (10 + i)).getD j 0 < 128 := by decide +kernel
section ZJS
variable {Y : ZW} {M M' : ZM} {d' : Nat} {C : ZCx} {pc idx n : Nat} {L S St : List ZV} {g : ZG} {pre : List ZV → ZG → Prop} {post : List ZV → ZG → Option ZV → ZG → Prop}
theorem zs_sval {i : Nat} (hi : i < 5) (hT : zat M pc = some (.getfield idx, 3)) (hP : Cond.fieldLink (zown M) idx "java/lang/String" "value" "[B" ∈ zTB) (kk : ZVV Y M C (pc + 3) L (ZX (20 + i) :: S) g) : ZVV Y M C pc L (ZX (10 + i) :: S) g := by
  intro p l e s m args below meth c H locs ls F hX hH hS hL hO
  have hx := F.2.2.1
  have hb := F.2.2.2.1
  have hts := F.2.2.2.2.2.2.2.2.1
  have hE := F.2.2.2.2.2.2.2.2.2.2.2.2.2.2.1
  exact vk_getf hx hb (hE.1 i hi).2.2.1 hS F.2.2.2.2.2.2.2.1 (hts _ hP) (fun _ h => h) (zfx_dec F hT) (kk p l e s m args below meth c H locs ls F hX hH hS hL (zok_cons.mpr ⟨trivial, (zok_cons.mp hO).2⟩))
theorem zs_scod {i : Nat} (hi : i < 5) (hT : zat M pc = some (.getfield idx, 3)) (hP : Cond.fieldLink (zown M) idx "java/lang/String" "coder" "B" ∈ zTB) (kk : ZVV Y M C (pc + 3) L (ZI 0 :: S) g) : ZVV Y M C pc L (ZX (10 + i) :: S) g := by
  intro p l e s m args below meth c H locs ls F hX hH hS hL hO
  have hx := F.2.2.1
  have hb := F.2.2.2.1
  have hts := F.2.2.2.2.2.2.2.2.1
  have hE := F.2.2.2.2.2.2.2.2.2.2.2.2.2.2.1
  exact vk_getf hx hb (hE.1 i hi).2.1 hS F.2.2.2.2.2.2.2.1 (hts _ hP) (fun _ h => h) (zfx_dec F hT) (kk p l e s m args below meth c H locs ls F hX hH hS hL (zok_cons.mpr ⟨zok0, (zok_cons.mp hO).2⟩))
theorem zs_scs (hT : zat M pc = some (.getstatic idx, 3)) (hP : Cond.fieldLink (zown M) idx "java/lang/String" "COMPACT_STRINGS" "Z" ∈ zTB) (kk : ZVV Y M C (pc + 3) L (ZI 1 :: S) g) : ZVV Y M C pc L S g := by
  intro p l e s m args below meth c H locs ls F hX hH hS hL hO
  have hx := F.2.2.1
  have hb := F.2.2.2.1
  have hts := F.2.2.2.2.2.2.2.2.1
  exact va_gets hx hb F.2.2.2.2.2.2.2.2.2.2.2.2.2.2.2.2.1 hS F.2.2.2.2.2.2.2.1 (hts _ hP) (fun _ h => h) (zfx_dec F hT) (kk p l e s m args below meth c H locs ls F hX hH hS hL (zok_cons.mpr ⟨⟨by omega, by omega⟩, hO⟩))
theorem zs_slen {i : Nat} (hi : i < 5) (hT : zat M pc = some (.arraylength, 1)) (kk : ZVV Y M C (pc + 1) L (ZI ((zxr (10 + i)).length : Nat) :: S) g) : ZVV Y M C pc L (ZX (20 + i) :: S) g := by
  intro p l e s m args below meth c H locs ls F hX hH hS hL hO
  have hx := F.2.2.1
  have hb := F.2.2.2.1
  have hE := F.2.2.2.2.2.2.2.2.2.2.2.2.2.2.1
  have hj := jxr i hi
  exact va_tlen hx hb (hE.1 i hi).2.2.2 hS (v := Int32.ofInt ((zxr (10 + i)).length : Nat)) (by rw [hj.1]; exact Int32.ofInt_eq_ofNat.symm) (zfx_dec F hT) (kk p l e s m args below meth c H locs ls F hX hH hS hL (zok_cons.mpr ⟨⟨by omega, by omega⟩, (zok_cons.mp hO).2⟩))
theorem zs_sbal {i : Nat} {j : Int} (hi : i < 5) (hT : zat M pc = some (.baload, 1)) (h0 : 0 ≤ j) (h1 : j < (zxr (10 + i)).length) (kk : ZVV Y M C (pc + 1) L (ZI ((zxr (10 + i)).getD j.toNat 0) :: S) g) : ZVV Y M C pc L (ZI j :: ZX (20 + i) :: S) g := by
  intro p l e s m args below meth c H locs ls F hX hH hS hL hO
  have hx := F.2.2.1
  have hb := F.2.2.2.1
  have hE := F.2.2.2.2.2.2.2.2.2.2.2.2.2.2.1
  have hO1 := zok_cons.mp hO
  have hO2 := zok_cons.mp hO1.2
  have hj := jxr i hi
  have h2 := hj.2.2 j.toNat (by omega)
  obtain ⟨hin, he⟩ := zI_in (n := zxlen.getD i 0) hO1.1 h0 (by omega)
  exact va_tb hx hb (hE.1 i hi).2.2.2 hS hin (v := .int (Int32.ofInt ((zxr (10 + i)).getD j.toNat 0))) (by rw [he]; exact congrArg Value.int h2.1) (zfx_dec F hT) (kk p l e s m args below meth c H locs ls F hX hH hS hL (zok_cons.mpr ⟨⟨by omega, by omega⟩, hO2.2⟩))
theorem zs_i2c {x : Int} (h : 0 ≤ x ∧ x < 128) (hT : zat M pc = some (.i2c, 1)) (kk : ZVV Y M C (pc + 1) L (ZI x :: S) g) : ZVV Y M C pc L (ZI x :: S) g := by
  intro p l e s m args below meth c H locs ls F hX hH hS hL hO
  have hx := F.2.2.1
  have hb := F.2.2.2.1
  have hj := jchr x.toNat (by omega)
  rw [show ((x.toNat : Nat) : Int) = x by omega] at hj
  exact lv_i2c hx hb (zfx_dec F hT) hj.2.1 (kk p l e s m args below meth c H locs ls F hX hH hS hL hO)
theorem zs_creturn {d : Nat} {Q : Option ZV → ZG → Prop} {x : Int} (hT : zat M pc = some (.ireturn, 1)) (hr : zret M = some .char) (hx2 : 0 ≤ x ∧ x < 128) (hq : Q (some (ZI x)) g) : ZVV Y M (zcx Y d Q) pc L [ZI x] g := by
  intro p l e s m args below meth c H locs ls F hX hH hS hL hO
  have hx := F.2.2.1
  have hb := F.2.2.2.1
  have hr' : meth.sig.returnType = some .char := F.2.2.2.2.2.1.trans hr
  have hlk := F.2.2.2.2.2.2.1
  have hj := jchr x.toNat (by omega)
  rw [show ((x.toNat : Nat) : Int) = x by omega] at hj
  exact W.zret hx hb hr' hj.1 (fun t ht hW => ⟨⟨some (ZI x), g, rfl, hq, fun v hv => by cases hv; exact (zok_cons.mp hO).1, by rw [ht]; exact hH⟩, hS.F ht⟩) hS.2.2 (zfx_dec F hT) hlk
theorem zs_b0return {d : Nat} {Q : Option ZV → ZG → Prop} (hT : zat M pc = some (.ireturn, 1)) (hr : zret M = some .byte) (hq : Q (some (ZI 0)) g) : ZVV Y M (zcx Y d Q) pc L [ZI 0] g := by
  intro p l e s m args below meth c H locs ls F hX hH hS hL hO
  have hx := F.2.2.1
  have hb := F.2.2.2.1
  have hr' : meth.sig.returnType = some .byte := F.2.2.2.2.2.1.trans hr
  have hlk := F.2.2.2.2.2.2.1
  exact W.zret hx hb hr' (by decide) (fun t ht hW => ⟨⟨some (ZI 0), g, rfl, hq, fun v hv => by cases hv; exact (zok_cons.mp hO).1, by rw [ht]; exact hH⟩, hS.F ht⟩) hS.2.2 (zfx_dec F hT) hlk
theorem zs_callX {i : Nat} (hi : i < 5) (hT : zat M pc = some (.invokevirtual idx, 3)) (hl : zlk (zown M) idx M' n) (hv : zvirS M') (hC : ZC M' d' pre post) (As : List ZV) (S : List ZV) (hst : St = As.reverse ++ ZX (10 + i) :: S) (hd : zroom C d') (hn : As.length = n) (hcat : (S.map zcat).sum ≤ 8) (hp : pre (ZX (10 + i) :: As) g) (kk : ∀ r g', post (ZX (10 + i) :: As) g r g' → ZVV Y M C (pc + 3) L (r.toList ++ S) g') : ZVV Y M C pc L St g := by
  subst hst
  intro p l e s m args below meth c H locs ls F hX hH hS hL hO
  have hx := F.2.2.1
  have hb := F.2.2.2.1
  have hts := F.2.2.2.2.2.2.2.2.1
  have hOA : ∀ v, v ∈ (ZX (10 + i) :: As) → zok Y v := fun v hv => hO v (by rw [List.mem_append, List.mem_reverse]; rcases List.mem_cons.mp hv with rfl | hv; exact Or.inr List.mem_cons_self; exact Or.inl hv)
  have hOS : ∀ v, v ∈ S → zok Y v := fun v hv => hO v (by rw [List.mem_append]; exact Or.inr (List.mem_cons_of_mem _ hv))
  obtain ⟨k1, k2, k3, k4, k5⟩ := hl
  have hM := hC l Y (ZX (10 + i) :: As) g F.2.1 hOA hp
  have hRm : (zrm d').frames + 1 ≤ C.1.frames ∧ 8 + (zn M' + 11) + (zrm d').locals ≤ C.1.locals := by
    refine ⟨hd.1, ?_⟩
    have h2 := hd.2.1
    show 8 + (zn M' + 11) + 40 * d' ≤ C.1.locals
    omega
  have hpre : ∀ U : State, U.heap = H → s.WarmedH U.vm → zpre Y (ZX (10 + i) :: As) g ((ZX (10 + i) :: As).map (zval Y)).toArray U := fun U hU hW => ⟨rfl, by rw [hU]; exact hH, va_K.moved hW.alike F.2.2.2.2.2.2.2.2.2.1, zExt_to F.2.2.2.2.2.2.2.2.2.2 hS hW hU⟩
  obtain ⟨v1, v2, v3⟩ := hv
  have hE := F.2.2.2.2.2.2.2.2.2.2.2.2.2.2.1
  have hrec := vk_recv hE hi hS
  refine zrun (Qp := post (ZX (10 + i) :: As) g) (rest := S.map (zval Y)) (a := ((ZX (10 + i) :: As).map (zval Y)).toArray) ?_ hS ?_
  · exact va_runV (C := "java/lang/String") (As := As.map (zval Y)) (n := n) (nL := zn M) ⟨hx, hb, F.2.2.2.2.1, F.2.2.2.2.2.2.2.1, hts⟩ hM ⟨callB_of n hts (zgood_in k5) rfl rfl rfl (by rw [← v1] at *; exact hts _ k2) (hts _ k1) k3 hRm, hts _ v2, hts _ v3⟩ ⟨zpre_blind _ _ _, hrec, hpre⟩ rfl (by rw [List.length_map]; exact hn) hL.1 (by show (List.map (zval Y) _) = _; rw [List.map_append, List.map_reverse]; rfl) (lv_room (by rw [zcat_sum]; exact hcat)) (zfx_dec F hT) ⟨hd.2.2.1, hd.2.2.2⟩
  · intro r g' H1 locs1 hq hok hH1 hS1
    have := kk r g' hq p l e s m args below meth c H1 locs1 ls F hX hH1 hS1 hL (fun v hv => by
      rcases List.mem_append.mp hv with h | h
      · exact hok v (by rcases r with _ | r; cases h; rw [List.mem_singleton.mp h])
      · exact hOS v h)
    rw [List.map_append] at this
    have e1 : (r.toList).map (zval Y) = (r.map (zval Y)).toList := by rcases r with _ | r <;> rfl
    rw [e1] at this
    exact this
end ZJS
/-! Preconditions.checkIndex: the last of its arguments may be whatever it is -/
def zpreR (Y : ZW) (i n : Int) (v : Value) (g : ZG) : Array Value → State → Prop := va_Pc [.int (Int32.ofInt i), .int (Int32.ofInt n), v] (fun U => zH Y g U.heap ∧ va_K (zD Y) vwCl (ztys Y) U ∧ zExt Y U U.heap)
theorem zpreR_blind (Y : ZW) (i n : Int) (v : Value) (g : ZG) : FrameBlind (zpreR Y i n v g) := by
  intro a U gf mk q
  obtain ⟨q0, q⟩ := q
  have := zpre_blind Y [] g #[] U gf mk ⟨rfl, q⟩
  obtain ⟨-, h⟩ := this
  exact ⟨q0, h⟩
theorem c_J3_checkIndex {l : Launch} {Y : ZW} (i n : Int) (v : Value) (g : ZG) (hwf : zwf Y) (hv1 : v.category = 1) (hin : 0 ≤ i ∧ i < n) (hi : i < 2147483648) (hn : n < 2147483648) : Met l (zy mJ3_checkIndex) (Cond.code (zy mJ3_checkIndex) (zcc mJ3_checkIndex) (zn mJ3_checkIndex) (zret mJ3_checkIndex) :: zTB) (zrm 0) (zpreR Y i n v g) (zQ Y (fun r g' => r = some (ZI i) ∧ g' = g)) 0 0 (zZ Y) := by
  refine Met.ofW (cc := zcc mJ3_checkIndex) (maxL := zn mJ3_checkIndex) (ret := zret mJ3_checkIndex) gJ3_checkIndex.1 rfl ?_
  intro p e s m args below meth c s₁ B hml hv
  obtain ⟨rfl, hH, hK, hE⟩ := hv
  have hts0 := atoms_spec (ws := Cond.code (zy mJ3_checkIndex) (zcc mJ3_checkIndex) (zn mJ3_checkIndex) (zret mJ3_checkIndex) :: zTB) B.pre
  have hts : ∀ w ∈ zTB, w.before _ s = true := fun w hw => hts0 w (List.mem_cons_of_mem _ hw)
  have hown : s.vm.findClass (zown mJ3_checkIndex) = some m.cls := findClass_of_methodNamed B.named
  have hls : lg_sl [.int (Int32.ofInt i), .int (Int32.ofInt n), v] = [.val (.int (Int32.ofInt i)), .val (.int (Int32.ofInt n)), .val v] := by
    unfold lg_sl
    simp [List.flatMap_cons, hv1]
    rfl
  have hlen' : (lg_sl [.int (Int32.ofInt i), .int (Int32.ofInt n), v]).length ≤ zn mJ3_checkIndex := by rw [hls]; exact Nat.le_refl 3
  have hl := lv_entry [.int (Int32.ofInt i), .int (Int32.ofInt n), v] (n := zn mJ3_checkIndex) hlen'
  rw [lg_entry_eq]
  have hm : lv_args 0 [.int (Int32.ofInt i), .int (Int32.ofInt n), v] = [(0, .int (Int32.ofInt i)), (1, .int (Int32.ofInt n)), (2, v)] := rfl
  have hL : zLs Y [ZI i, ZI n, ZX 99] ((lg_sl [.int (Int32.ofInt i), .int (Int32.ofInt n), v] ++ List.replicate (zn mJ3_checkIndex - (lg_sl [.int (Int32.ofInt i), .int (Int32.ofInt n), v]).length) Slot.unset).toArray) (zn mJ3_checkIndex) := by
    refine ⟨hl.1, hl.2.1, rfl, fun j w hj hw => ?_⟩
    have h3 := hl.2.2
    rw [hm] at h3
    match j, hj with
    | 0, hj => cases hj; exact ⟨h3 (0, _) List.mem_cons_self, ⟨by omega, by omega⟩⟩
    | 1, hj => cases hj; exact ⟨h3 (1, _) (List.mem_cons_of_mem _ List.mem_cons_self), ⟨by omega, by omega⟩⟩
    | 2, hj => cases hj; exact absurd rfl hw
    | j + 3, hj => simp at hj
  have body : ZVV Y mJ3_checkIndex (zcx Y 0 (fun r g' => r = some (ZI i) ∧ g' = g)) 0 [ZI i, ZI n, ZX 99] [] g := by
    refine zs_iload_n (j := 0) (i := 0) rfl rfl rfl ?_
    refine zs_if_lt 9 rfl (by omega) (fun hc => by omega) (fun hc => ?_)
    refine zs_iload_n (j := 0) (i := 0) rfl rfl rfl ?_
    refine zs_iload_n (j := 1) (i := 1) rfl rfl rfl ?_
    refine zs_icmp_lt 16 rfl (by omega) (fun hc => ?_) (fun hc => by omega)
    refine zs_iload_n (j := 0) (i := 0) rfl rfl rfl ?_
    exact zs_ireturn rfl rfl ⟨rfl, rfl⟩
  exact body p l e s m _ below meth c s.heap [] _ ⟨gJ3_checkIndex, hwf, B.exec, B.bytes, hml, B.returns, B.notSynchronized, hown, hts, hK, hE⟩ trivial hH va_S.rf hL (fun v hv => by cases hv)
section ZJC
variable {Y : ZW} {M : ZM} {C : ZCx} {pc idx idx2 : Nat} {L S : List ZV} {g : ZG}
theorem zs_chkI {i n : Int} (hT : zat M pc = some (.getstatic idx, 3)) (hT2 : zat M (pc + 3) = some (.invokestatic idx2, 3)) (hP : Cond.fieldLink (zown M) idx "jdk/internal/util/Preconditions" "SIOOBE_FORMATTER" "Ljava/util/function/BiFunction;" ∈ zTB) (hl : zlk (zown M) idx2 mJ3_checkIndex 3) (hd : zroom C 0) (hcat : (S.map zcat).sum ≤ 8) (hin : 0 ≤ i ∧ i < n) (k : ZVV Y M C (pc + 3 + 3) L (ZI i :: S) g) : ZVV Y M C pc L (ZI n :: ZI i :: S) g := by
  intro p l e s m args below meth c H locs ls F hX hH hS hL hO
  have hx := F.2.2.1
  have hb := F.2.2.2.1
  have hts := F.2.2.2.2.2.2.2.2.1
  have hO1 := zok_cons.mp hO
  have hO2 := zok_cons.mp hO1.2
  have hq := F.2.2.2.2.2.2.2.2.2.2.2.2.2.2.2.2.2.1
  obtain ⟨k1, k2, k3, k4, k5⟩ := hl
  have hRm : (zrm 0).frames + 1 ≤ C.1.frames ∧ 8 + (zn mJ3_checkIndex + 11) + (zrm 0).locals ≤ C.1.locals := by
    refine ⟨hd.1, ?_⟩
    have h2 := hd.2.1
    show 8 + (3 + 11) + 40 * 0 ≤ C.1.locals
    omega
  have go : ∀ v : Value, v.category = 1 → va_Z "jdk/internal/util/Preconditions" "SIOOBE_FORMATTER" "Ljava/util/function/BiFunction;" v (zZ Y) s s.heap → W p l e C.1 s m args below meth c H locs C.2.1.1 C.2.1.2 (C.2.2.2 below args s) (F0 m pc ls ((ZI n :: ZI i :: S).map (zval Y))) := by
    intro v hv hZ
    refine va_gets hx hb hZ hS F.2.2.2.2.2.2.2.1 (hts _ hP) (fun _ h => h) (zfx_dec F hT) ?_
    have hM := c_J3_checkIndex (l := l) i n v g F.2.1 hv hin hO2.1.2 hO1.1.2
    have hpre : ∀ U : State, U.heap = H → s.WarmedH U.vm → zpreR Y i n v g [.int (Int32.ofInt i), .int (Int32.ofInt n), v].toArray U := fun U hU hW => ⟨rfl, by rw [hU]; exact hH, va_K.moved hW.alike F.2.2.2.2.2.2.2.2.2.1, zExt_to F.2.2.2.2.2.2.2.2.2.2 hS hW hU⟩
    refine zrun (Qp := fun r g' => r = some (ZI i) ∧ g' = g) (rest := S.map (zval Y)) (a := [.int (Int32.ofInt i), .int (Int32.ofInt n), v].toArray) ?_ hS ?_
    · exact va_runS (As := [.int (Int32.ofInt i), .int (Int32.ofInt n), v]) (n := 3) (nL := zn M) ⟨hx, hb, F.2.2.2.2.1, F.2.2.2.2.2.2.2.1, hts⟩ hM ⟨callB_of 3 hts (zgood_in k5) rfl rfl rfl (hts _ k2) (hts _ k1) k3 hRm, hts _ sJ3_checkIndex⟩ ⟨zpreR_blind _ _ _ _ _, hpre⟩ rfl rfl hL.1 rfl (lv_room (by rw [zcat_sum]; exact hcat)) (zfx_dec F hT2) ⟨hd.2.2.1, hd.2.2.2⟩
    · rintro r g' H1 locs1 ⟨rfl, rfl⟩ hok hH1 hS1
      exact k p l e s m args below meth c H1 locs1 ls F hX hH1 hS1 hL (zok_cons.mpr ⟨hO2.1, hO2.2⟩)
  rcases hq with h | ⟨t, h⟩
  · exact go .null rfl h
  · exact go (.ref t) rfl h
end ZJC
theorem zxr_in {i : Nat} (hi : i < 5) {j : Int} (h : 0 ≤ j ∧ j < (zxr (10 + i)).length) : 0 ≤ (zxr (10 + i)).getD j.toNat 0 ∧ (zxr (10 + i)).getD j.toNat 0 < 128 := by
  have hj := jxr i hi
  exact (hj.2.2 j.toNat (by omega)).2
theorem c_J0_coder (i : Nat) : ZC mJ0_coder 0 (fun av g => av = [ZX (10 + i)] ∧ i < 5) (fun _ g r g' => r = some (ZI 0) ∧ g' = g) := by
  refine zc_of gJ0_coder (fun av g hp => by obtain ⟨rfl, -⟩ := hp; exact Nat.le_of_ble_eq_true rfl) (fun Y av g hwf hrg hp hok => ?_)
  obtain ⟨rfl, hi⟩ := hp
  show ZVV Y _ _ 0 [ZX (10 + i)] [] _
  refine zs_scs rfl jF38 ?_
  refine zs_if_eq 13 rfl (by omega) (fun hc => absurd hc (by decide)) (fun hc => ?_)
  refine zs_xload_n (j := 0) (i := 0) (q := 10 + i) rfl rfl rfl (by omega) ?_
  refine zs_scod hi rfl jF15 ?_
  refine zs_goto 14 rfl (by omega) ?_
  exact zs_b0return rfl rfl ⟨rfl, rfl⟩
theorem c_J0_isLatin1 (i : Nat) : ZC mJ0_isLatin1 0 (fun av g => av = [ZX (10 + i)] ∧ i < 5) (fun _ g r g' => r = some (ZI 1) ∧ g' = g) := by
  refine zc_of gJ0_isLatin1 (fun av g hp => by obtain ⟨rfl, -⟩ := hp; exact Nat.le_of_ble_eq_true rfl) (fun Y av g hwf hrg hp hok => ?_)
  obtain ⟨rfl, hi⟩ := hp
  show ZVV Y _ _ 0 [ZX (10 + i)] [] _
  refine zs_scs rfl jF38 ?_
  refine zs_if_eq 17 rfl (by omega) (fun hc => absurd hc (by decide)) (fun hc => ?_)
  refine zs_xload_n (j := 0) (i := 0) (q := 10 + i) rfl rfl rfl (by omega) ?_
  refine zs_scod hi rfl jF15 ?_
  refine zs_if_ne 17 rfl (by omega) (fun hc => absurd rfl hc) (fun hc => ?_)
  refine zs_iconst (n := 1) rfl ⟨by omega, by omega⟩ ?_
  refine zs_goto 18 rfl (by omega) ?_
  exact zs_zreturn rfl rfl (by omega) ⟨rfl, rfl⟩
theorem jshr0 : ∀ i, i < 5 → zshr ((zxr (10 + i)).length : Nat) 0 = ((zxr (10 + i)).length : Nat) := by decide +kernel
theorem c_J0_length (i : Nat) : ZC mJ0_length 1 (fun av g => av = [ZX (10 + i)] ∧ i < 5) (fun _ g r g' => r = some (ZI ((zxr (10 + i)).length : Nat)) ∧ g' = g) := by
  refine zc_of gJ0_length (fun av g hp => by obtain ⟨rfl, -⟩ := hp; exact Nat.le_of_ble_eq_true rfl) (fun Y av g hwf hrg hp hok => ?_)
  obtain ⟨rfl, hi⟩ := hp
  show ZVV Y _ _ 0 [ZX (10 + i)] [] _
  refine zs_xload_n (j := 0) (i := 0) (q := 10 + i) rfl rfl rfl (by omega) ?_
  refine zs_sval hi rfl jF9 ?_
  refine zs_slen hi rfl ?_
  refine zs_xload_n (j := 0) (i := 0) (q := 10 + i) rfl rfl rfl (by omega) ?_
  refine zs_callX hi rfl kJ0_335 vJ0_coder (c_J0_coder i) [] [ZI ((zxr (10 + i)).length : Nat)] rfl (zroom_of (by omega)) rfl (Nat.le_of_ble_eq_true rfl) ⟨rfl, hi⟩ (fun r g1 hq => ?_)
  obtain ⟨rfl, rfl⟩ := hq
  show ZVV _ _ _ 9 _ [ZI 0, ZI ((zxr (10 + i)).length : Nat)] _
  refine zs_ishr rfl ?_
  rw [jshr0 i hi]
  exact zs_ireturn rfl rfl ⟨rfl, rfl⟩
theorem c_J0_checkIndex (i n : Int) : ZC mJ0_checkIndex 1 (fun av g => av = [ZI i, ZI n] ∧ 0 ≤ i ∧ i < n) (fun _ g r g' => r = none ∧ g' = g) := by
  refine zc_of gJ0_checkIndex (fun av g hp => by obtain ⟨rfl, -⟩ := hp; exact Nat.le_of_ble_eq_true rfl) (fun Y av g hwf hrg hp hok => ?_)
  obtain ⟨rfl, hp⟩ := hp
  show ZVV Y _ _ 0 [ZI i, ZI n] [] _
  refine zs_iload_n (j := 0) (i := 0) rfl rfl rfl ?_
  refine zs_iload_n (j := 1) (i := 1) rfl rfl rfl ?_
  refine zs_chkI rfl rfl jF1053 kJ0_1059 (zroom_of (by omega)) (Nat.le_of_ble_eq_true rfl) hp ?_
  refine zs_pop rfl (by intro x z; cases z) ?_
  exact zs_return rfl rfl ⟨rfl, rfl⟩
theorem c_J1_charAt (i : Nat) (j : Int) : ZC mJ1_charAt 2 (fun av g => av = [ZX (20 + i), ZI j] ∧ i < 5 ∧ 0 ≤ j ∧ j < (zxr (10 + i)).length) (fun _ g r g' => r = some (ZI ((zxr (10 + i)).getD j.toNat 0)) ∧ g' = g) := by
  refine zc_of gJ1_charAt (fun av g hp => by obtain ⟨rfl, -⟩ := hp; exact Nat.le_of_ble_eq_true rfl) (fun Y av g hwf hrg hp hok => ?_)
  obtain ⟨rfl, hi, hj⟩ := hp
  have hx := zxr_in hi hj
  show ZVV Y _ _ 0 [ZX (20 + i), ZI j] [] _
  refine zs_iload_n (j := 1) (i := 1) rfl rfl rfl ?_
  refine zs_xload_n (j := 0) (i := 0) (q := 20 + i) rfl rfl rfl (by omega) ?_
  refine zs_slen hi rfl ?_
  refine zs_callS (host := "") rfl kJ1_9 sJ0_checkIndex (c_J0_checkIndex j ((zxr (10 + i)).length : Nat)) [ZI j, ZI ((zxr (10 + i)).length : Nat)] [] rfl (zroom_of (by omega)) rfl (Nat.le_of_ble_eq_true rfl) ⟨rfl, hj⟩ (fun r g1 hq => ?_)
  obtain ⟨rfl, rfl⟩ := hq
  show ZVV _ _ _ 6 _ [] _
  refine zs_xload_n (j := 0) (i := 0) (q := 20 + i) rfl rfl rfl (by omega) ?_
  refine zs_iload_n (j := 1) (i := 1) rfl rfl rfl ?_
  refine zs_sbal hi rfl hj.1 hj.2 ?_
  refine zs_sipush (n := 255) rfl ⟨by omega, by omega⟩ ?_
  refine zs_iand rfl ?_
  have h255 : zand ((zxr (10 + i)).getD j.toNat 0) 255 = (zxr (10 + i)).getD j.toNat 0 := by
    have := (jchr ((zxr (10 + i)).getD j.toNat 0).toNat (by omega)).2.2
    rwa [show ((((zxr (10 + i)).getD j.toNat 0).toNat : Nat) : Int) = (zxr (10 + i)).getD j.toNat 0 by omega] at this
  rw [h255]
  refine zs_i2c hx rfl ?_
  exact zs_creturn rfl rfl hx ⟨rfl, rfl⟩
theorem c_J0_charAt (i : Nat) (j : Int) : ZC mJ0_charAt 3 (fun av g => av = [ZX (10 + i), ZI j] ∧ i < 5 ∧ 0 ≤ j ∧ j < (zxr (10 + i)).length) (fun _ g r g' => r = some (ZI ((zxr (10 + i)).getD j.toNat 0)) ∧ g' = g) := by
  refine zc_of gJ0_charAt (fun av g hp => by obtain ⟨rfl, -⟩ := hp; exact Nat.le_of_ble_eq_true rfl) (fun Y av g hwf hrg hp hok => ?_)
  obtain ⟨rfl, hi, hj⟩ := hp
  have hx := zxr_in hi hj
  show ZVV Y _ _ 0 [ZX (10 + i), ZI j] [] _
  refine zs_xload_n (j := 0) (i := 0) (q := 10 + i) rfl rfl rfl (by omega) ?_
  refine zs_callX hi rfl kJ0_492 vJ0_isLatin1 (c_J0_isLatin1 i) [] [] rfl (zroom_of (by omega)) rfl (Nat.le_of_ble_eq_true rfl) ⟨rfl, hi⟩ (fun r g1 hq => ?_)
  obtain ⟨rfl, rfl⟩ := hq
  show ZVV _ _ _ 4 _ [ZI 1] _
  refine zs_if_eq 16 rfl (by omega) (fun hc => absurd hc (by decide)) (fun hc => ?_)
  refine zs_xload_n (j := 0) (i := 0) (q := 10 + i) rfl rfl rfl (by omega) ?_
  refine zs_sval hi rfl jF9 ?_
  refine zs_iload_n (j := 1) (i := 1) rfl rfl rfl ?_
  refine zs_callS (host := "") rfl kJ0_495 sJ1_charAt (c_J1_charAt i j) [ZX (20 + i), ZI j] [] rfl (zroom_of (by omega)) rfl (Nat.le_of_ble_eq_true rfl) ⟨rfl, hi, hj⟩ (fun r g1 hq => ?_)
  obtain ⟨rfl, rfl⟩ := hq
  exact zs_creturn rfl rfl hx ⟨rfl, rfl⟩
