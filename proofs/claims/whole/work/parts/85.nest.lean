/-! a constructor that only nest mates see -/
theorem bs_callN {M M' : ZM} {C : BCx} {D : va_G} {cA : Nat → ClassId} {A : Nat → Prop} {cs ss pc idx b ci : Nat} {ex : Nat → Nat} {z0 : Nat} {L : List (Nat × Value)} {S As fs0 : List Value} {ws wr : va_W} {R' : Room} {ext : (Nat → ClassId) → va_W} {post : (Nat → ClassId) → Nat → va_W → Prop} (isC isR : List Nat) (hT : zat M pc = some (.invokespecial idx, 3)) (hM : BC M' R' ci fs0 As ext post) (hK : BKC C A ex z0)
    (hC : isC.map (fun i => ws[i]?) = (bw0 b ci fs0 (ext cA)).map some) (hC2 : isC.filterMap (fun i => ws[i]?) = bw0 b ci fs0 (ext cA)) (hCn : va_nd isC = true) (hR : isR.map (fun i => ws[i]?) = wr.map some) (hRn : va_nd isR = true) (hdis : ∀ i ∈ isR, i ∉ isC)
    (hown : zown M = "ThirdAlike") (hlink : Cond.methodLinkNest "ThirdAlike" idx (zy M') "ThirdAlike" ∈ tables_1) (hini : Cond.initialized (zy M').cls ∈ zTB) (hinst : Cond.instanceMethod (zy M') ∈ zTB) (hcode : Cond.code (zy M') (zcc M') (zn M') none ∈ zTB) (hname : (zy M').name = "<init>") (hdesc : (zy M').cls ≠ "java/lang/invoke/MethodHandle" ∧ (zy M').cls ≠ "java/lang/invoke/VarHandle" ∧ (parseMethodDescriptor (zy M').desc).map (fun d => d.parameters.length) = some As.length) (hfr : R'.frames + 1 ≤ C.1.frames ∧ 8 + (zn M' + 11) + R'.locals ≤ C.1.locals) (hcs : cs + R'.cells ≤ C.1.cells ∧ ss + R'.slots ≤ C.1.slots) (hs : (S.map fun v => v.category).sum ≤ 8) {S0 : List Value} (hS0 : S0 = As.reverse ++ .ref b :: S)
    (kk : ∀ ws', post cA b ws' → BV D cA M C A (cs + R'.cells) (ss + R'.slots) (pc + 3) L S (wr ++ ws')) : BV D cA M C A cs ss pc L S0 ws := by
  intro p l e s m args below meth c H locs ls F hX hA hP hD hS hL
  have hts := F.2.2.2.2.2.2.1
  have hKK := F.2.2.2.2.2.2.2
  obtain ⟨hBK, hz0⟩ := hK _ _ _ _ hX
  have hPc : va_P D vwCl (bw0 b ci fs0 (ext cA)) H := hP.sub (ws' := bw0 b ci fs0 (ext cA)) isC hC2
  have hDc : va_D A (bw0 b ci fs0 (ext cA)) := hD.sub (ws' := bw0 b ci fs0 (ext cA)) isC hCn hC
  have hFc := va_free (wc := bw0 b ci fs0 (ext cA)) hD hS hA isC hC
  have hnw : va_Nw (Cond.methodLinkNest (zown M) idx (zy M') "ThirdAlike") s := by rw [hown]; exact hBK.2.2.2.2.2.2.2.2.2 idx _ hlink
  subst hS0
  refine va_callv (va_runIN (host := "ThirdAlike") (As := As) (rest := S) ⟨F.2.1, F.2.2.1, F.2.2.2.1, F.2.2.2.2.2.1, hts⟩ (hM l D cA ex z0 b H.size) ⟨va_cnB As.length hts (zgood_in hcode) rfl rfl rfl hnw (hts _ hini) hdesc hfr, hname, hts _ hinst⟩ ⟨fun a U g mk q => ?_, fun U hU hW => ⟨rfl, by rw [hU], by rw [hU]; exact hPc, va_K.moved hW.alike hKK, hDc.weaken (fun _ _ _ _ => trivial), hBK.to hz0 hS hW hU, fun q hq => hz0 q (hFc q hq)⟩⟩ rfl rfl hL.1 rfl (lv_room hs) (bfx_dec F hT) hcs) hS (fun q _ h => hFc q h) hFc (fun u t H1 locs1 ht hvm _ hB hz1 hk1 hS1 => ?_)
  · obtain ⟨q0, q1, qP, qK, qD, qx, qz⟩ := q
    have ha : U.vm.Alike (U.calling g mk a).vm := Vm.Alike.refl U.vm
    obtain ⟨⟨o1, o2⟩, h1, h2, h3, h4, h5, h6, h7, h8, h9⟩ := qx
    refine ⟨q0, q1, qP, va_K.moved (u := U) (U := U.calling g mk a) (Vm.Alike.refl U.vm) qK, qD, ⟨⟨o1.moved ha, o2.moved ha⟩, h1.moved ha, h2.moved ha, h3.moved ha, h4.moved ha, h5.moved ha, fun i hi => (h6 i hi).same rfl, h7.moved ha, ?_, fun i y hy => (h9 i y hy).same rfl rfl⟩, qz⟩
    rcases h8 with q | ⟨t, q⟩
    · exact Or.inl (q.moved ha)
    · exact Or.inr ⟨t, q.moved ha⟩
  · obtain ⟨ws', hp, hP1, hD1⟩ := hB
    rw [ht] at hP1
    obtain ⟨hP2, hD2⟩ := va_join (wr := wr) (w1 := ws') hP hD isC isR hC hR hRn hdis hk1 hFc hP1 hD1
    exact kk ws' hp p l e s m args below meth c H1 locs1 ls F hX hA hP2 hD2 hS1 hL
theorem vp_inB {i : Int32} {N : Nat} (h1 : decide (i < 0) = false) (h2 : decide (N ≤ i.toNatClampNeg) = false) : vp_in i N := fun q => by
  rcases q with q | q
  · exact of_decide_eq_false h1 q
  · exact of_decide_eq_false h2 q
