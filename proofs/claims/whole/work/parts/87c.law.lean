theorem ckLaw_12 : zchk code 938 tLaw_12 = true := by decide +kernel
theorem ckLaw_13 : zchk code 1000 tLaw_13 = true := by decide +kernel
theorem ckLaw_14 : zchk code 1058 tLaw_14 = true := by decide +kernel
def pLaw : Nat → Option ZPE := fun idx => if idx = 140 then some (.inr (ZJ 4294967295)) else none
def mLaw : ZM := ("ThirdAlikeLaw", x, code, 4, some .boolean, tLaw, pLaw)
theorem pLaw_ok : ∀ idx e, pLaw idx = some e → zPE "ThirdAlikeLaw" idx e := by
  intro idx e h
  unfold pLaw at h
  by_cases hi : idx = 140
  · rw [if_pos hi] at h
    subst hi
    cases h
    exact ⟨zinT 1261 (by decide +kernel) rfl, by decide, by decide⟩
  · rw [if_neg hi] at h
    cases h
set_option maxRecDepth 100000 in
theorem gLaw : zgood mLaw := ⟨by decide, rfl, trivial, (zchk_app (n := 214) ckLaw_0 (by decide +kernel) (zchk_app (n := 272) ckLaw_1 (by decide +kernel) (zchk_app (n := 332) ckLaw_2 (by decide +kernel) (zchk_app (n := 402) ckLaw_3 (by decide +kernel) (zchk_app (n := 474) ckLaw_4 (by decide +kernel) (zchk_app (n := 560) ckLaw_5 (by decide +kernel) (zchk_app (n := 622) ckLaw_6 (by decide +kernel) (zchk_app (n := 684) ckLaw_7 (by decide +kernel) (zchk_app (n := 758) ckLaw_8 (by decide +kernel) (zchk_app (n := 818) ckLaw_9 (by decide +kernel) (zchk_app (n := 882) ckLaw_10 (by decide +kernel) (zchk_app (n := 938) ckLaw_11 (by decide +kernel) (zchk_app (n := 1000) ckLaw_12 (by decide +kernel) (zchk_app (n := 1058) ckLaw_13 (by decide +kernel) ckLaw_14)))))))))))))), pLaw_ok⟩
