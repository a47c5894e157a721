/-! the calls that the law makes: both answers are the same, RR stays -/
theorem K_town (g : ZG) (n sh : Int) : (cTown g n sh).2 8 = g 8 := by
  unfold cTown
  by_cases h1 : sh < 0 ∨ 2 < sh
  · rw [if_pos h1]
  rw [if_neg h1]
  by_cases h2 : n < 3 ∨ 8 < n
  · rw [if_pos h2]
  rw [if_neg h2]
  by_cases h3 : zfst (fun p => decide (n ≤ g 18 0 p)) (g 2 0 3).toNat 0 ≠ -1
  · rw [if_pos h3]
  rw [if_neg h3]
  funext i k
  show zlayF (zup (zup g 2 0 0 n) 2 0 1 sh) 0 n sh 0 8 i k = _
  unfold zlayF
  rw [if_neg (fun z => absurd z.1 (by decide)), zup_nf _ _ _ _ (by decide), zup_nf _ _ _ _ (by decide)]
theorem K_person (g : ZG) (k v s h : Int) : (cPer g k v s h).2 8 = g 8 := by
  unfold cPer
  by_cases h1 : (k < 0 ∨ 6 < k) ∨ (s < 0 ∨ 2 < s) ∨ ¬ (0 ≤ h ∧ h < g 2 0 0)
  · rw [if_pos h1]
  rw [if_neg h1]
  by_cases h2 : v < 0 ∨ 9 < v
  · rw [if_pos h2]
  rw [if_neg h2]
  by_cases h3 : zwho (g 2 0 3) (g 18 0) h ≠ -1
  · rw [if_pos h3]
  rw [if_neg h3]
  by_cases h4 : 6 ≤ g 2 0 3
  · rw [if_pos h4]
  rw [if_neg h4]
  dsimp only
  rw [zup_nf _ _ _ _ (by decide), zup_nf _ _ _ _ (by decide), zup_nf _ _ _ _ (by decide), zup_nf _ _ _ _ (by decide), zup_nf _ _ _ _ (by decide)]
theorem K_put (g : ZG) (p h : Int) : (cPut g p h).2 8 = g 8 := by
  unfold cPut
  by_cases h1 : ¬ (0 ≤ p ∧ p < g 2 0 3) ∨ ¬ (0 ≤ h ∧ h < g 2 0 0)
  · rw [if_pos h1]
  rw [if_neg h1]
  by_cases h3 : zwho (g 2 0 3) (g 18 0) h ≠ -1
  · rw [if_pos h3]
  rw [if_neg h3]
  dsimp only
  rw [zup_nf _ _ _ _ (by decide)]
theorem K_feed (g : ZG) (s : Int) : (cFeed g s).2 8 = g 8 := by
  unfold cFeed
  by_cases h1 : s < 0 ∨ 127 < s
  · rw [if_pos h1]
  rw [if_neg h1]
  by_cases h2 : 0 ≤ g 5 0 0 ∧ g 5 0 0 < 100
  · rw [if_pos h2]
    dsimp only
    rw [zup_nf _ _ _ _ (by decide), zup_nf _ _ _ _ (by decide)]
  rw [if_neg h2]
theorem K_book (g : ZG) (t : Int) : (cBook g t).2 8 = g 8 := by
  unfold cBook
  by_cases h1 : t = -1
  · rw [if_pos h1]
    dsimp only
    rw [zup_nf _ _ _ _ (by decide)]
  rw [if_neg h1]
  by_cases h2 : t < 0 ∨ 6 ≤ t / 10 ∨ 8 ≤ t % 10
  · rw [if_pos h2]
  rw [if_neg h2]
  by_cases h3 : 12 ≤ g 2 0 10
  · rw [if_pos h3]
  rw [if_neg h3]
  dsimp only
  rw [zup_nf _ _ _ _ (by decide), zup_nf _ _ _ _ (by decide)]
theorem K_act (g : ZG) (p a x : Int) : (cActs g p a x).2 8 = g 8 := by
  unfold cActs
  by_cases h1 : ¬ (0 ≤ p ∧ p < g 2 0 3) ∨ a < 0 ∨ 2 < a
  · rw [if_pos h1]
    dsimp only
    rw [zup_nf _ _ _ _ (by decide)]
  rw [if_neg h1]
  dsimp only
  rw [mlog_f (by decide) (by decide)]
  unfold mact
  rw [zup_nf _ _ _ _ (by decide), zup_nf _ _ _ _ (by decide), zup_nf _ _ _ _ (by decide), zup_nf _ _ _ _ (by decide)]
theorem K_item (g : ZG) (t i x : Int) : (cItem g t i x).2 54 = g 54 := by
  unfold cItem
  by_cases h1 : ¬ (0 ≤ t ∧ t < 6)
  · rw [if_pos h1]
  rw [if_neg h1]
  by_cases h2 : g 4 t.toNat 0 = -1
  · rw [if_pos h2]
  rw [if_neg h2]
  by_cases h3 : i < 0 ∨ g 4 t.toNat 1 ≤ i
  · rw [if_pos h3]
  rw [if_neg h3]
  dsimp only
  rw [zup_nf _ _ _ _ (by decide)]
theorem K_shift (g : ZG) (t i u j n : Int) : (cShift g t i u j n).2 54 = g 54 := by
  unfold cShift
  by_cases h1 : ¬ (0 ≤ t ∧ t < 6) ∨ ¬ (0 ≤ u ∧ u < 6)
  · rw [if_pos h1]
  rw [if_neg h1]
  by_cases h2 : g 4 t.toNat 0 = -1 ∨ g 4 u.toNat 0 = -1
  · rw [if_pos h2]
  rw [if_neg h2]
  by_cases h3 : g 4 t.toNat 0 ≠ g 4 u.toNat 0
  · rw [if_pos h3]
  rw [if_neg h3]
  by_cases h4 : n < 0 ∨ ¬ (0 ≤ i ∧ i ≤ g 4 t.toNat 1 ∧ n ≤ g 4 t.toNat 1 - i) ∨ ¬ (0 ≤ j ∧ j ≤ g 4 u.toNat 1 ∧ n ≤ g 4 u.toNat 1 - j)
  · rw [if_pos h4]
  rw [if_neg h4]
  dsimp only
  funext a
  exact zcpy_off g 21 t.toNat 21 u.toNat i.toNat j.toNat n.toNat 54 a (fun z => absurd z.1 (by decide))
section LAWC
variable {Y : ZW} {b L : Nat} {xs : Nat → Int32} {i : Nat} {g : ZG}
/-- behind a call -/
def LGO (Y : ZW) (b L : Nat) (xs : Nat → Int32) (i : Nat) (g : ZG) : Prop := ∀ g', RR g' → g' 1 0 8 ≤ g 1 0 8 + 231 → ZVV Y mLaw (cxL b L xs Y) 1092 (LL i) [] g'
theorem RR.n6 {g : ZG} (H : RR g) : 0 ≤ g 2 0 3 ∧ g 2 0 3 ≤ 6 := H.1.1.2.2.1
theorem RR.m2 {g : ZG} (H : RR g) : 0 ≤ g 8 0 2 ∧ g 8 0 2 ≤ 6 := by rw [H.1.2.2.1.2.2.1]; exact H.1.1.2.2.1
theorem RR.m0 {g : ZG} (H : RR g) : 3 ≤ g 8 0 0 ∧ g 8 0 0 ≤ 8 := by rw [H.1.2.2.1.1]; exact H.1.1.1
theorem RR.tp {g : ZG} (H : RR g) : ∀ q : Nat, q < 6 → 0 ≤ g 4 q 1 ∧ g 4 q 1 ≤ 60 := fun q hq => (H.2.2.2.2.1 q hq).1.2.2.2.1
theorem RR.tm {g : ZG} (H : RR g) : ∀ q : Nat, q < 6 → 0 ≤ g 54 0 q ∧ g 54 0 q ≤ 60 := fun q hq => by
  have h := (H.2.2.2.2.1 q hq).1
  rw [h.2.1]
  exact h.2.2.2.1
theorem L_town (H : RR g) (hcl : g 1 0 8 ≤ 899999000) (hi : i + 6 ≤ L) (hL : L ≤ 3072) (K : LGO Y b L xs i g) : ZVV Y mLaw (cxL b L xs Y) 180 (LL i) [] g := by
  have HC : CP g := H.cp (by omega)
  refine zs_aload_n (j := 1) (i := 1) (f := 7) (q := 0) zL_180 rfl rfl ?_
  refine zs_arg (j := 1) zL_181 zL_182 zL_183 zL_184 zL_185 rfl (by decide) hi hL ?_
  refine zs_arg (j := 2) zL_186 zL_187 zL_188 zL_189 zL_190 rfl (by decide) hi hL ?_
  refine zs_callV (host := "") zL_191 kLaw_13 vX7_town (c_X7_town ((sx xs (i + 1))) ((sx xs (i + 2)))) [ZI (sx xs (i + 1)), ZI (sx xs (i + 2))] [] rfl (zroomL (by decide)) rfl (Nat.le_of_ble_eq_true rfl) ⟨rfl, H.n6, trivial⟩ (fun r7 g7 hq7 => ?_)
  obtain ⟨hr7, hz7⟩ := hq7
  subst hr7
  subst hz7
  show ZVV _ _ _ 194 _ [ZI ((cTown g ((sx xs (i + 1))) ((sx xs (i + 2)))).1)] _
  refine zs_aload_n (j := 2) (i := 2) (f := 8) (q := 0) zL_194 rfl rfl ?_
  refine zs_arg (j := 1) zL_195 zL_196 zL_197 zL_198 zL_199 rfl (by decide) hi hL ?_
  refine zs_arg (j := 2) zL_200 zL_201 zL_202 zL_203 zL_204 rfl (by decide) hi hL ?_
  refine zs_callV (host := "") zL_205 kLaw_17 vX8_town (c_X8_town ((sx xs (i + 1))) ((sx xs (i + 2)))) [ZI (sx xs (i + 1)), ZI (sx xs (i + 2))] [ZI ((cTown g ((sx xs (i + 1))) ((sx xs (i + 2)))).1)] rfl (zroomL (by decide)) rfl (Nat.le_of_ble_eq_true rfl) ⟨rfl, (by rw [K_town]; exact H.m2), trivial⟩ (fun r8 g8 hq8 => ?_)
  obtain ⟨hr8, hz8⟩ := hq8
  subst hr8
  subst hz8
  have E := M_town H ((sx xs (i + 1))) ((sx xs (i + 2)))
  exact zs_eqI 1092 E.1 zL_208 (by decide) (K _ E.2.1 (by rw [E.2.2]; omega))
theorem L_neighbours (H : RR g) (hcl : g 1 0 8 ≤ 899999000) (hi : i + 6 ≤ L) (hL : L ≤ 3072) (K : LGO Y b L xs i g) : ZVV Y mLaw (cxL b L xs Y) 213 (LL i) [] g := by
  have HC : CP g := H.cp (by omega)
  refine zs_aload_n (j := 1) (i := 1) (f := 7) (q := 0) zL_213 rfl rfl ?_
  refine zs_arg (j := 1) zL_214 zL_215 zL_216 zL_217 zL_218 rfl (by decide) hi hL ?_
  refine zs_callV (host := "") zL_219 kLaw_18 vX7_neighbours (c_X7_neighbours ((sx xs (i + 1)))) [ZI (sx xs (i + 1))] [] rfl (zroomL (by decide)) rfl (Nat.le_of_ble_eq_true rfl) ⟨rfl, H.1.1.1.2⟩ (fun r7 g7 hq7 => ?_)
  obtain ⟨hr7, hz7⟩ := hq7
  subst hr7
  have B := (RC.rf g).br H
  have E := E_nei B H ((sx xs (i + 1)))
  rw [E.2] at hz7
  subst hz7
  show ZVV _ _ _ 222 _ [ZI ((cNei g7 ((sx xs (i + 1)))).1)] _
  refine zs_aload_n (j := 2) (i := 2) (f := 8) (q := 0) zL_222 rfl rfl ?_
  refine zs_arg (j := 1) zL_223 zL_224 zL_225 zL_226 zL_227 rfl (by decide) hi hL ?_
  refine zs_callV (host := "") zL_228 kLaw_22 vX8_neighbours (c_X8_neighbours ((sx xs (i + 1)))) [ZI (sx xs (i + 1))] [ZI ((cNei g7 ((sx xs (i + 1)))).1)] rfl (zroomL (by decide)) rfl (Nat.le_of_ble_eq_true rfl) ⟨rfl, H.m0⟩ (fun r8 g8 hq8 => ?_)
  obtain ⟨hr8, hz8⟩ := hq8
  subst hr8
  subst hz8
  exact zs_eqI 1092 E.1 zL_231 (by decide) (K _ H (by omega))
theorem L_person (H : RR g) (hcl : g 1 0 8 ≤ 899999000) (hi : i + 6 ≤ L) (hL : L ≤ 3072) (K : LGO Y b L xs i g) : ZVV Y mLaw (cxL b L xs Y) 236 (LL i) [] g := by
  have HC : CP g := H.cp (by omega)
  refine zs_aload_n (j := 1) (i := 1) (f := 7) (q := 0) zL_236 rfl rfl ?_
  refine zs_arg (j := 1) zL_237 zL_238 zL_239 zL_240 zL_241 rfl (by decide) hi hL ?_
  refine zs_arg (j := 2) zL_242 zL_243 zL_244 zL_245 zL_246 rfl (by decide) hi hL ?_
  refine zs_arg (j := 3) zL_247 zL_248 zL_249 zL_250 zL_251 rfl (by decide) hi hL ?_
  refine zs_arg (j := 4) zL_252 zL_253 zL_254 zL_255 zL_256 rfl (by decide) hi hL ?_
  refine zs_callV (host := "") zL_257 kLaw_23 vX7_person (c_X7_person ((sx xs (i + 1))) ((sx xs (i + 2))) ((sx xs (i + 3))) ((sx xs (i + 4)))) [ZI (sx xs (i + 1)), ZI (sx xs (i + 2)), ZI (sx xs (i + 3)), ZI (sx xs (i + 4))] [] rfl (zroomL (by decide)) rfl (Nat.le_of_ble_eq_true rfl) ⟨rfl, H.n6, trivial⟩ (fun r7 g7 hq7 => ?_)
  obtain ⟨hr7, hz7⟩ := hq7
  subst hr7
  subst hz7
  show ZVV _ _ _ 260 _ [ZI ((cPer g ((sx xs (i + 1))) ((sx xs (i + 2))) ((sx xs (i + 3))) ((sx xs (i + 4)))).1)] _
  refine zs_aload_n (j := 2) (i := 2) (f := 8) (q := 0) zL_260 rfl rfl ?_
  refine zs_arg (j := 1) zL_261 zL_262 zL_263 zL_264 zL_265 rfl (by decide) hi hL ?_
  refine zs_arg (j := 2) zL_266 zL_267 zL_268 zL_269 zL_270 rfl (by decide) hi hL ?_
  refine zs_arg (j := 3) zL_271 zL_272 zL_273 zL_274 zL_275 rfl (by decide) hi hL ?_
  refine zs_arg (j := 4) zL_276 zL_277 zL_278 zL_279 zL_280 rfl (by decide) hi hL ?_
  refine zs_callV (host := "") zL_281 kLaw_27 vX8_person (c_X8_person ((sx xs (i + 1))) ((sx xs (i + 2))) ((sx xs (i + 3))) ((sx xs (i + 4)))) [ZI (sx xs (i + 1)), ZI (sx xs (i + 2)), ZI (sx xs (i + 3)), ZI (sx xs (i + 4))] [ZI ((cPer g ((sx xs (i + 1))) ((sx xs (i + 2))) ((sx xs (i + 3))) ((sx xs (i + 4)))).1)] rfl (zroomL (by decide)) rfl (Nat.le_of_ble_eq_true rfl) ⟨rfl, (by rw [K_person]; exact H.m2), (by rw [K_person]; exact H.m0)⟩ (fun r8 g8 hq8 => ?_)
  obtain ⟨hr8, hz8⟩ := hq8
  subst hr8
  subst hz8
  have E := M_person H ((sx xs (i + 1))) ((sx xs (i + 2))) ((sx xs (i + 3))) ((sx xs (i + 4)))
  exact zs_eqI 1092 E.1 zL_284 (by decide) (K _ E.2.1 (by rw [E.2.2]; omega))
theorem L_of (H : RR g) (hcl : g 1 0 8 ≤ 899999000) (hi : i + 6 ≤ L) (hL : L ≤ 3072) (K : LGO Y b L xs i g) : ZVV Y mLaw (cxL b L xs Y) 289 (LL i) [] g := by
  have HC : CP g := H.cp (by omega)
  refine zs_aload_n (j := 1) (i := 1) (f := 7) (q := 0) zL_289 rfl rfl ?_
  refine zs_arg (j := 1) zL_290 zL_291 zL_292 zL_293 zL_294 rfl (by decide) hi hL ?_
  refine zs_arg (j := 2) zL_295 zL_296 zL_297 zL_298 zL_299 rfl (by decide) hi hL ?_
  refine zs_callV (host := "") zL_300 kLaw_28 vX7_of (c_X7_of ((sx xs (i + 1))) ((sx xs (i + 2)))) [ZI (sx xs (i + 1)), ZI (sx xs (i + 2))] [] rfl (zroomL (by decide)) rfl (Nat.le_of_ble_eq_true rfl) ⟨rfl, HC⟩ (fun r7 g7 hq7 => ?_)
  obtain ⟨hr7, hz7⟩ := hq7
  subst hr7
  have H1 := hz7.rr H
  have B := hz7.rc.br H1
  show ZVV _ _ _ 303 _ [ZI (cOf g ((sx xs (i + 1))) ((sx xs (i + 2))))] _
  refine zs_aload_n (j := 2) (i := 2) (f := 8) (q := 0) zL_303 rfl rfl ?_
  refine zs_arg (j := 1) zL_304 zL_305 zL_306 zL_307 zL_308 rfl (by decide) hi hL ?_
  refine zs_arg (j := 2) zL_309 zL_310 zL_311 zL_312 zL_313 rfl (by decide) hi hL ?_
  refine zs_callV (host := "") zL_314 kLaw_31 vX8_of (c_X8_of ((sx xs (i + 1))) ((sx xs (i + 2)))) [ZI (sx xs (i + 1)), ZI (sx xs (i + 2))] [ZI (cOf g ((sx xs (i + 1))) ((sx xs (i + 2))))] rfl (zroomL (by decide)) rfl (Nat.le_of_ble_eq_true rfl) ⟨rfl, H1.mp⟩ (fun r8 g8 hq8 => ?_)
  obtain ⟨hr8, hz8⟩ := hq8
  subst hr8
  have hcl2 := hz7.2.2
  have hcl3 := (hz8.lc H1.2.2.2.2.2.2.2).2
  exact zs_eqI 1092 (E_of B ((sx xs (i + 1))) ((sx xs (i + 2)))) zL_317 (by decide) (K g8 (hz8.rr H1) (by omega))
theorem L_put (H : RR g) (hcl : g 1 0 8 ≤ 899999000) (hi : i + 6 ≤ L) (hL : L ≤ 3072) (K : LGO Y b L xs i g) : ZVV Y mLaw (cxL b L xs Y) 322 (LL i) [] g := by
  have HC : CP g := H.cp (by omega)
  refine zs_aload_n (j := 1) (i := 1) (f := 7) (q := 0) zL_322 rfl rfl ?_
  refine zs_arg (j := 1) zL_323 zL_324 zL_325 zL_326 zL_327 rfl (by decide) hi hL ?_
  refine zs_arg (j := 2) zL_328 zL_329 zL_330 zL_331 zL_332 rfl (by decide) hi hL ?_
  refine zs_callV (host := "") zL_333 kLaw_32 vX7_put (c_X7_put ((sx xs (i + 1))) ((sx xs (i + 2)))) [ZI (sx xs (i + 1)), ZI (sx xs (i + 2))] [] rfl (zroomL (by decide)) rfl (Nat.le_of_ble_eq_true rfl) ⟨rfl, H.n6, trivial⟩ (fun r7 g7 hq7 => ?_)
  obtain ⟨hr7, hz7⟩ := hq7
  subst hr7
  subst hz7
  show ZVV _ _ _ 336 _ [ZI ((cPut g ((sx xs (i + 1))) ((sx xs (i + 2)))).1)] _
  refine zs_aload_n (j := 2) (i := 2) (f := 8) (q := 0) zL_336 rfl rfl ?_
  refine zs_arg (j := 1) zL_337 zL_338 zL_339 zL_340 zL_341 rfl (by decide) hi hL ?_
  refine zs_arg (j := 2) zL_342 zL_343 zL_344 zL_345 zL_346 rfl (by decide) hi hL ?_
  refine zs_callV (host := "") zL_347 kLaw_35 vX8_put (c_X8_put ((sx xs (i + 1))) ((sx xs (i + 2)))) [ZI (sx xs (i + 1)), ZI (sx xs (i + 2))] [ZI ((cPut g ((sx xs (i + 1))) ((sx xs (i + 2)))).1)] rfl (zroomL (by decide)) rfl (Nat.le_of_ble_eq_true rfl) ⟨rfl, (by rw [K_put]; exact H.m2), (by rw [K_put]; exact H.m0)⟩ (fun r8 g8 hq8 => ?_)
  obtain ⟨hr8, hz8⟩ := hq8
  subst hr8
  subst hz8
  have E := M_put H ((sx xs (i + 1))) ((sx xs (i + 2)))
  exact zs_eqI 1092 E.1 zL_350 (by decide) (K _ E.2.1 (by rw [E.2.2]; omega))
theorem L_feed (H : RR g) (hcl : g 1 0 8 ≤ 899999000) (hi : i + 6 ≤ L) (hL : L ≤ 3072) (K : LGO Y b L xs i g) : ZVV Y mLaw (cxL b L xs Y) 355 (LL i) [] g := by
  have HC : CP g := H.cp (by omega)
  refine zs_aload_n (j := 1) (i := 1) (f := 7) (q := 0) zL_355 rfl rfl ?_
  refine zs_arg (j := 1) zL_356 zL_357 zL_358 zL_359 zL_360 rfl (by decide) hi hL ?_
  refine zs_callV (host := "") zL_361 kLaw_36 vX7_feed (c_X7_feed ((sx xs (i + 1)))) [ZI (sx xs (i + 1))] [] rfl (zroomL (by decide)) rfl (Nat.le_of_ble_eq_true rfl) ⟨rfl, trivial⟩ (fun r7 g7 hq7 => ?_)
  obtain ⟨hr7, hz7⟩ := hq7
  subst hr7
  subst hz7
  show ZVV _ _ _ 364 _ [ZI ((cFeed g ((sx xs (i + 1)))).1)] _
  refine zs_aload_n (j := 2) (i := 2) (f := 8) (q := 0) zL_364 rfl rfl ?_
  refine zs_arg (j := 1) zL_365 zL_366 zL_367 zL_368 zL_369 rfl (by decide) hi hL ?_
  refine zs_callV (host := "") zL_370 kLaw_39 vX8_feed (c_X8_feed ((sx xs (i + 1)))) [ZI (sx xs (i + 1))] [ZI ((cFeed g ((sx xs (i + 1)))).1)] rfl (zroomL (by decide)) rfl (Nat.le_of_ble_eq_true rfl) ⟨rfl, (by rw [K_feed]; exact H.fed.1)⟩ (fun r8 g8 hq8 => ?_)
  obtain ⟨hr8, hz8⟩ := hq8
  subst hr8
  subst hz8
  have E := M_feed H ((sx xs (i + 1)))
  exact zs_eqI 1092 E.1 zL_373 (by decide) (K _ E.2.1 (by rw [E.2.2]; omega))
theorem L_street (H : RR g) (hcl : g 1 0 8 ≤ 899999000) (hi : i + 6 ≤ L) (hL : L ≤ 3072) (K : LGO Y b L xs i g) : ZVV Y mLaw (cxL b L xs Y) 378 (LL i) [] g := by
  have HC : CP g := H.cp (by omega)
  obtain ⟨y, hy⟩ := H.spc
  refine zs_aload_n (j := 1) (i := 1) (f := 7) (q := 0) zL_378 rfl rfl ?_
  refine zs_callV (host := "") zL_379 kLaw_40 vX7_street c_X7_street [] [] rfl (zroomL (by decide)) rfl (Nat.le_of_ble_eq_true rfl) ⟨rfl, trivial⟩ (fun r7 g7 hq7 => ?_)
  obtain ⟨hr7, hz7⟩ := hq7
  subst hr7
  subst hz7
  show ZVV _ _ _ 382 _ [ZI ((cStreet g ).1)] _
  refine zs_aload_n (j := 2) (i := 2) (f := 8) (q := 0) zL_382 rfl rfl ?_
  have hm := cSt_m g
  have eL : lkm (cStreet g).2 = lkm g := by funext a; unfold lkm; rw [hm 8 (by omega), hm 34 (by omega)]
  refine zs_callV (host := "") zL_383 kLaw_44 vX8_street (c_X8_street y) [] [ZI ((cStreet g ).1)] rfl (zroomL (by decide)) rfl (Nat.le_of_ble_eq_true rfl) ⟨rfl, (by unfold FED; rw [hm 8 (by omega), hm 34 (by omega)]; exact H.fed), (by unfold LET; rw [hm 42 (by omega)]; exact H.2.2.2.2.2.2.1.1), (by rw [hm 8 (by omega), H.2.2.1.2.1]; exact H.2.2.1.1), (by rw [eL, hm 8 (by omega)]; exact hy.1), (by have := hy.2.1.1; omega), hy.2.1.2⟩ (fun r8 g8 hq8 => ?_)
  obtain ⟨e8, H8, hc8⟩ := M_street H hy hq8
  subst e8
  exact zs_eqI 1092 rfl zL_386 (by decide) (K _ H8 (by omega))
theorem L_told (H : RR g) (hcl : g 1 0 8 ≤ 899999000) (hi : i + 6 ≤ L) (hL : L ≤ 3072) (K : LGO Y b L xs i g) : ZVV Y mLaw (cxL b L xs Y) 391 (LL i) [] g := by
  have HC : CP g := H.cp (by omega)
  refine zs_aload_n (j := 1) (i := 1) (f := 7) (q := 0) zL_391 rfl rfl ?_
  refine zs_arg (j := 1) zL_392 zL_393 zL_394 zL_395 zL_396 rfl (by decide) hi hL ?_
  refine zs_callV (host := "") zL_397 kLaw_45 vX7_told (c_X7_told ((sx xs (i + 1)))) [ZI (sx xs (i + 1))] [] rfl (zroomL (by decide)) rfl (Nat.le_of_ble_eq_true rfl) ⟨rfl, HC⟩ (fun r7 g7 hq7 => ?_)
  obtain ⟨hr7, hz7⟩ := hq7
  subst hr7
  have H1 := hz7.rr H
  have B := hz7.rc.br H1
  show ZVV _ _ _ 400 _ [ZI (cTold g ((sx xs (i + 1))))] _
  refine zs_aload_n (j := 2) (i := 2) (f := 8) (q := 0) zL_400 rfl rfl ?_
  refine zs_arg (j := 1) zL_401 zL_402 zL_403 zL_404 zL_405 rfl (by decide) hi hL ?_
  refine zs_callV (host := "") zL_406 kLaw_48 vX8_told (c_X8_told ((sx xs (i + 1)))) [ZI (sx xs (i + 1))] [ZI (cTold g ((sx xs (i + 1))))] rfl (zroomL (by decide)) rfl (Nat.le_of_ble_eq_true rfl) ⟨rfl, H1.mp⟩ (fun r8 g8 hq8 => ?_)
  obtain ⟨hr8, hz8⟩ := hq8
  subst hr8
  have hcl2 := hz7.2.2
  have hcl3 := (hz8.lc H1.2.2.2.2.2.2.2).2
  exact zs_eqI 1092 (E_told B ((sx xs (i + 1)))) zL_409 (by decide) (K g8 (hz8.rr H1) (by omega))
theorem L_move (H : RR g) (hcl : g 1 0 8 ≤ 899999000) (hi : i + 6 ≤ L) (hL : L ≤ 3072) (K : LGO Y b L xs i g) : ZVV Y mLaw (cxL b L xs Y) 414 (LL i) [] g := by
  have HC : CP g := H.cp (by omega)
  refine zs_aload_n (j := 1) (i := 1) (f := 7) (q := 0) zL_414 rfl rfl ?_
  refine zs_callV (host := "") zL_415 kLaw_49 vX7_move c_X7_moveT [] [] rfl (zroomL (by decide)) rfl (Nat.le_of_ble_eq_true rfl) ⟨rfl, HC⟩ (fun r7 g7 hq7 => ?_)
  obtain ⟨hr7, hz7⟩ := hq7
  subst hr7
  have hz7 : MVC g g7 := hz7
  show ZVV _ _ _ 418 _ [ZI (cMove g)] _
  refine zs_aload_n (j := 2) (i := 2) (f := 8) (q := 0) zL_418 rfl rfl ?_
  refine zs_callV (host := "") zL_419 kLaw_52 vX8_move c_X8_move [] [ZI (cMove g)] rfl (zroomL (by decide)) rfl (Nat.le_of_ble_eq_true rfl) ⟨rfl, (H.mp).c hz7.m⟩ (fun r8 g8 hq8 => ?_)
  obtain ⟨e8, H8, hc8⟩ := M_move H hz7 hq8
  subst e8
  exact zs_eqI 1092 rfl zL_422 (by decide) (K _ H8 (by omega))
theorem L_run (H : RR g) (hcl : g 1 0 8 ≤ 899999000) (hi : i + 6 ≤ L) (hL : L ≤ 3072) (K : LGO Y b L xs i g) : ZVV Y mLaw (cxL b L xs Y) 427 (LL i) [] g := by
  have HC : CP g := H.cp (by omega)
  refine zs_aload_n (j := 1) (i := 1) (f := 7) (q := 0) zL_427 rfl rfl ?_
  refine zs_arg (j := 1) zL_428 zL_429 zL_430 zL_431 zL_432 rfl (by decide) hi hL ?_
  refine zs_arg (j := 2) zL_433 zL_434 zL_435 zL_436 zL_437 rfl (by decide) hi hL ?_
  refine zs_callV (host := "") zL_438 kLaw_53 vX7_run (c_X7_run ((sx xs (i + 1))) ((sx xs (i + 2)))) [ZI (sx xs (i + 1)), ZI (sx xs (i + 2))] [] rfl (zroomL (by decide)) rfl (Nat.le_of_ble_eq_true rfl) ⟨rfl, HC⟩ (fun r7 g7 hq7 => ?_)
  obtain ⟨hr7, hz7⟩ := hq7
  subst hr7
  have H1 := hz7.rr H
  have B := hz7.rc.br H1
  show ZVV _ _ _ 441 _ [ZI (cRun g ((sx xs (i + 1))) ((sx xs (i + 2))))] _
  refine zs_aload_n (j := 2) (i := 2) (f := 8) (q := 0) zL_441 rfl rfl ?_
  refine zs_arg (j := 1) zL_442 zL_443 zL_444 zL_445 zL_446 rfl (by decide) hi hL ?_
  refine zs_arg (j := 2) zL_447 zL_448 zL_449 zL_450 zL_451 rfl (by decide) hi hL ?_
  refine zs_callV (host := "") zL_452 kLaw_56 vX8_run (c_X8_run ((sx xs (i + 1))) ((sx xs (i + 2)))) [ZI (sx xs (i + 1)), ZI (sx xs (i + 2))] [ZI (cRun g ((sx xs (i + 1))) ((sx xs (i + 2))))] rfl (zroomL (by decide)) rfl (Nat.le_of_ble_eq_true rfl) ⟨rfl, H1.mp⟩ (fun r8 g8 hq8 => ?_)
  obtain ⟨hr8, hz8⟩ := hq8
  subst hr8
  have hcl2 := hz7.2.2
  have hcl3 := (hz8.lc H1.2.2.2.2.2.2.2).2
  exact zs_eqI 1092 (E_run B ((sx xs (i + 1))) ((sx xs (i + 2)))) zL_455 (by decide) (K g8 (hz8.rr H1) (by omega))
theorem L_rest (H : RR g) (hcl : g 1 0 8 ≤ 899999000) (hi : i + 6 ≤ L) (hL : L ≤ 3072) (K : LGO Y b L xs i g) : ZVV Y mLaw (cxL b L xs Y) 460 (LL i) [] g := by
  have HC : CP g := H.cp (by omega)
  refine zs_aload_n (j := 1) (i := 1) (f := 7) (q := 0) zL_460 rfl rfl ?_
  refine zs_callV (host := "") zL_461 kLaw_57 vX7_rest c_X7_rest [] [] rfl (zroomL (by decide)) rfl (Nat.le_of_ble_eq_true rfl) ⟨rfl, HC⟩ (fun r7 g7 hq7 => ?_)
  obtain ⟨hr7, hz7⟩ := hq7
  subst hr7
  have H1 := hz7.rr H
  have B := hz7.rc.br H1
  show ZVV _ _ _ 464 _ [ZI (tRest 101 0 (cT g))] _
  refine zs_aload_n (j := 2) (i := 2) (f := 8) (q := 0) zL_464 rfl rfl ?_
  refine zs_callV (host := "") zL_465 kLaw_60 vX8_rest c_X8_rest [] [ZI (tRest 101 0 (cT g))] rfl (zroomL (by decide)) rfl (Nat.le_of_ble_eq_true rfl) ⟨rfl, H1.mp⟩ (fun r8 g8 hq8 => ?_)
  obtain ⟨hr8, hz8⟩ := hq8
  subst hr8
  have hcl2 := hz7.2.2
  have hcl3 := (hz8.lc H1.2.2.2.2.2.2.2).2
  exact zs_eqI 1092 (by rw [B.1]) zL_468 (by decide) (K g8 (hz8.rr H1) (by omega))
theorem L_again (H : RR g) (hcl : g 1 0 8 ≤ 899999000) (hi : i + 6 ≤ L) (hL : L ≤ 3072) (K : LGO Y b L xs i g) : ZVV Y mLaw (cxL b L xs Y) 473 (LL i) [] g := by
  have HC : CP g := H.cp (by omega)
  refine zs_aload_n (j := 1) (i := 1) (f := 7) (q := 0) zL_473 rfl rfl ?_
  refine zs_callV (host := "") zL_474 kLaw_61 vX7_again c_X7_again [] [] rfl (zroomL (by decide)) rfl (Nat.le_of_ble_eq_true rfl) ⟨rfl, HC⟩ (fun r7 g7 hq7 => ?_)
  obtain ⟨hr7, hz7⟩ := hq7
  subst hr7
  have H1 := hz7.rr H
  have B := hz7.rc.br H1
  show ZVV _ _ _ 477 _ [ZI (tAgain (g 18 0) 100 1 (cT g))] _
  refine zs_aload_n (j := 2) (i := 2) (f := 8) (q := 0) zL_477 rfl rfl ?_
  refine zs_callV (host := "") zL_478 kLaw_64 vX8_again c_X8_again [] [ZI (tAgain (g 18 0) 100 1 (cT g))] rfl (zroomL (by decide)) rfl (Nat.le_of_ble_eq_true rfl) ⟨rfl, H1.mp⟩ (fun r8 g8 hq8 => ?_)
  obtain ⟨hr8, hz8⟩ := hq8
  subst hr8
  have hcl2 := hz7.2.2
  have hcl3 := (hz8.lc H1.2.2.2.2.2.2.2).2
  exact zs_eqI 1092 (E_again B ) zL_481 (by decide) (K g8 (hz8.rr H1) (by omega))
theorem L_mixed (H : RR g) (hcl : g 1 0 8 ≤ 899999000) (hi : i + 6 ≤ L) (hL : L ≤ 3072) (K : LGO Y b L xs i g) : ZVV Y mLaw (cxL b L xs Y) 486 (LL i) [] g := by
  have HC : CP g := H.cp (by omega)
  refine zs_aload_n (j := 1) (i := 1) (f := 7) (q := 0) zL_486 rfl rfl ?_
  refine zs_arg (j := 1) zL_487 zL_488 zL_489 zL_490 zL_491 rfl (by decide) hi hL ?_
  refine zs_callV (host := "") zL_492 kLaw_65 vX7_mixed (c_X7_mixed ((sx xs (i + 1)))) [ZI (sx xs (i + 1))] [] rfl (zroomL (by decide)) rfl (Nat.le_of_ble_eq_true rfl) ⟨rfl, HC⟩ (fun r7 g7 hq7 => ?_)
  obtain ⟨hr7, hz7⟩ := hq7
  subst hr7
  have H1 := hz7.rr H
  have B := hz7.rc.br H1
  show ZVV _ _ _ 495 _ [ZI (cMixed g ((sx xs (i + 1))))] _
  refine zs_aload_n (j := 2) (i := 2) (f := 8) (q := 0) zL_495 rfl rfl ?_
  refine zs_arg (j := 1) zL_496 zL_497 zL_498 zL_499 zL_500 rfl (by decide) hi hL ?_
  refine zs_callV (host := "") zL_501 kLaw_68 vX8_mixed (c_X8_mixed ((sx xs (i + 1)))) [ZI (sx xs (i + 1))] [ZI (cMixed g ((sx xs (i + 1))))] rfl (zroomL (by decide)) rfl (Nat.le_of_ble_eq_true rfl) ⟨rfl, H1.mp⟩ (fun r8 g8 hq8 => ?_)
  obtain ⟨hr8, hz8⟩ := hq8
  subst hr8
  have hcl2 := hz7.2.2
  have hcl3 := (hz8.lc H1.2.2.2.2.2.2.2).2
  exact zs_eqI 1092 (E_mixed B H ((sx xs (i + 1)))) zL_504 (by decide) (K g8 (hz8.rr H1) (by omega))
theorem L_few (H : RR g) (hcl : g 1 0 8 ≤ 899999000) (hi : i + 6 ≤ L) (hL : L ≤ 3072) (K : LGO Y b L xs i g) : ZVV Y mLaw (cxL b L xs Y) 509 (LL i) [] g := by
  have HC : CP g := H.cp (by omega)
  refine zs_aload_n (j := 1) (i := 1) (f := 7) (q := 0) zL_509 rfl rfl ?_
  refine zs_callV (host := "") zL_510 kLaw_69 vX7_few c_X7_few [] [] rfl (zroomL (by decide)) rfl (Nat.le_of_ble_eq_true rfl) ⟨rfl, HC⟩ (fun r7 g7 hq7 => ?_)
  obtain ⟨hr7, hz7⟩ := hq7
  subst hr7
  have H1 := hz7.rr H
  have B := hz7.rc.br H1
  show ZVV _ _ _ 513 _ [ZI (cFew g)] _
  refine zs_aload_n (j := 2) (i := 2) (f := 8) (q := 0) zL_513 rfl rfl ?_
  refine zs_callV (host := "") zL_514 kLaw_72 vX8_few c_X8_few [] [ZI (cFew g)] rfl (zroomL (by decide)) rfl (Nat.le_of_ble_eq_true rfl) ⟨rfl, H1.mp⟩ (fun r8 g8 hq8 => ?_)
  obtain ⟨hr8, hz8⟩ := hq8
  subst hr8
  have hcl2 := hz7.2.2
  have hcl3 := (hz8.lc H1.2.2.2.2.2.2.2).2
  exact zs_eqI 1092 (E_few B H ) zL_517 (by decide) (K g8 (hz8.rr H1) (by omega))
theorem L_edge (H : RR g) (hcl : g 1 0 8 ≤ 899999000) (hi : i + 6 ≤ L) (hL : L ≤ 3072) (K : LGO Y b L xs i g) : ZVV Y mLaw (cxL b L xs Y) 522 (LL i) [] g := by
  have HC : CP g := H.cp (by omega)
  refine zs_aload_n (j := 1) (i := 1) (f := 7) (q := 0) zL_522 rfl rfl ?_
  refine zs_callV (host := "") zL_523 kLaw_73 vX7_edge c_X7_edge [] [] rfl (zroomL (by decide)) rfl (Nat.le_of_ble_eq_true rfl) ⟨rfl, HC⟩ (fun r7 g7 hq7 => ?_)
  obtain ⟨hr7, hz7⟩ := hq7
  subst hr7
  have H1 := hz7.rr H
  have B := hz7.rc.br H1
  show ZVV _ _ _ 526 _ [ZI (tEdge 101 (cT g))] _
  refine zs_aload_n (j := 2) (i := 2) (f := 8) (q := 0) zL_526 rfl rfl ?_
  refine zs_callV (host := "") zL_527 kLaw_76 vX8_edge c_X8_edge [] [ZI (tEdge 101 (cT g))] rfl (zroomL (by decide)) rfl (Nat.le_of_ble_eq_true rfl) ⟨rfl, H1.mp⟩ (fun r8 g8 hq8 => ?_)
  obtain ⟨hr8, hz8⟩ := hq8
  subst hr8
  have hcl2 := hz7.2.2
  have hcl3 := (hz8.lc H1.2.2.2.2.2.2.2).2
  exact zs_eqI 1092 (by rw [B.1]) zL_530 (by decide) (K g8 (hz8.rr H1) (by omega))
theorem L_begins (H : RR g) (hcl : g 1 0 8 ≤ 899999000) (hi : i + 6 ≤ L) (hL : L ≤ 3072) (K : LGO Y b L xs i g) : ZVV Y mLaw (cxL b L xs Y) 535 (LL i) [] g := by
  have HC : CP g := H.cp (by omega)
  refine zs_aload_n (j := 1) (i := 1) (f := 7) (q := 0) zL_535 rfl rfl ?_
  refine zs_callV (host := "") zL_536 kLaw_77 vX7_begins c_X7_begins [] [] rfl (zroomL (by decide)) rfl (Nat.le_of_ble_eq_true rfl) ⟨rfl, HC, hcl⟩ (fun r7 g7 hq7 => ?_)
  obtain ⟨hr7, hz7⟩ := hq7
  subst hr7
  have H1 := hz7.rr H
  have B := hz7.rc.br H1
  show ZVV _ _ _ 539 _ [ZI (tBeg (tlp (cT g)) (cT g) 11 0)] _
  refine zs_aload_n (j := 2) (i := 2) (f := 8) (q := 0) zL_539 rfl rfl ?_
  refine zs_callV (host := "") zL_540 kLaw_80 vX8_begins c_X8_begins [] [ZI (tBeg (tlp (cT g)) (cT g) 11 0)] rfl (zroomL (by decide)) rfl (Nat.le_of_ble_eq_true rfl) ⟨rfl, H1.mp⟩ (fun r8 g8 hq8 => ?_)
  obtain ⟨hr8, hz8⟩ := hq8
  subst hr8
  have hcl2 := hz7.2.2
  have hcl3 := (hz8.lc H1.2.2.2.2.2.2.2).2
  exact zs_eqI 1092 (E_begins B H ) zL_543 (by decide) (K g8 (hz8.rr H1) (by omega))
theorem L_holds (H : RR g) (hcl : g 1 0 8 ≤ 899999000) (hi : i + 6 ≤ L) (hL : L ≤ 3072) (K : LGO Y b L xs i g) : ZVV Y mLaw (cxL b L xs Y) 548 (LL i) [] g := by
  have HC : CP g := H.cp (by omega)
  refine zs_aload_n (j := 1) (i := 1) (f := 7) (q := 0) zL_548 rfl rfl ?_
  refine zs_callV (host := "") zL_549 kLaw_81 vX7_holds c_X7_holds [] [] rfl (zroomL (by decide)) rfl (Nat.le_of_ble_eq_true rfl) ⟨rfl, HC⟩ (fun r7 g7 hq7 => ?_)
  obtain ⟨hr7, hz7⟩ := hq7
  subst hr7
  have H1 := hz7.rr H
  have B := hz7.rc.br H1
  show ZVV _ _ _ 552 _ [ZI (tHolds (cT g) (tHap (cT g) : Nat) (g 2 0 3).toNat 0 0)] _
  refine zs_aload_n (j := 2) (i := 2) (f := 8) (q := 0) zL_552 rfl rfl ?_
  refine zs_callV (host := "") zL_553 kLaw_84 vX8_holds c_X8_holds [] [ZI (tHolds (cT g) (tHap (cT g) : Nat) (g 2 0 3).toNat 0 0)] rfl (zroomL (by decide)) rfl (Nat.le_of_ble_eq_true rfl) ⟨rfl, H1.mp⟩ (fun r8 g8 hq8 => ?_)
  obtain ⟨hr8, hz8⟩ := hq8
  subst hr8
  have hcl2 := hz7.2.2
  have hcl3 := (hz8.lc H1.2.2.2.2.2.2.2).2
  exact zs_eqI 1092 (E_holds B H ) zL_556 (by decide) (K g8 (hz8.rr H1) (by omega))
theorem L_before (H : RR g) (hcl : g 1 0 8 ≤ 899999000) (hi : i + 6 ≤ L) (hL : L ≤ 3072) (K : LGO Y b L xs i g) : ZVV Y mLaw (cxL b L xs Y) 561 (LL i) [] g := by
  have HC : CP g := H.cp (by omega)
  refine zs_aload_n (j := 1) (i := 1) (f := 7) (q := 0) zL_561 rfl rfl ?_
  refine zs_arg (j := 1) zL_562 zL_563 zL_564 zL_565 zL_566 rfl (by decide) hi hL ?_
  refine zs_callV (host := "") zL_567 kLaw_85 vX7_before (c_X7_before ((sx xs (i + 1)))) [ZI (sx xs (i + 1))] [] rfl (zroomL (by decide)) rfl (Nat.le_of_ble_eq_true rfl) ⟨rfl, HC, hcl⟩ (fun r7 g7 hq7 => ?_)
  obtain ⟨hr7, hz7⟩ := hq7
  subst hr7
  have H1 := hz7.rr H
  have B := hz7.rc.br H1
  show ZVV _ _ _ 570 _ [ZI (cBefore g ((sx xs (i + 1))))] _
  refine zs_aload_n (j := 2) (i := 2) (f := 8) (q := 0) zL_570 rfl rfl ?_
  refine zs_arg (j := 1) zL_571 zL_572 zL_573 zL_574 zL_575 rfl (by decide) hi hL ?_
  refine zs_callV (host := "") zL_576 kLaw_88 vX8_before (c_X8_before ((sx xs (i + 1)))) [ZI (sx xs (i + 1))] [ZI (cBefore g ((sx xs (i + 1))))] rfl (zroomL (by decide)) rfl (Nat.le_of_ble_eq_true rfl) ⟨rfl, H1.mp⟩ (fun r8 g8 hq8 => ?_)
  obtain ⟨hr8, hz8⟩ := hq8
  subst hr8
  have hcl2 := hz7.2.2
  have hcl3 := (hz8.lc H1.2.2.2.2.2.2.2).2
  exact zs_eqI 1092 (E_before B H ((sx xs (i + 1)))) zL_579 (by decide) (K g8 (hz8.rr H1) (by omega))
theorem L_odds (H : RR g) (hcl : g 1 0 8 ≤ 899999000) (hi : i + 6 ≤ L) (hL : L ≤ 3072) (K : LGO Y b L xs i g) : ZVV Y mLaw (cxL b L xs Y) 584 (LL i) [] g := by
  have HC : CP g := H.cp (by omega)
  refine zs_aload_n (j := 1) (i := 1) (f := 7) (q := 0) zL_584 rfl rfl ?_
  refine zs_arg (j := 1) zL_585 zL_586 zL_587 zL_588 zL_589 rfl (by decide) hi hL ?_
  refine zs_arg (j := 2) zL_590 zL_591 zL_592 zL_593 zL_594 rfl (by decide) hi hL ?_
  refine zs_callV (host := "") zL_595 kLaw_89 vX7_odds (c_X7_odds ((sx xs (i + 1))) ((sx xs (i + 2)))) [ZI (sx xs (i + 1)), ZI (sx xs (i + 2))] [] rfl (zroomL (by decide)) rfl (Nat.le_of_ble_eq_true rfl) ⟨rfl, HC⟩ (fun r7 g7 hq7 => ?_)
  obtain ⟨hr7, hz7⟩ := hq7
  subst hr7
  have H1 := hz7.rr H
  have B := hz7.rc.br H1
  show ZVV _ _ _ 598 _ [ZJ (cOdds g ((sx xs (i + 1))) ((sx xs (i + 2))))] _
  refine zs_aload_n (j := 2) (i := 2) (f := 8) (q := 0) zL_598 rfl rfl ?_
  refine zs_arg (j := 1) zL_599 zL_600 zL_601 zL_602 zL_603 rfl (by decide) hi hL ?_
  refine zs_arg (j := 2) zL_604 zL_605 zL_606 zL_607 zL_608 rfl (by decide) hi hL ?_
  refine zs_callV (host := "") zL_609 kLaw_93 vX8_odds (c_X8_odds ((sx xs (i + 1))) ((sx xs (i + 2)))) [ZI (sx xs (i + 1)), ZI (sx xs (i + 2))] [ZJ (cOdds g ((sx xs (i + 1))) ((sx xs (i + 2))))] rfl (zroomL (by decide)) rfl (Nat.le_of_ble_eq_true rfl) ⟨rfl, H1.mp⟩ (fun r8 g8 hq8 => ?_)
  obtain ⟨hr8, hz8⟩ := hq8
  subst hr8
  have hcl2 := hz7.2.2
  have hcl3 := (hz8.lc H1.2.2.2.2.2.2.2).2
  exact zs_eqJ 1092 (E_odds B H ((sx xs (i + 1))) ((sx xs (i + 2)))) zL_612 zL_613 (by decide) (K g8 (hz8.rr H1) (by omega))
theorem L_quarter (H : RR g) (hcl : g 1 0 8 ≤ 899999000) (hi : i + 6 ≤ L) (hL : L ≤ 3072) (K : LGO Y b L xs i g) : ZVV Y mLaw (cxL b L xs Y) 618 (LL i) [] g := by
  have HC : CP g := H.cp (by omega)
  refine zs_aload_n (j := 1) (i := 1) (f := 7) (q := 0) zL_618 rfl rfl ?_
  refine zs_arg (j := 1) zL_619 zL_620 zL_621 zL_622 zL_623 rfl (by decide) hi hL ?_
  refine zs_arg (j := 2) zL_624 zL_625 zL_626 zL_627 zL_628 rfl (by decide) hi hL ?_
  refine zs_arg (j := 3) zL_629 zL_630 zL_631 zL_632 zL_633 rfl (by decide) hi hL ?_
  refine zs_callV (host := "") zL_634 kLaw_94 vX7_quarter (c_X7_quarter ((sx xs (i + 1))) ((sx xs (i + 2))) ((sx xs (i + 3)))) [ZI (sx xs (i + 1)), ZI (sx xs (i + 2)), ZI (sx xs (i + 3))] [] rfl (zroomL (by decide)) rfl (Nat.le_of_ble_eq_true rfl) ⟨rfl, H.cok, trivial⟩ (fun r7 g7 hq7 => ?_)
  obtain ⟨hr7, hz7⟩ := hq7
  subst hr7
  subst hz7
  have B := (RC.rf g7).br H
  show ZVV _ _ _ 637 _ [ZJ (cQuarter g7 ((sx xs (i + 1))) ((sx xs (i + 2))) ((sx xs (i + 3))))] _
  refine zs_aload_n (j := 2) (i := 2) (f := 8) (q := 0) zL_637 rfl rfl ?_
  refine zs_arg (j := 1) zL_638 zL_639 zL_640 zL_641 zL_642 rfl (by decide) hi hL ?_
  refine zs_arg (j := 2) zL_643 zL_644 zL_645 zL_646 zL_647 rfl (by decide) hi hL ?_
  refine zs_arg (j := 3) zL_648 zL_649 zL_650 zL_651 zL_652 rfl (by decide) hi hL ?_
  refine zs_callV (host := "") zL_653 kLaw_98 vX8_quarter (c_X8_quarter ((sx xs (i + 1))) ((sx xs (i + 2))) ((sx xs (i + 3)))) [ZI (sx xs (i + 1)), ZI (sx xs (i + 2)), ZI (sx xs (i + 3))] [ZJ (cQuarter g7 ((sx xs (i + 1))) ((sx xs (i + 2))) ((sx xs (i + 3))))] rfl (zroomL (by decide)) rfl (Nat.le_of_ble_eq_true rfl) ⟨rfl, H.mp⟩ (fun r8 g8 hq8 => ?_)
  obtain ⟨hr8, hz8⟩ := hq8
  subst hr8
  subst hz8
  exact zs_eqJ 1092 (E_quarter B ((sx xs (i + 1))) ((sx xs (i + 2))) ((sx xs (i + 3)))) zL_656 zL_657 (by decide) (K _ H (by omega))
theorem L_book (H : RR g) (hcl : g 1 0 8 ≤ 899999000) (hi : i + 6 ≤ L) (hL : L ≤ 3072) (K : LGO Y b L xs i g) : ZVV Y mLaw (cxL b L xs Y) 662 (LL i) [] g := by
  have HC : CP g := H.cp (by omega)
  refine zs_aload_n (j := 1) (i := 1) (f := 7) (q := 0) zL_662 rfl rfl ?_
  refine zs_arg (j := 1) zL_663 zL_664 zL_665 zL_666 zL_667 rfl (by decide) hi hL ?_
  refine zs_callV (host := "") zL_668 kLaw_99 vX7_book (c_X7_book ((sx xs (i + 1)))) [ZI (sx xs (i + 1))] [] rfl (zroomL (by decide)) rfl (Nat.le_of_ble_eq_true rfl) ⟨rfl, H.1.1.2.2.2.2.1, trivial⟩ (fun r7 g7 hq7 => ?_)
  obtain ⟨hr7, hz7⟩ := hq7
  subst hr7
  subst hz7
  show ZVV _ _ _ 671 _ [ZI ((cBook g ((sx xs (i + 1)))).1)] _
  refine zs_aload_n (j := 2) (i := 2) (f := 8) (q := 0) zL_671 rfl rfl ?_
  refine zs_arg (j := 1) zL_672 zL_673 zL_674 zL_675 zL_676 rfl (by decide) hi hL ?_
  refine zs_callV (host := "") zL_677 kLaw_102 vX8_book (c_X8_book ((sx xs (i + 1)))) [ZI (sx xs (i + 1))] [ZI ((cBook g ((sx xs (i + 1)))).1)] rfl (zroomL (by decide)) rfl (Nat.le_of_ble_eq_true rfl) ⟨rfl, (by rw [K_book, H.1.2.2.1.2.2.2.2.1]; exact H.1.1.2.2.2.2.1), trivial⟩ (fun r8 g8 hq8 => ?_)
  obtain ⟨hr8, hz8⟩ := hq8
  subst hr8
  subst hz8
  have E := M_book H ((sx xs (i + 1)))
  exact zs_eqI 1092 E.1 zL_680 (by decide) (K _ E.2.1 (by rw [E.2.2]; omega))
theorem L_looked (H : RR g) (hcl : g 1 0 8 ≤ 899999000) (hi : i + 6 ≤ L) (hL : L ≤ 3072) (K : LGO Y b L xs i g) : ZVV Y mLaw (cxL b L xs Y) 685 (LL i) [] g := by
  have HC : CP g := H.cp (by omega)
  refine zs_aload_n (j := 1) (i := 1) (f := 7) (q := 0) zL_685 rfl rfl ?_
  refine zs_callV (host := "") zL_686 kLaw_103 vX7_looked c_X7_looked [] [] rfl (zroomL (by decide)) rfl (Nat.le_of_ble_eq_true rfl) ⟨rfl, HC, H.1.1.2.2.2.2.1⟩ (fun r7 g7 hq7 => ?_)
  obtain ⟨hr7, hz7⟩ := hq7
  subst hr7
  have H1 := hz7.rr H
  have B := hz7.rc.br H1
  show ZVV _ _ _ 689 _ [ZI (tLook (g 19 0) (g 2 0 10).toNat 0 (cT g))] _
  refine zs_aload_n (j := 2) (i := 2) (f := 8) (q := 0) zL_689 rfl rfl ?_
  refine zs_callV (host := "") zL_690 kLaw_106 vX8_looked c_X8_looked [] [ZI (tLook (g 19 0) (g 2 0 10).toNat 0 (cT g))] rfl (zroomL (by decide)) rfl (Nat.le_of_ble_eq_true rfl) ⟨rfl, H1.mp, (by rw [H1.1.2.2.1.2.2.2.2.1]; exact H1.1.1.2.2.2.2.1)⟩ (fun r8 g8 hq8 => ?_)
  obtain ⟨hr8, hz8⟩ := hq8
  subst hr8
  have hcl2 := hz7.2.2
  have hcl3 := (hz8.lc H1.2.2.2.2.2.2.2).2
  exact zs_eqI 1092 (E_looked B H ) zL_693 (by decide) (K g8 (hz8.rr H1) (by omega))
theorem L_judge (H : RR g) (hcl : g 1 0 8 ≤ 899999000) (hi : i + 6 ≤ L) (hL : L ≤ 3072) (K : LGO Y b L xs i g) : ZVV Y mLaw (cxL b L xs Y) 698 (LL i) [] g := by
  have HC : CP g := H.cp (by omega)
  refine zs_aload_n (j := 1) (i := 1) (f := 7) (q := 0) zL_698 rfl rfl ?_
  refine zs_arg (j := 1) zL_699 zL_700 zL_701 zL_702 zL_703 rfl (by decide) hi hL ?_
  refine zs_arg (j := 2) zL_704 zL_705 zL_706 zL_707 zL_708 rfl (by decide) hi hL ?_
  refine zs_callV (host := "") zL_709 kLaw_107 vX7_judge (c_X7_judge ((sx xs (i + 1))) ((sx xs (i + 2)))) [ZI (sx xs (i + 1)), ZI (sx xs (i + 2))] [] rfl (zroomL (by decide)) rfl (Nat.le_of_ble_eq_true rfl) ⟨rfl, HC, H.tp⟩ (fun r7 g7 hq7 => ?_)
  obtain ⟨hr7, hz7⟩ := hq7
  subst hr7
  have H1 := hz7.rr H
  have B := hz7.rc.br H1
  show ZVV _ _ _ 712 _ [ZI (cJudge g ((sx xs (i + 1))) ((sx xs (i + 2))))] _
  refine zs_aload_n (j := 2) (i := 2) (f := 8) (q := 0) zL_712 rfl rfl ?_
  refine zs_arg (j := 1) zL_713 zL_714 zL_715 zL_716 zL_717 rfl (by decide) hi hL ?_
  refine zs_arg (j := 2) zL_718 zL_719 zL_720 zL_721 zL_722 rfl (by decide) hi hL ?_
  refine zs_callV (host := "") zL_723 kLaw_110 vX8_judge (c_X8_judge ((sx xs (i + 1))) ((sx xs (i + 2)))) [ZI (sx xs (i + 1)), ZI (sx xs (i + 2))] [ZI (cJudge g ((sx xs (i + 1))) ((sx xs (i + 2))))] rfl (zroomL (by decide)) rfl (Nat.le_of_ble_eq_true rfl) ⟨rfl, H1.mp, H1.tm⟩ (fun r8 g8 hq8 => ?_)
  obtain ⟨hr8, hz8⟩ := hq8
  subst hr8
  have hcl2 := hz7.2.2
  have hcl3 := (hz8.lc H1.2.2.2.2.2.2.2).2
  exact zs_eqI 1092 (E_judge B H ((sx xs (i + 1))) ((sx xs (i + 2)))) zL_726 (by decide) (K g8 (hz8.rr H1) (by omega))
theorem L_image (H : RR g) (hcl : g 1 0 8 ≤ 899999000) (hi : i + 6 ≤ L) (hL : L ≤ 3072) (K : LGO Y b L xs i g) : ZVV Y mLaw (cxL b L xs Y) 731 (LL i) [] g := by
  have HC : CP g := H.cp (by omega)
  refine zs_aload_n (j := 1) (i := 1) (f := 7) (q := 0) zL_731 rfl rfl ?_
  refine zs_callV (host := "") zL_732 kLaw_111 vX7_image c_X7_image [] [] rfl (zroomL (by decide)) rfl (Nat.le_of_ble_eq_true rfl) ⟨rfl, H.cok.2.1.1.1, trivial⟩ (fun r7 g7 hq7 => ?_)
  obtain ⟨hr7, hz7⟩ := hq7
  subst hr7
  show ZVV _ _ _ 735 _ [ZI (g 2 0 3)] _
  refine zs_aload_n (j := 2) (i := 2) (f := 8) (q := 0) zL_735 rfl rfl ?_
  subst hz7
  refine zs_callV (host := "") zL_736 kLaw_114 vX8_image c_X8_image [] [ZI (g 2 0 3)] rfl (zroomL (by decide)) rfl (Nat.le_of_ble_eq_true rfl) ⟨rfl, trivial⟩ (fun r8 g8 hq8 => ?_)
  obtain ⟨hr8, hz8⟩ := hq8
  subst hr8
  subst hz8
  have E := M_image H
  exact zs_eqI 1092 E.1 zL_739 (by decide) (K _ E.2.1 (by rw [E.2.2]; omega))
theorem L_undo (H : RR g) (hcl : g 1 0 8 ≤ 899999000) (hi : i + 6 ≤ L) (hL : L ≤ 3072) (K : LGO Y b L xs i g) : ZVV Y mLaw (cxL b L xs Y) 744 (LL i) [] g := by
  have HC : CP g := H.cp (by omega)
  refine zs_aload_n (j := 1) (i := 1) (f := 7) (q := 0) zL_744 rfl rfl ?_
  refine zs_callV (host := "") zL_745 kLaw_115 vX7_undo c_X7_undo [] [] rfl (zroomL (by decide)) rfl (Nat.le_of_ble_eq_true rfl) ⟨rfl, H.2.1.2.2, trivial⟩ (fun r7 g7 hq7 => ?_)
  obtain ⟨hr7, hz7⟩ := hq7
  subst hr7
  show ZVV _ _ _ 748 _ [ZI (if g 7 0 9 = 0 then -3 else g 2 1 3)] _
  refine zs_aload_n (j := 2) (i := 2) (f := 8) (q := 0) zL_748 rfl rfl ?_
  subst hz7
  refine zs_callV (host := "") zL_749 kLaw_118 vX8_undo c_X8_undo [] [ZI (if g 7 0 9 = 0 then -3 else g 2 1 3)] rfl (zroomL (by decide)) rfl (Nat.le_of_ble_eq_true rfl) ⟨rfl, trivial⟩ (fun r8 g8 hq8 => ?_)
  obtain ⟨hr8, hz8⟩ := hq8
  subst hr8
  subst hz8
  have E := M_undo H
  exact zs_eqI 1092 E.1 zL_752 (by decide) (K _ E.2.1 (by rw [E.2.2]; omega))
theorem L_act (H : RR g) (hcl : g 1 0 8 ≤ 899999000) (hi : i + 6 ≤ L) (hL : L ≤ 3072) (K : LGO Y b L xs i g) : ZVV Y mLaw (cxL b L xs Y) 757 (LL i) [] g := by
  have HC : CP g := H.cp (by omega)
  refine zs_aload_n (j := 1) (i := 1) (f := 7) (q := 0) zL_757 rfl rfl ?_
  refine zs_arg (j := 1) zL_758 zL_759 zL_760 zL_761 zL_762 rfl (by decide) hi hL ?_
  refine zs_arg (j := 2) zL_763 zL_764 zL_765 zL_766 zL_767 rfl (by decide) hi hL ?_
  refine zs_arg (j := 3) zL_768 zL_769 zL_770 zL_771 zL_772 rfl (by decide) hi hL ?_
  refine zs_callV (host := "") zL_773 kLaw_119 vX7_act (c_X7_act ((sx xs (i + 1))) ((sx xs (i + 2))) ((sx xs (i + 3)))) [ZI (sx xs (i + 1)), ZI (sx xs (i + 2)), ZI (sx xs (i + 3))] [] rfl (zroomL (by decide)) rfl (Nat.le_of_ble_eq_true rfl) ⟨rfl, H.cok, trivial⟩ (fun r7 g7 hq7 => ?_)
  obtain ⟨hr7, hz7⟩ := hq7
  subst hr7
  subst hz7
  show ZVV _ _ _ 776 _ [ZI ((cActs g ((sx xs (i + 1))) ((sx xs (i + 2))) ((sx xs (i + 3)))).1)] _
  refine zs_aload_n (j := 2) (i := 2) (f := 8) (q := 0) zL_776 rfl rfl ?_
  refine zs_arg (j := 1) zL_777 zL_778 zL_779 zL_780 zL_781 rfl (by decide) hi hL ?_
  refine zs_arg (j := 2) zL_782 zL_783 zL_784 zL_785 zL_786 rfl (by decide) hi hL ?_
  refine zs_arg (j := 3) zL_787 zL_788 zL_789 zL_790 zL_791 rfl (by decide) hi hL ?_
  refine zs_callV (host := "") zL_792 kLaw_123 vX8_act (c_X8_act ((sx xs (i + 1))) ((sx xs (i + 2))) ((sx xs (i + 3)))) [ZI (sx xs (i + 1)), ZI (sx xs (i + 2)), ZI (sx xs (i + 3))] [ZI ((cActs g ((sx xs (i + 1))) ((sx xs (i + 2))) ((sx xs (i + 3)))).1)] rfl (zroomL (by decide)) rfl (Nat.le_of_ble_eq_true rfl) ⟨rfl, (by rw [K_act]; exact H.m2), trivial⟩ (fun r8 g8 hq8 => ?_)
  obtain ⟨hr8, hz8⟩ := hq8
  subst hr8
  subst hz8
  have E := M_act H ((sx xs (i + 1))) ((sx xs (i + 2))) ((sx xs (i + 3)))
  exact zs_eqI 1092 E.1 zL_795 (by decide) (K _ E.2.1 (by rw [E.2.2]; omega))
theorem L_trace (H : RR g) (hcl : g 1 0 8 ≤ 899999000) (hi : i + 6 ≤ L) (hL : L ≤ 3072) (K : LGO Y b L xs i g) : ZVV Y mLaw (cxL b L xs Y) 800 (LL i) [] g := by
  have HC : CP g := H.cp (by omega)
  refine zs_aload_n (j := 1) (i := 1) (f := 7) (q := 0) zL_800 rfl rfl ?_
  refine zs_arg (j := 1) zL_801 zL_802 zL_803 zL_804 zL_805 rfl (by decide) hi hL ?_
  refine zs_callV (host := "") zL_806 kLaw_124 vX7_trace (c_X7_trace ((sx xs (i + 1)))) [ZI (sx xs (i + 1))] [] rfl (zroomL (by decide)) rfl (Nat.le_of_ble_eq_true rfl) ⟨rfl, trivial⟩ (fun r7 g7 hq7 => ?_)
  obtain ⟨hr7, hz7⟩ := hq7
  subst hr7
  have B := (RC.rf g).br H
  have E := E_trace B H ((sx xs (i + 1)))
  rw [E.2.1] at hz7
  subst hz7
  show ZVV _ _ _ 809 _ [ZI ((cTrace g7 ((sx xs (i + 1)))).1)] _
  refine zs_aload_n (j := 2) (i := 2) (f := 8) (q := 0) zL_809 rfl rfl ?_
  refine zs_arg (j := 1) zL_810 zL_811 zL_812 zL_813 zL_814 rfl (by decide) hi hL ?_
  refine zs_callV (host := "") zL_815 kLaw_127 vX8_trace (c_X8_trace ((sx xs (i + 1)))) [ZI (sx xs (i + 1))] [ZI ((cTrace g7 ((sx xs (i + 1)))).1)] rfl (zroomL (by decide)) rfl (Nat.le_of_ble_eq_true rfl) ⟨rfl, trivial⟩ (fun r8 g8 hq8 => ?_)
  obtain ⟨hr8, hz8⟩ := hq8
  subst hr8
  rw [E.2.2] at hz8
  subst hz8
  exact zs_eqI 1092 E.1 zL_818 (by decide) (K _ H (by omega))
theorem L_taken (H : RR g) (hcl : g 1 0 8 ≤ 899999000) (hi : i + 6 ≤ L) (hL : L ≤ 3072) (K : LGO Y b L xs i g) : ZVV Y mLaw (cxL b L xs Y) 823 (LL i) [] g := by
  have HC : CP g := H.cp (by omega)
  refine zs_aload_n (j := 1) (i := 1) (f := 7) (q := 0) zL_823 rfl rfl ?_
  refine zs_arg (j := 1) zL_824 zL_825 zL_826 zL_827 zL_828 rfl (by decide) hi hL ?_
  refine zs_arg (j := 2) zL_829 zL_830 zL_831 zL_832 zL_833 rfl (by decide) hi hL ?_
  refine zs_callV (host := "") zL_834 kLaw_128 vX7_taken (c_X7_taken ((sx xs (i + 1))) ((sx xs (i + 2)))) [ZI (sx xs (i + 1)), ZI (sx xs (i + 2))] [] rfl (zroomL (by decide)) rfl (Nat.le_of_ble_eq_true rfl) ⟨rfl, H.cok, trivial⟩ (fun r7 g7 hq7 => ?_)
  obtain ⟨hr7, hz7⟩ := hq7
  subst hr7
  subst hz7
  have B := (RC.rf g7).br H
  show ZVV _ _ _ 837 _ [ZI (cTaken g7 ((sx xs (i + 1))) ((sx xs (i + 2))))] _
  refine zs_aload_n (j := 2) (i := 2) (f := 8) (q := 0) zL_837 rfl rfl ?_
  refine zs_arg (j := 1) zL_838 zL_839 zL_840 zL_841 zL_842 rfl (by decide) hi hL ?_
  refine zs_arg (j := 2) zL_843 zL_844 zL_845 zL_846 zL_847 rfl (by decide) hi hL ?_
  refine zs_callV (host := "") zL_848 kLaw_131 vX8_taken (c_X8_taken ((sx xs (i + 1))) ((sx xs (i + 2)))) [ZI (sx xs (i + 1)), ZI (sx xs (i + 2))] [ZI (cTaken g7 ((sx xs (i + 1))) ((sx xs (i + 2))))] rfl (zroomL (by decide)) rfl (Nat.le_of_ble_eq_true rfl) ⟨rfl, H.m2, trivial⟩ (fun r8 g8 hq8 => ?_)
  obtain ⟨hr8, hz8⟩ := hq8
  subst hr8
  have E := E_taken B H ((sx xs (i + 1))) ((sx xs (i + 2)))
  rw [E.2] at hz8
  subst hz8
  exact zs_eqI 1092 E.1 zL_851 (by decide) (K _ H (by omega))
theorem L_count (H : RR g) (hcl : g 1 0 8 ≤ 899999000) (hi : i + 6 ≤ L) (hL : L ≤ 3072) (K : LGO Y b L xs i g) : ZVV Y mLaw (cxL b L xs Y) 856 (LL i) [] g := by
  have HC : CP g := H.cp (by omega)
  refine zs_aload_n (j := 1) (i := 1) (f := 7) (q := 0) zL_856 rfl rfl ?_
  refine zs_arg (j := 1) zL_857 zL_858 zL_859 zL_860 zL_861 rfl (by decide) hi hL ?_
  refine zs_callV (host := "") zL_862 kLaw_132 vX7_count (c_X7_count ((sx xs (i + 1)))) [ZI (sx xs (i + 1))] [] rfl (zroomL (by decide)) rfl (Nat.le_of_ble_eq_true rfl) ⟨rfl, trivial⟩ (fun r7 g7 hq7 => ?_)
  obtain ⟨hr7, hz7⟩ := hq7
  subst hr7
  have B := (RC.rf g).br H
  have E := E_count B H ((sx xs (i + 1)))
  rw [E.2.1] at hz7
  subst hz7
  show ZVV _ _ _ 865 _ [ZI ((cCount g7 ((sx xs (i + 1)))).1)] _
  refine zs_aload_n (j := 2) (i := 2) (f := 8) (q := 0) zL_865 rfl rfl ?_
  refine zs_arg (j := 1) zL_866 zL_867 zL_868 zL_869 zL_870 rfl (by decide) hi hL ?_
  refine zs_callV (host := "") zL_871 kLaw_135 vX8_count (c_X8_count ((sx xs (i + 1)))) [ZI (sx xs (i + 1))] [ZI ((cCount g7 ((sx xs (i + 1)))).1)] rfl (zroomL (by decide)) rfl (Nat.le_of_ble_eq_true rfl) ⟨rfl, trivial⟩ (fun r8 g8 hq8 => ?_)
  obtain ⟨hr8, hz8⟩ := hq8
  subst hr8
  rw [E.2.2] at hz8
  subst hz8
  exact zs_eqI 1092 E.1 zL_874 (by decide) (K _ H (by omega))
theorem L_tape (H : RR g) (hcl : g 1 0 8 ≤ 899999000) (hi : i + 6 ≤ L) (hL : L ≤ 3072) (K : LGO Y b L xs i g) : ZVV Y mLaw (cxL b L xs Y) 879 (LL i) [] g := by
  have HC : CP g := H.cp (by omega)
  refine zs_aload_n (j := 1) (i := 1) (f := 7) (q := 0) zL_879 rfl rfl ?_
  refine zs_arg (j := 1) zL_880 zL_881 zL_882 zL_883 zL_884 rfl (by decide) hi hL ?_
  refine zs_arg (j := 2) zL_885 zL_886 zL_887 zL_888 zL_889 rfl (by decide) hi hL ?_
  refine zs_arg (j := 3) zL_890 zL_891 zL_892 zL_893 zL_894 rfl (by decide) hi hL ?_
  refine zs_callV (host := "") zL_895 kLaw_136 vX7_tape (c_X7_tape ((sx xs (i + 1))) ((sx xs (i + 2))) ((sx xs (i + 3)))) [ZI (sx xs (i + 1)), ZI (sx xs (i + 2)), ZI (sx xs (i + 3))] [] rfl (zroomL (by decide)) rfl (Nat.le_of_ble_eq_true rfl) ⟨rfl, trivial⟩ (fun r7 g7 hq7 => ?_)
  obtain ⟨hr7, hz7⟩ := hq7
  subst hr7
  subst hz7
  show ZVV _ _ _ 898 _ [ZI ((cTape g ((sx xs (i + 1))) ((sx xs (i + 2))) ((sx xs (i + 3)))).1)] _
  refine zs_aload_n (j := 2) (i := 2) (f := 8) (q := 0) zL_898 rfl rfl ?_
  refine zs_arg (j := 1) zL_899 zL_900 zL_901 zL_902 zL_903 rfl (by decide) hi hL ?_
  refine zs_arg (j := 2) zL_904 zL_905 zL_906 zL_907 zL_908 rfl (by decide) hi hL ?_
  refine zs_arg (j := 3) zL_909 zL_910 zL_911 zL_912 zL_913 rfl (by decide) hi hL ?_
  refine zs_callV (host := "") zL_914 kLaw_139 vX8_tape (c_X8_tape ((sx xs (i + 1))) ((sx xs (i + 2))) ((sx xs (i + 3)))) [ZI (sx xs (i + 1)), ZI (sx xs (i + 2)), ZI (sx xs (i + 3))] [ZI ((cTape g ((sx xs (i + 1))) ((sx xs (i + 2))) ((sx xs (i + 3)))).1)] rfl (zroomL (by decide)) rfl (Nat.le_of_ble_eq_true rfl) ⟨rfl, trivial⟩ (fun r8 g8 hq8 => ?_)
  obtain ⟨hr8, hz8⟩ := hq8
  subst hr8
  subst hz8
  have E := M_tape H ((sx xs (i + 1))) ((sx xs (i + 2))) ((sx xs (i + 3)))
  exact zs_eqI 1092 E.1 zL_917 (by decide) (K _ E.2.1 (by rw [E.2.2]; omega))
theorem L_item (H : RR g) (hcl : g 1 0 8 ≤ 899999000) (hi : i + 6 ≤ L) (hL : L ≤ 3072) (K : LGO Y b L xs i g) : ZVV Y mLaw (cxL b L xs Y) 922 (LL i) [] g := by
  have HC : CP g := H.cp (by omega)
  refine zs_aload_n (j := 1) (i := 1) (f := 7) (q := 0) zL_922 rfl rfl ?_
  refine zs_arg (j := 1) zL_923 zL_924 zL_925 zL_926 zL_927 rfl (by decide) hi hL ?_
  refine zs_arg (j := 2) zL_928 zL_929 zL_930 zL_931 zL_932 rfl (by decide) hi hL ?_
  refine zs_arg (j := 3) zL_933 zL_934 zL_935 zL_936 zL_937 rfl (by decide) hi hL ?_
  refine zs_i2l zL_938 ?_
  refine zs_bipush zL_939 ⟨by decide, by decide⟩ ?_
  refine zs_lshl zL_941 ?_
  refine zs_arg (j := 4) zL_942 zL_943 zL_944 zL_945 zL_946 rfl (by decide) hi hL ?_
  refine zs_i2l zL_947 ?_
  refine zs_ldc2 (x := 4294967295) zL_948 rfl ?_
  refine zs_land zL_951 ?_
  refine zs_lor zL_952 ?_
  refine zs_callV (host := "") zL_953 kLaw_142 vX7_item (c_X7_item ((sx xs (i + 1))) ((sx xs (i + 2))) ((zlor (zlshl (sx xs (i + 3)) 32) (zland (sx xs (i + 4)) 4294967295)))) [ZI (sx xs (i + 1)), ZI (sx xs (i + 2)), ZJ (zlor (zlshl (sx xs (i + 3)) 32) (zland (sx xs (i + 4)) 4294967295))] [] rfl (zroomL (by decide)) rfl (Nat.le_of_ble_eq_true rfl) ⟨rfl, H.tp, trivial⟩ (fun r7 g7 hq7 => ?_)
  obtain ⟨hr7, hz7⟩ := hq7
  subst hr7
  subst hz7
  show ZVV _ _ _ 956 _ [ZI ((cItem g ((sx xs (i + 1))) ((sx xs (i + 2))) ((zlor (zlshl (sx xs (i + 3)) 32) (zland (sx xs (i + 4)) 4294967295)))).1)] _
  refine zs_aload_n (j := 2) (i := 2) (f := 8) (q := 0) zL_956 rfl rfl ?_
  refine zs_arg (j := 1) zL_957 zL_958 zL_959 zL_960 zL_961 rfl (by decide) hi hL ?_
  refine zs_arg (j := 2) zL_962 zL_963 zL_964 zL_965 zL_966 rfl (by decide) hi hL ?_
  refine zs_arg (j := 3) zL_967 zL_968 zL_969 zL_970 zL_971 rfl (by decide) hi hL ?_
  refine zs_i2l zL_972 ?_
  refine zs_bipush zL_973 ⟨by decide, by decide⟩ ?_
  refine zs_lshl zL_975 ?_
  refine zs_arg (j := 4) zL_976 zL_977 zL_978 zL_979 zL_980 rfl (by decide) hi hL ?_
  refine zs_i2l zL_981 ?_
  refine zs_ldc2 (x := 4294967295) zL_982 rfl ?_
  refine zs_land zL_985 ?_
  refine zs_lor zL_986 ?_
  refine zs_callV (host := "") zL_987 kLaw_146 vX8_item (c_X8_item ((sx xs (i + 1))) ((sx xs (i + 2))) ((zlor (zlshl (sx xs (i + 3)) 32) (zland (sx xs (i + 4)) 4294967295)))) [ZI (sx xs (i + 1)), ZI (sx xs (i + 2)), ZJ (zlor (zlshl (sx xs (i + 3)) 32) (zland (sx xs (i + 4)) 4294967295))] [ZI ((cItem g ((sx xs (i + 1))) ((sx xs (i + 2))) ((zlor (zlshl (sx xs (i + 3)) 32) (zland (sx xs (i + 4)) 4294967295)))).1)] rfl (zroomL (by decide)) rfl (Nat.le_of_ble_eq_true rfl) ⟨rfl, (by rw [K_item]; exact H.tm), trivial⟩ (fun r8 g8 hq8 => ?_)
  obtain ⟨hr8, hz8⟩ := hq8
  subst hr8
  subst hz8
  have E := M_item H ((sx xs (i + 1))) ((sx xs (i + 2))) ((zlor (zlshl (sx xs (i + 3)) 32) (zland (sx xs (i + 4)) 4294967295)))
  exact zs_eqI 1092 E.1 zL_990 (by decide) (K _ E.2.1 (by rw [E.2.2]; omega))
theorem L_read (H : RR g) (hcl : g 1 0 8 ≤ 899999000) (hi : i + 6 ≤ L) (hL : L ≤ 3072) (K : LGO Y b L xs i g) : ZVV Y mLaw (cxL b L xs Y) 995 (LL i) [] g := by
  have HC : CP g := H.cp (by omega)
  refine zs_aload_n (j := 1) (i := 1) (f := 7) (q := 0) zL_995 rfl rfl ?_
  refine zs_arg (j := 1) zL_996 zL_997 zL_998 zL_999 zL_1000 rfl (by decide) hi hL ?_
  refine zs_arg (j := 2) zL_1001 zL_1002 zL_1003 zL_1004 zL_1005 rfl (by decide) hi hL ?_
  refine zs_callV (host := "") zL_1006 kLaw_147 vX7_read (c_X7_read ((sx xs (i + 1))) ((sx xs (i + 2)))) [ZI (sx xs (i + 1)), ZI (sx xs (i + 2))] [] rfl (zroomL (by decide)) rfl (Nat.le_of_ble_eq_true rfl) ⟨rfl, H.tp, trivial⟩ (fun r7 g7 hq7 => ?_)
  obtain ⟨hr7, hz7⟩ := hq7
  subst hr7
  have B := (RC.rf g).br H
  have E := E_read B H ((sx xs (i + 1))) ((sx xs (i + 2)))
  rw [E.2.1] at hz7
  subst hz7
  show ZVV _ _ _ 1009 _ [ZJ ((cRead g7 ((sx xs (i + 1))) ((sx xs (i + 2)))).1)] _
  refine zs_aload_n (j := 2) (i := 2) (f := 8) (q := 0) zL_1009 rfl rfl ?_
  refine zs_arg (j := 1) zL_1010 zL_1011 zL_1012 zL_1013 zL_1014 rfl (by decide) hi hL ?_
  refine zs_arg (j := 2) zL_1015 zL_1016 zL_1017 zL_1018 zL_1019 rfl (by decide) hi hL ?_
  refine zs_callV (host := "") zL_1020 kLaw_150 vX8_read (c_X8_read ((sx xs (i + 1))) ((sx xs (i + 2)))) [ZI (sx xs (i + 1)), ZI (sx xs (i + 2))] [ZJ ((cRead g7 ((sx xs (i + 1))) ((sx xs (i + 2)))).1)] rfl (zroomL (by decide)) rfl (Nat.le_of_ble_eq_true rfl) ⟨rfl, H.tm, trivial⟩ (fun r8 g8 hq8 => ?_)
  obtain ⟨hr8, hz8⟩ := hq8
  subst hr8
  rw [E.2.2] at hz8
  subst hz8
  exact zs_eqJ 1092 E.1 zL_1023 zL_1024 (by decide) (K _ H (by omega))
theorem L_shift (H : RR g) (hcl : g 1 0 8 ≤ 899999000) (hi : i + 6 ≤ L) (hL : L ≤ 3072) (K : LGO Y b L xs i g) : ZVV Y mLaw (cxL b L xs Y) 1029 (LL i) [] g := by
  have HC : CP g := H.cp (by omega)
  refine zs_aload_n (j := 1) (i := 1) (f := 7) (q := 0) zL_1029 rfl rfl ?_
  refine zs_arg (j := 1) zL_1030 zL_1031 zL_1032 zL_1033 zL_1034 rfl (by decide) hi hL ?_
  refine zs_arg (j := 2) zL_1035 zL_1036 zL_1037 zL_1038 zL_1039 rfl (by decide) hi hL ?_
  refine zs_arg (j := 3) zL_1040 zL_1041 zL_1042 zL_1043 zL_1044 rfl (by decide) hi hL ?_
  refine zs_arg (j := 4) zL_1045 zL_1046 zL_1047 zL_1048 zL_1049 rfl (by decide) hi hL ?_
  refine zs_arg (j := 5) zL_1050 zL_1051 zL_1052 zL_1053 zL_1054 rfl (by decide) hi hL ?_
  refine zs_callV (host := "") zL_1055 kLaw_151 vX7_shift (c_X7_shift ((sx xs (i + 1))) ((sx xs (i + 2))) ((sx xs (i + 3))) ((sx xs (i + 4))) ((sx xs (i + 5)))) [ZI (sx xs (i + 1)), ZI (sx xs (i + 2)), ZI (sx xs (i + 3)), ZI (sx xs (i + 4)), ZI (sx xs (i + 5))] [] rfl (zroomL (by decide)) rfl (Nat.le_of_ble_eq_true rfl) ⟨rfl, H.tp, trivial⟩ (fun r7 g7 hq7 => ?_)
  obtain ⟨hr7, hz7⟩ := hq7
  subst hr7
  subst hz7
  show ZVV _ _ _ 1058 _ [ZI ((cShift g ((sx xs (i + 1))) ((sx xs (i + 2))) ((sx xs (i + 3))) ((sx xs (i + 4))) ((sx xs (i + 5)))).1)] _
  refine zs_aload_n (j := 2) (i := 2) (f := 8) (q := 0) zL_1058 rfl rfl ?_
  refine zs_arg (j := 1) zL_1059 zL_1060 zL_1061 zL_1062 zL_1063 rfl (by decide) hi hL ?_
  refine zs_arg (j := 2) zL_1064 zL_1065 zL_1066 zL_1067 zL_1068 rfl (by decide) hi hL ?_
  refine zs_arg (j := 3) zL_1069 zL_1070 zL_1071 zL_1072 zL_1073 rfl (by decide) hi hL ?_
  refine zs_arg (j := 4) zL_1074 zL_1075 zL_1076 zL_1077 zL_1078 rfl (by decide) hi hL ?_
  refine zs_arg (j := 5) zL_1079 zL_1080 zL_1081 zL_1082 zL_1083 rfl (by decide) hi hL ?_
  refine zs_callV (host := "") zL_1084 kLaw_155 vX8_shift (c_X8_shift ((sx xs (i + 1))) ((sx xs (i + 2))) ((sx xs (i + 3))) ((sx xs (i + 4))) ((sx xs (i + 5)))) [ZI (sx xs (i + 1)), ZI (sx xs (i + 2)), ZI (sx xs (i + 3)), ZI (sx xs (i + 4)), ZI (sx xs (i + 5))] [ZI ((cShift g ((sx xs (i + 1))) ((sx xs (i + 2))) ((sx xs (i + 3))) ((sx xs (i + 4))) ((sx xs (i + 5)))).1)] rfl (zroomL (by decide)) rfl (Nat.le_of_ble_eq_true rfl) ⟨rfl, (by rw [K_shift]; exact H.tm), trivial⟩ (fun r8 g8 hq8 => ?_)
  obtain ⟨hr8, hz8⟩ := hq8
  subst hr8
  subst hz8
  have E := M_shift H ((sx xs (i + 1))) ((sx xs (i + 2))) ((sx xs (i + 3))) ((sx xs (i + 4))) ((sx xs (i + 5)))
  exact zs_eqI 1092 E.1 zL_1087 (by decide) (K _ E.2.1 (by rw [E.2.2]; omega))
end LAWC
