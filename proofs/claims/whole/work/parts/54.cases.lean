/-! THE LAW, case by case -/
/-- what holds while the law runs -/
def LC (G : jG) (b L : Nat) (xs : Nat → Int32) (S : jX) : Prop := jLaw G b L xs ∧ L ≤ 2048 ∧ jTop S ∧ jModel S 120
abbrev LJ (G : jG) (nm : String) (pc i : Nat) (st : List Value) (S : jX) (I : jI) : Prop := J G dLaw (mLaw nm) pc (lsLaw i) st S I 125 2040
section JM
variable {G : jG} {nm : String} {b L i : Nat} {xs : Nat → Int32} {S : jX} {I : jI}
theorem L_arg {pc c : Nat} {z : Int} {st : List Value} (hC : LC G b L xs S) (hi : i + c < L) (d0 : decode cL_law pc = .ok (.aload_n 0, 1)) (d1 : decode cL_law (pc + 1) = .ok (.iload_n 3, 1)) (d2 : decode cL_law (pc + 2) = .ok (.iconst z, 1)) (hz : Int32.ofInt z = nI c) (d3 : decode cL_law (pc + 3) = .ok (.iadd, 1)) (d4 : decode cL_law (pc + 4) = .ok (.iaload, 1)) (h : LJ G nm (pc + 5) i (.int (xs (i + c)) :: st) S I) : LJ G nm pc i st S I := by
  have hL := hC.2.1
  refine J_aload_n (v := .retAddr 1) d0 rfl rfl ?_
  refine J_iload_n (x := nI i) d1 rfl ?_
  refine J_iconst (nI c) d2 hz ?_
  refine J_iadd d3 ?_
  rw [nI_add]
  refine J_xld hC.1 (vp_in_nI (by omega) (by omega)) d4 ?_
  rw [nI_clamp (by omega)]
  exact h
set_option maxRecDepth 10000 in
theorem lc_boiler (hC : LC G b L xs S) (hI : Inv I) (hi : i + 4 ≤ L) (hn : ∀ I', Inv I' → LJ G nm 840 i [] S I') : LJ G nm 152 i [] S I := by
  obtain ⟨m, m4, hS, h2⟩ := d_boiler hI (xs (i + 1))
  refine J_aload_n (v := .ref 0) dL_law_152 rfl rfl ?_
  refine L_arg (pc := 153) (c := 1) hC (by omega) dL_law_153 dL_law_154 dL_law_155 rfl dL_law_156 dL_law_157 ?_
  refine J_cV1r (mc := mX6_boiler) (rest := []) hC.2.2.1.1 (by decide) rfl dL_law_158 mlL_13 okX6_boiler (kX6_boiler S I (xs (i + 1)) m hC.2.2.1 hI.1.hinv hS) (Nat.le_of_ble_eq_true rfl) (Nat.le_of_ble_eq_true rfl) (Nat.le_of_ble_eq_true rfl) (Nat.le_of_ble_eq_true rfl) ?_
  refine J_aload_n (v := .ref 120) dL_law_161 rfl rfl ?_
  refine L_arg (pc := 162) (c := 1) hC (by omega) dL_law_162 dL_law_163 dL_law_164 rfl dL_law_165 dL_law_166 ?_
  refine J_cV1r (mc := mX7_boiler) hC.2.2.2.1 (by decide) rfl dL_law_167 mlL_17 okX7_boiler (kX7_boiler S (fX6_boiler I (xs (i + 1)) m).2 120 (xs (i + 1)) hC.2.2.2 (h2.mi hI) (h2.st hI)) (Nat.le_of_ble_eq_true rfl) (Nat.le_of_ble_eq_true rfl) (Nat.le_of_ble_eq_true rfl) (Nat.le_of_ble_eq_true rfl) ?_
  exact J_icmp_eq (tgt := 840) dL_law_170 (by decide) (fun _ => hn _ h2.2.2) (fun h => absurd h2.2.1 h)
set_option maxRecDepth 10000 in
theorem lc_inspector (hC : LC G b L xs S) (hI : Inv I) (hi : i + 4 ≤ L) (hn : ∀ I', Inv I' → LJ G nm 840 i [] S I') : LJ G nm 175 i [] S I := by
  obtain ⟨m, m4, hS, h2⟩ := d_inspector hI (xs (i + 1)) (xs (i + 2))
  refine J_aload_n (v := .ref 0) dL_law_175 rfl rfl ?_
  refine L_arg (pc := 176) (c := 1) hC (by omega) dL_law_176 dL_law_177 dL_law_178 rfl dL_law_179 dL_law_180 ?_
  refine L_arg (pc := 181) (c := 2) hC (by omega) dL_law_181 dL_law_182 dL_law_183 rfl dL_law_184 dL_law_185 ?_
  refine J_cV2r (mc := mX6_inspector) (rest := []) hC.2.2.1.1 (by decide) rfl dL_law_186 mlL_18 okX6_inspector (kX6_inspector S I (xs (i + 1)) (xs (i + 2)) m hC.2.2.1 hI.1.hinv hS) (Nat.le_of_ble_eq_true rfl) (Nat.le_of_ble_eq_true rfl) (Nat.le_of_ble_eq_true rfl) (Nat.le_of_ble_eq_true rfl) ?_
  refine J_aload_n (v := .ref 120) dL_law_189 rfl rfl ?_
  refine L_arg (pc := 190) (c := 1) hC (by omega) dL_law_190 dL_law_191 dL_law_192 rfl dL_law_193 dL_law_194 ?_
  refine L_arg (pc := 195) (c := 2) hC (by omega) dL_law_195 dL_law_196 dL_law_197 rfl dL_law_198 dL_law_199 ?_
  refine J_cV2r (mc := mX7_inspector) hC.2.2.2.1 (by decide) rfl dL_law_200 mlL_22 okX7_inspector (kX7_inspector S (fX6_inspector I (xs (i + 1)) (xs (i + 2)) m).2 120 (xs (i + 1)) (xs (i + 2)) hC.2.2.2 (h2.mi hI) (h2.st hI)) (Nat.le_of_ble_eq_true rfl) (Nat.le_of_ble_eq_true rfl) (Nat.le_of_ble_eq_true rfl) (Nat.le_of_ble_eq_true rfl) ?_
  exact J_icmp_eq (tgt := 840) dL_law_203 (by decide) (fun _ => hn _ h2.2.2) (fun h => absurd h2.2.1 h)
set_option maxRecDepth 10000 in
theorem lc_press (hC : LC G b L xs S) (hI : Inv I) (hi : i + 4 ≤ L) (hn : ∀ I', Inv I' → LJ G nm 840 i [] S I') : LJ G nm 208 i [] S I := by
  obtain ⟨m, m4, hS, h2⟩ := d_press hI (xs (i + 1)) (xs (i + 2))
  refine J_aload_n (v := .ref 0) dL_law_208 rfl rfl ?_
  refine L_arg (pc := 209) (c := 1) hC (by omega) dL_law_209 dL_law_210 dL_law_211 rfl dL_law_212 dL_law_213 ?_
  refine L_arg (pc := 214) (c := 2) hC (by omega) dL_law_214 dL_law_215 dL_law_216 rfl dL_law_217 dL_law_218 ?_
  refine J_cV2r (mc := mX6_press) (rest := []) hC.2.2.1.1 (by decide) rfl dL_law_219 mlL_23 okX6_press (kX6_press S I (xs (i + 1)) (xs (i + 2)) m hC.2.2.1 hI.1.hinv hS) (Nat.le_of_ble_eq_true rfl) (Nat.le_of_ble_eq_true rfl) (Nat.le_of_ble_eq_true rfl) (Nat.le_of_ble_eq_true rfl) ?_
  refine J_aload_n (v := .ref 120) dL_law_222 rfl rfl ?_
  refine L_arg (pc := 223) (c := 1) hC (by omega) dL_law_223 dL_law_224 dL_law_225 rfl dL_law_226 dL_law_227 ?_
  refine L_arg (pc := 228) (c := 2) hC (by omega) dL_law_228 dL_law_229 dL_law_230 rfl dL_law_231 dL_law_232 ?_
  refine J_cV2r (mc := mX7_press) hC.2.2.2.1 (by decide) rfl dL_law_233 mlL_26 okX7_press (kX7_press S (fX6_press I (xs (i + 1)) (xs (i + 2)) m).2 120 (xs (i + 1)) (xs (i + 2)) hC.2.2.2 (h2.mi hI) (h2.st hI)) (Nat.le_of_ble_eq_true rfl) (Nat.le_of_ble_eq_true rfl) (Nat.le_of_ble_eq_true rfl) (Nat.le_of_ble_eq_true rfl) ?_
  exact J_icmp_eq (tgt := 840) dL_law_236 (by decide) (fun _ => hn _ h2.2.2) (fun h => absurd h2.2.1 h)
set_option maxRecDepth 10000 in
theorem lc_inspect (hC : LC G b L xs S) (hI : Inv I) (hi : i + 4 ≤ L) (hn : ∀ I', Inv I' → LJ G nm 840 i [] S I') : LJ G nm 241 i [] S I := by
  obtain ⟨m, m4, hS, h2⟩ := d_inspect hI (xs (i + 1)) (xs (i + 2))
  refine J_aload_n (v := .ref 0) dL_law_241 rfl rfl ?_
  refine L_arg (pc := 242) (c := 1) hC (by omega) dL_law_242 dL_law_243 dL_law_244 rfl dL_law_245 dL_law_246 ?_
  refine L_arg (pc := 247) (c := 2) hC (by omega) dL_law_247 dL_law_248 dL_law_249 rfl dL_law_250 dL_law_251 ?_
  refine J_cV2r (mc := mX6_inspect) (rest := []) hC.2.2.1.1 (by decide) rfl dL_law_252 mlL_27 okX6_inspect (kX6_inspect S I (xs (i + 1)) (xs (i + 2)) m hC.2.2.1 hI.1.hinv hS) (Nat.le_of_ble_eq_true rfl) (Nat.le_of_ble_eq_true rfl) (Nat.le_of_ble_eq_true rfl) (Nat.le_of_ble_eq_true rfl) ?_
  refine J_aload_n (v := .ref 120) dL_law_255 rfl rfl ?_
  refine L_arg (pc := 256) (c := 1) hC (by omega) dL_law_256 dL_law_257 dL_law_258 rfl dL_law_259 dL_law_260 ?_
  refine L_arg (pc := 261) (c := 2) hC (by omega) dL_law_261 dL_law_262 dL_law_263 rfl dL_law_264 dL_law_265 ?_
  refine J_cV2r (mc := mX7_inspect) hC.2.2.2.1 (by decide) rfl dL_law_266 mlL_30 okX7_inspect (kX7_inspect S (fX6_inspect I (xs (i + 1)) (xs (i + 2)) m).2 120 (xs (i + 1)) (xs (i + 2)) hC.2.2.2 (h2.mi hI) (h2.st hI)) (Nat.le_of_ble_eq_true rfl) (Nat.le_of_ble_eq_true rfl) (Nat.le_of_ble_eq_true rfl) (Nat.le_of_ble_eq_true rfl) ?_
  exact J_icmp_eq (tgt := 840) dL_law_269 (by decide) (fun _ => hn _ h2.2.2) (fun h => absurd h2.2.1 h)
set_option maxRecDepth 10000 in
theorem lc_fire (hC : LC G b L xs S) (hI : Inv I) (hi : i + 4 ≤ L) (hn : ∀ I', Inv I' → LJ G nm 840 i [] S I') : LJ G nm 274 i [] S I := by
  obtain ⟨m, m4, hS, h2⟩ := d_fire hI (xs (i + 1))
  refine J_aload_n (v := .ref 0) dL_law_274 rfl rfl ?_
  refine L_arg (pc := 275) (c := 1) hC (by omega) dL_law_275 dL_law_276 dL_law_277 rfl dL_law_278 dL_law_279 ?_
  refine J_cV1r (mc := mX6_fire) (rest := []) hC.2.2.1.1 (by decide) rfl dL_law_280 mlL_31 okX6_fire (kX6_fire S I (xs (i + 1)) m hC.2.2.1 hI.1.hinv hS) (Nat.le_of_ble_eq_true rfl) (Nat.le_of_ble_eq_true rfl) (Nat.le_of_ble_eq_true rfl) (Nat.le_of_ble_eq_true rfl) ?_
  refine J_aload_n (v := .ref 120) dL_law_283 rfl rfl ?_
  refine L_arg (pc := 284) (c := 1) hC (by omega) dL_law_284 dL_law_285 dL_law_286 rfl dL_law_287 dL_law_288 ?_
  refine J_cV1r (mc := mX7_fire) hC.2.2.2.1 (by decide) rfl dL_law_289 mlL_34 okX7_fire (kX7_fire S (fX6_fire I (xs (i + 1)) m).2 120 (xs (i + 1)) hC.2.2.2 (h2.mi hI) (h2.st hI)) (Nat.le_of_ble_eq_true rfl) (Nat.le_of_ble_eq_true rfl) (Nat.le_of_ble_eq_true rfl) (Nat.le_of_ble_eq_true rfl) ?_
  exact J_icmp_eq (tgt := 840) dL_law_292 (by decide) (fun _ => hn _ h2.2.2) (fun h => absurd h2.2.1 h)
set_option maxRecDepth 10000 in
theorem lc_out (hC : LC G b L xs S) (hI : Inv I) (hi : i + 4 ≤ L) (hn : ∀ I', Inv I' → LJ G nm 840 i [] S I') : LJ G nm 297 i [] S I := by
  obtain ⟨m, m4, hS, h2⟩ := d_out hI (xs (i + 1))
  refine J_aload_n (v := .ref 0) dL_law_297 rfl rfl ?_
  refine L_arg (pc := 298) (c := 1) hC (by omega) dL_law_298 dL_law_299 dL_law_300 rfl dL_law_301 dL_law_302 ?_
  refine J_cV1r (mc := mX6_out) (rest := []) hC.2.2.1.1 (by decide) rfl dL_law_303 mlL_35 okX6_out (kX6_out S I (xs (i + 1)) m hC.2.2.1 hI.1.hinv hS) (Nat.le_of_ble_eq_true rfl) (Nat.le_of_ble_eq_true rfl) (Nat.le_of_ble_eq_true rfl) (Nat.le_of_ble_eq_true rfl) ?_
  refine J_aload_n (v := .ref 120) dL_law_306 rfl rfl ?_
  refine L_arg (pc := 307) (c := 1) hC (by omega) dL_law_307 dL_law_308 dL_law_309 rfl dL_law_310 dL_law_311 ?_
  refine J_cV1r (mc := mX7_out) hC.2.2.2.1 (by decide) rfl dL_law_312 mlL_38 okX7_out (kX7_out S (fX6_out I (xs (i + 1)) m).2 120 (xs (i + 1)) hC.2.2.2 (h2.mi hI) (h2.st hI)) (Nat.le_of_ble_eq_true rfl) (Nat.le_of_ble_eq_true rfl) (Nat.le_of_ble_eq_true rfl) (Nat.le_of_ble_eq_true rfl) ?_
  exact J_icmp_eq (tgt := 840) dL_law_315 (by decide) (fun _ => hn _ h2.2.2) (fun h => absurd h2.2.1 h)
set_option maxRecDepth 10000 in
theorem lc_plan (hC : LC G b L xs S) (hI : Inv I) (hi : i + 4 ≤ L) (hn : ∀ I', Inv I' → LJ G nm 840 i [] S I') : LJ G nm 320 i [] S I := by
  obtain ⟨m, m4, hS, h2⟩ := d_plan hI (xs (i + 1)) (xs (i + 2)) (xs (i + 3))
  refine J_aload_n (v := .ref 0) dL_law_320 rfl rfl ?_
  refine L_arg (pc := 321) (c := 1) hC (by omega) dL_law_321 dL_law_322 dL_law_323 rfl dL_law_324 dL_law_325 ?_
  refine L_arg (pc := 326) (c := 2) hC (by omega) dL_law_326 dL_law_327 dL_law_328 rfl dL_law_329 dL_law_330 ?_
  refine L_arg (pc := 331) (c := 3) hC (by omega) dL_law_331 dL_law_332 dL_law_333 rfl dL_law_334 dL_law_335 ?_
  refine J_cV3r (mc := mX6_plan) (rest := []) hC.2.2.1.1 (by decide) rfl dL_law_336 mlL_39 okX6_plan (kX6_plan S I (xs (i + 1)) (xs (i + 2)) (xs (i + 3)) m hC.2.2.1 hI.1.hinv hS) (Nat.le_of_ble_eq_true rfl) (Nat.le_of_ble_eq_true rfl) (Nat.le_of_ble_eq_true rfl) (Nat.le_of_ble_eq_true rfl) ?_
  refine J_aload_n (v := .ref 120) dL_law_339 rfl rfl ?_
  refine L_arg (pc := 340) (c := 1) hC (by omega) dL_law_340 dL_law_341 dL_law_342 rfl dL_law_343 dL_law_344 ?_
  refine L_arg (pc := 345) (c := 2) hC (by omega) dL_law_345 dL_law_346 dL_law_347 rfl dL_law_348 dL_law_349 ?_
  refine L_arg (pc := 350) (c := 3) hC (by omega) dL_law_350 dL_law_351 dL_law_352 rfl dL_law_353 dL_law_354 ?_
  refine J_cV3r (mc := mX7_plan) hC.2.2.2.1 (by decide) rfl dL_law_355 mlL_43 okX7_plan (kX7_plan S (fX6_plan I (xs (i + 1)) (xs (i + 2)) (xs (i + 3)) m).2 120 (xs (i + 1)) (xs (i + 2)) (xs (i + 3)) hC.2.2.2 (h2.mi hI) (h2.st hI)) (Nat.le_of_ble_eq_true rfl) (Nat.le_of_ble_eq_true rfl) (Nat.le_of_ble_eq_true rfl) (Nat.le_of_ble_eq_true rfl) ?_
  exact J_icmp_eq (tgt := 840) dL_law_358 (by decide) (fun _ => hn _ h2.2.2) (fun h => absurd h2.2.1 h)
set_option maxRecDepth 10000 in
theorem lc_repair (hC : LC G b L xs S) (hI : Inv I) (hi : i + 4 ≤ L) (hn : ∀ I', Inv I' → LJ G nm 840 i [] S I') : LJ G nm 363 i [] S I := by
  obtain ⟨m, m4, hS, h2⟩ := d_repair hI (xs (i + 1))
  refine J_aload_n (v := .ref 0) dL_law_363 rfl rfl ?_
  refine L_arg (pc := 364) (c := 1) hC (by omega) dL_law_364 dL_law_365 dL_law_366 rfl dL_law_367 dL_law_368 ?_
  refine J_cV1r (mc := mX6_repair) (rest := []) hC.2.2.1.1 (by decide) rfl dL_law_369 mlL_44 okX6_repair (kX6_repair S I (xs (i + 1)) m hC.2.2.1 hI.1.hinv hS) (Nat.le_of_ble_eq_true rfl) (Nat.le_of_ble_eq_true rfl) (Nat.le_of_ble_eq_true rfl) (Nat.le_of_ble_eq_true rfl) ?_
  refine J_aload_n (v := .ref 120) dL_law_372 rfl rfl ?_
  refine L_arg (pc := 373) (c := 1) hC (by omega) dL_law_373 dL_law_374 dL_law_375 rfl dL_law_376 dL_law_377 ?_
  refine J_cV1r (mc := mX7_repair) hC.2.2.2.1 (by decide) rfl dL_law_378 mlL_47 okX7_repair (kX7_repair S (fX6_repair I (xs (i + 1)) m).2 120 (xs (i + 1)) hC.2.2.2 (h2.mi hI) (h2.st hI)) (Nat.le_of_ble_eq_true rfl) (Nat.le_of_ble_eq_true rfl) (Nat.le_of_ble_eq_true rfl) (Nat.le_of_ble_eq_true rfl) ?_
  exact J_icmp_eq (tgt := 840) dL_law_381 (by decide) (fun _ => hn _ h2.2.2) (fun h => absurd h2.2.1 h)
set_option maxRecDepth 10000 in
theorem lc_pass (hC : LC G b L xs S) (hI : Inv I) (hi : i + 4 ≤ L) (hn : ∀ I', Inv I' → LJ G nm 840 i [] S I') : LJ G nm 386 i [] S I := by
  obtain ⟨m, m4, hS, h2⟩ := d_pass hI (xs (i + 1))
  refine J_aload_n (v := .ref 0) dL_law_386 rfl rfl ?_
  refine L_arg (pc := 387) (c := 1) hC (by omega) dL_law_387 dL_law_388 dL_law_389 rfl dL_law_390 dL_law_391 ?_
  refine J_cV1r (mc := mX6_pass) (rest := []) hC.2.2.1.1 (by decide) rfl dL_law_392 mlL_48 okX6_pass (kX6_pass S I (xs (i + 1)) m hC.2.2.1 hI.1.hinv (cp_R (o := 20) (Or.inr (by omega)) hI.1).hinv hS) (Nat.le_of_ble_eq_true rfl) (Nat.le_of_ble_eq_true rfl) (Nat.le_of_ble_eq_true rfl) (Nat.le_of_ble_eq_true rfl) ?_
  refine J_aload_n (v := .ref 120) dL_law_395 rfl rfl ?_
  refine L_arg (pc := 396) (c := 1) hC (by omega) dL_law_396 dL_law_397 dL_law_398 rfl dL_law_399 dL_law_400 ?_
  refine J_cV1r (mc := mX7_pass) hC.2.2.2.1 (by decide) rfl dL_law_401 mlL_51 okX7_pass (kX7_pass S (fX6_pass I (xs (i + 1)) m).2 120 (xs (i + 1)) hC.2.2.2 (h2.mi hI) (h2.st hI)) (Nat.le_of_ble_eq_true rfl) (Nat.le_of_ble_eq_true rfl) (Nat.le_of_ble_eq_true rfl) (Nat.le_of_ble_eq_true rfl) ?_
  exact J_icmp_eq (tgt := 840) dL_law_404 (by decide) (fun _ => hn _ h2.2.2) (fun h => absurd h2.2.1 h)
set_option maxRecDepth 10000 in
theorem lc_set (hC : LC G b L xs S) (hI : Inv I) (hi : i + 4 ≤ L) (hn : ∀ I', Inv I' → LJ G nm 840 i [] S I') : LJ G nm 409 i [] S I := by
  obtain ⟨m, m4, hS, h2⟩ := d_set hI (xs (i + 1)) (xs (i + 2))
  refine J_aload_n (v := .ref 0) dL_law_409 rfl rfl ?_
  refine L_arg (pc := 410) (c := 1) hC (by omega) dL_law_410 dL_law_411 dL_law_412 rfl dL_law_413 dL_law_414 ?_
  refine L_arg (pc := 415) (c := 2) hC (by omega) dL_law_415 dL_law_416 dL_law_417 rfl dL_law_418 dL_law_419 ?_
  refine J_cV2r (mc := mX6_set) (rest := []) hC.2.2.1.1 (by decide) rfl dL_law_420 mlL_52 okX6_set (kX6_set S I (xs (i + 1)) (xs (i + 2)) m hC.2.2.1 hI.1.hinv hS) (Nat.le_of_ble_eq_true rfl) (Nat.le_of_ble_eq_true rfl) (Nat.le_of_ble_eq_true rfl) (Nat.le_of_ble_eq_true rfl) ?_
  refine J_aload_n (v := .ref 120) dL_law_423 rfl rfl ?_
  refine L_arg (pc := 424) (c := 1) hC (by omega) dL_law_424 dL_law_425 dL_law_426 rfl dL_law_427 dL_law_428 ?_
  refine L_arg (pc := 429) (c := 2) hC (by omega) dL_law_429 dL_law_430 dL_law_431 rfl dL_law_432 dL_law_433 ?_
  refine J_cV2r (mc := mX7_set) hC.2.2.2.1 (by decide) rfl dL_law_434 mlL_55 okX7_set (kX7_set S (fX6_set I (xs (i + 1)) (xs (i + 2)) m).2 120 (xs (i + 1)) (xs (i + 2)) hC.2.2.2 (h2.mi hI) (h2.st hI)) (Nat.le_of_ble_eq_true rfl) (Nat.le_of_ble_eq_true rfl) (Nat.le_of_ble_eq_true rfl) (Nat.le_of_ble_eq_true rfl) ?_
  exact J_icmp_eq (tgt := 840) dL_law_437 (by decide) (fun _ => hn _ h2.2.2) (fun h => absurd h2.2.1 h)
set_option maxRecDepth 10000 in
theorem lc_boilerOf (hC : LC G b L xs S) (hI : Inv I) (hi : i + 4 ≤ L) (hn : ∀ I', Inv I' → LJ G nm 840 i [] S I') : LJ G nm 442 i [] S I := by
  refine J_aload_n (v := .ref 0) dL_law_442 rfl rfl ?_
  refine L_arg (pc := 443) (c := 1) hC (by omega) dL_law_443 dL_law_444 dL_law_445 rfl dL_law_446 dL_law_447 ?_
  refine L_arg (pc := 448) (c := 2) hC (by omega) dL_law_448 dL_law_449 dL_law_450 rfl dL_law_451 dL_law_452 ?_
  refine J_cV2r (mc := mX6_boilerOf) (rest := []) hC.2.2.1.1 (by decide) rfl dL_law_453 mlL_56 okX6_boilerOf (kX6_boilerOf S I (xs (i + 1)) (xs (i + 2)) hC.2.2.1) (Nat.le_of_ble_eq_true rfl) (Nat.le_of_ble_eq_true rfl) (Nat.le_of_ble_eq_true rfl) (Nat.le_of_ble_eq_true rfl) ?_
  refine J_aload_n (v := .ref 120) dL_law_456 rfl rfl ?_
  refine L_arg (pc := 457) (c := 1) hC (by omega) dL_law_457 dL_law_458 dL_law_459 rfl dL_law_460 dL_law_461 ?_
  refine L_arg (pc := 462) (c := 2) hC (by omega) dL_law_462 dL_law_463 dL_law_464 rfl dL_law_465 dL_law_466 ?_
  refine J_cV2r (mc := mX7_boilerOf) hC.2.2.2.1 (by decide) rfl dL_law_467 mlL_59 okX7_boilerOf (kX7_boilerOf S I 120 (xs (i + 1)) (xs (i + 2)) hC.2.2.2 hI.mi) (Nat.le_of_ble_eq_true rfl) (Nat.le_of_ble_eq_true rfl) (Nat.le_of_ble_eq_true rfl) (Nat.le_of_ble_eq_true rfl) ?_
  exact J_icmp_eq (tgt := 840) dL_law_470 (by decide) (fun _ => hn _ hI) (fun h => absurd (r_boilerOf hI (xs (i + 1)) (xs (i + 2))) h)
set_option maxRecDepth 10000 in
theorem lc_paperOf (hC : LC G b L xs S) (hI : Inv I) (hi : i + 4 ≤ L) (hn : ∀ I', Inv I' → LJ G nm 840 i [] S I') : LJ G nm 475 i [] S I := by
  refine J_aload_n (v := .ref 0) dL_law_475 rfl rfl ?_
  refine L_arg (pc := 476) (c := 1) hC (by omega) dL_law_476 dL_law_477 dL_law_478 rfl dL_law_479 dL_law_480 ?_
  refine L_arg (pc := 481) (c := 2) hC (by omega) dL_law_481 dL_law_482 dL_law_483 rfl dL_law_484 dL_law_485 ?_
  refine J_cV2r (mc := mX6_paperOf) (rest := []) hC.2.2.1.1 (by decide) rfl dL_law_486 mlL_60 okX6_paperOf (kX6_paperOf S I (xs (i + 1)) (xs (i + 2)) hC.2.2.1) (Nat.le_of_ble_eq_true rfl) (Nat.le_of_ble_eq_true rfl) (Nat.le_of_ble_eq_true rfl) (Nat.le_of_ble_eq_true rfl) ?_
  refine J_aload_n (v := .ref 120) dL_law_489 rfl rfl ?_
  refine L_arg (pc := 490) (c := 1) hC (by omega) dL_law_490 dL_law_491 dL_law_492 rfl dL_law_493 dL_law_494 ?_
  refine L_arg (pc := 495) (c := 2) hC (by omega) dL_law_495 dL_law_496 dL_law_497 rfl dL_law_498 dL_law_499 ?_
  refine J_cV2r (mc := mX7_paperOf) hC.2.2.2.1 (by decide) rfl dL_law_500 mlL_63 okX7_paperOf (kX7_paperOf S I 120 (xs (i + 1)) (xs (i + 2)) hC.2.2.2 hI.mi) (Nat.le_of_ble_eq_true rfl) (Nat.le_of_ble_eq_true rfl) (Nat.le_of_ble_eq_true rfl) (Nat.le_of_ble_eq_true rfl) ?_
  exact J_icmp_eq (tgt := 840) dL_law_503 (by decide) (fun _ => hn _ hI) (fun h => absurd (r_paperOf hI (xs (i + 1)) (xs (i + 2))) h)
set_option maxRecDepth 10000 in
theorem lc_inspectorOf (hC : LC G b L xs S) (hI : Inv I) (hi : i + 4 ≤ L) (hn : ∀ I', Inv I' → LJ G nm 840 i [] S I') : LJ G nm 508 i [] S I := by
  refine J_aload_n (v := .ref 0) dL_law_508 rfl rfl ?_
  refine L_arg (pc := 509) (c := 1) hC (by omega) dL_law_509 dL_law_510 dL_law_511 rfl dL_law_512 dL_law_513 ?_
  refine L_arg (pc := 514) (c := 2) hC (by omega) dL_law_514 dL_law_515 dL_law_516 rfl dL_law_517 dL_law_518 ?_
  refine J_cV2r (mc := mX6_inspectorOf) (rest := []) hC.2.2.1.1 (by decide) rfl dL_law_519 mlL_64 okX6_inspectorOf (kX6_inspectorOf S I (xs (i + 1)) (xs (i + 2)) hC.2.2.1) (Nat.le_of_ble_eq_true rfl) (Nat.le_of_ble_eq_true rfl) (Nat.le_of_ble_eq_true rfl) (Nat.le_of_ble_eq_true rfl) ?_
  refine J_aload_n (v := .ref 120) dL_law_522 rfl rfl ?_
  refine L_arg (pc := 523) (c := 1) hC (by omega) dL_law_523 dL_law_524 dL_law_525 rfl dL_law_526 dL_law_527 ?_
  refine L_arg (pc := 528) (c := 2) hC (by omega) dL_law_528 dL_law_529 dL_law_530 rfl dL_law_531 dL_law_532 ?_
  refine J_cV2r (mc := mX7_inspectorOf) hC.2.2.2.1 (by decide) rfl dL_law_533 mlL_67 okX7_inspectorOf (kX7_inspectorOf S I 120 (xs (i + 1)) (xs (i + 2)) hC.2.2.2 hI.mi) (Nat.le_of_ble_eq_true rfl) (Nat.le_of_ble_eq_true rfl) (Nat.le_of_ble_eq_true rfl) (Nat.le_of_ble_eq_true rfl) ?_
  exact J_icmp_eq (tgt := 840) dL_law_536 (by decide) (fun _ => hn _ hI) (fun h => absurd (r_inspectorOf hI (xs (i + 1)) (xs (i + 2))) h)
set_option maxRecDepth 10000 in
theorem lc_why (hC : LC G b L xs S) (hI : Inv I) (hi : i + 4 ≤ L) (hn : ∀ I', Inv I' → LJ G nm 840 i [] S I') : LJ G nm 541 i [] S I := by
  refine J_aload_n (v := .ref 0) dL_law_541 rfl rfl ?_
  refine L_arg (pc := 542) (c := 1) hC (by omega) dL_law_542 dL_law_543 dL_law_544 rfl dL_law_545 dL_law_546 ?_
  refine L_arg (pc := 547) (c := 2) hC (by omega) dL_law_547 dL_law_548 dL_law_549 rfl dL_law_550 dL_law_551 ?_
  refine J_cV2r (mc := mX6_why) (rest := []) hC.2.2.1.1 (by decide) rfl dL_law_552 mlL_68 okX6_why (kX6_why S I (xs (i + 1)) (xs (i + 2)) hC.2.2.1) (Nat.le_of_ble_eq_true rfl) (Nat.le_of_ble_eq_true rfl) (Nat.le_of_ble_eq_true rfl) (Nat.le_of_ble_eq_true rfl) ?_
  refine J_aload_n (v := .ref 120) dL_law_555 rfl rfl ?_
  refine L_arg (pc := 556) (c := 1) hC (by omega) dL_law_556 dL_law_557 dL_law_558 rfl dL_law_559 dL_law_560 ?_
  refine L_arg (pc := 561) (c := 2) hC (by omega) dL_law_561 dL_law_562 dL_law_563 rfl dL_law_564 dL_law_565 ?_
  refine J_cV2r (mc := mX7_why) hC.2.2.2.1 (by decide) rfl dL_law_566 mlL_71 okX7_why (kX7_why S I 120 (xs (i + 1)) (xs (i + 2)) hC.2.2.2 hI.mi) (Nat.le_of_ble_eq_true rfl) (Nat.le_of_ble_eq_true rfl) (Nat.le_of_ble_eq_true rfl) (Nat.le_of_ble_eq_true rfl) ?_
  exact J_icmp_eq (tgt := 840) dL_law_569 (by decide) (fun _ => hn _ hI) (fun h => absurd (r_why hI (xs (i + 1)) (xs (i + 2))) h)
set_option maxRecDepth 10000 in
theorem lc_account (hC : LC G b L xs S) (hI : Inv I) (hi : i + 4 ≤ L) (hn : ∀ I', Inv I' → LJ G nm 840 i [] S I') : LJ G nm 574 i [] S I := by
  refine J_aload_n (v := .ref 0) dL_law_574 rfl rfl ?_
  refine L_arg (pc := 575) (c := 1) hC (by omega) dL_law_575 dL_law_576 dL_law_577 rfl dL_law_578 dL_law_579 ?_
  refine J_cV1r (mc := mX6_account) (rest := []) hC.2.2.1.1 (by decide) rfl dL_law_580 mlL_72 okX6_account (kX6_account S I (xs (i + 1)) hC.2.2.1) (Nat.le_of_ble_eq_true rfl) (Nat.le_of_ble_eq_true rfl) (Nat.le_of_ble_eq_true rfl) (Nat.le_of_ble_eq_true rfl) ?_
  refine J_aload_n (v := .ref 120) dL_law_583 rfl rfl ?_
  refine L_arg (pc := 584) (c := 1) hC (by omega) dL_law_584 dL_law_585 dL_law_586 rfl dL_law_587 dL_law_588 ?_
  refine J_cV1r (mc := mX7_account) hC.2.2.2.1 (by decide) rfl dL_law_589 mlL_75 okX7_account (kX7_account S I 120 (xs (i + 1)) hC.2.2.2 hI.mi) (Nat.le_of_ble_eq_true rfl) (Nat.le_of_ble_eq_true rfl) (Nat.le_of_ble_eq_true rfl) (Nat.le_of_ble_eq_true rfl) ?_
  exact J_icmp_eq (tgt := 840) dL_law_592 (by decide) (fun _ => hn _ hI) (fun h => absurd (r_account hI (xs (i + 1))) h)
set_option maxRecDepth 10000 in
theorem lc_would (hC : LC G b L xs S) (hI : Inv I) (hi : i + 4 ≤ L) (hn : ∀ I', Inv I' → LJ G nm 840 i [] S I') : LJ G nm 597 i [] S I := by
  refine J_aload_n (v := .ref 0) dL_law_597 rfl rfl ?_
  refine L_arg (pc := 598) (c := 1) hC (by omega) dL_law_598 dL_law_599 dL_law_600 rfl dL_law_601 dL_law_602 ?_
  refine L_arg (pc := 603) (c := 2) hC (by omega) dL_law_603 dL_law_604 dL_law_605 rfl dL_law_606 dL_law_607 ?_
  refine L_arg (pc := 608) (c := 3) hC (by omega) dL_law_608 dL_law_609 dL_law_610 rfl dL_law_611 dL_law_612 ?_
  refine J_cV3r (mc := mX6_would) (rest := []) hC.2.2.1.1 (by decide) rfl dL_law_613 mlL_76 okX6_would (kX6_would S I (xs (i + 1)) (xs (i + 2)) (xs (i + 3)) hC.2.2.1) (Nat.le_of_ble_eq_true rfl) (Nat.le_of_ble_eq_true rfl) (Nat.le_of_ble_eq_true rfl) (Nat.le_of_ble_eq_true rfl) ?_
  refine J_aload_n (v := .ref 120) dL_law_616 rfl rfl ?_
  refine L_arg (pc := 617) (c := 1) hC (by omega) dL_law_617 dL_law_618 dL_law_619 rfl dL_law_620 dL_law_621 ?_
  refine L_arg (pc := 622) (c := 2) hC (by omega) dL_law_622 dL_law_623 dL_law_624 rfl dL_law_625 dL_law_626 ?_
  refine L_arg (pc := 627) (c := 3) hC (by omega) dL_law_627 dL_law_628 dL_law_629 rfl dL_law_630 dL_law_631 ?_
  refine J_cV3r (mc := mX7_would) hC.2.2.2.1 (by decide) rfl dL_law_632 mlL_79 okX7_would (kX7_would S I 120 (xs (i + 1)) (xs (i + 2)) (xs (i + 3)) hC.2.2.2 hI.mi) (Nat.le_of_ble_eq_true rfl) (Nat.le_of_ble_eq_true rfl) (Nat.le_of_ble_eq_true rfl) (Nat.le_of_ble_eq_true rfl) ?_
  exact J_icmp_eq (tgt := 840) dL_law_635 (by decide) (fun _ => hn _ hI) (fun h => absurd (r_would hI (xs (i + 1)) (xs (i + 2)) (xs (i + 3))) h)
set_option maxRecDepth 10000 in
theorem lc_better (hC : LC G b L xs S) (hI : Inv I) (hi : i + 4 ≤ L) (hn : ∀ I', Inv I' → LJ G nm 840 i [] S I') : LJ G nm 640 i [] S I := by
  refine J_aload_n (v := .ref 0) dL_law_640 rfl rfl ?_
  refine L_arg (pc := 641) (c := 1) hC (by omega) dL_law_641 dL_law_642 dL_law_643 rfl dL_law_644 dL_law_645 ?_
  refine J_cV1r (mc := mX6_better) (rest := []) hC.2.2.1.1 (by decide) rfl dL_law_646 mlL_80 okX6_better (kX6_better S I (xs (i + 1)) hC.2.2.1) (Nat.le_of_ble_eq_true rfl) (Nat.le_of_ble_eq_true rfl) (Nat.le_of_ble_eq_true rfl) (Nat.le_of_ble_eq_true rfl) ?_
  refine J_aload_n (v := .ref 120) dL_law_649 rfl rfl ?_
  refine L_arg (pc := 650) (c := 1) hC (by omega) dL_law_650 dL_law_651 dL_law_652 rfl dL_law_653 dL_law_654 ?_
  refine J_cV1r (mc := mX7_better) hC.2.2.2.1 (by decide) rfl dL_law_655 mlL_83 okX7_better (kX7_better S I 120 (xs (i + 1)) hC.2.2.2 hI.mi) (Nat.le_of_ble_eq_true rfl) (Nat.le_of_ble_eq_true rfl) (Nat.le_of_ble_eq_true rfl) (Nat.le_of_ble_eq_true rfl) ?_
  exact J_icmp_eq (tgt := 840) dL_law_658 (by decide) (fun _ => hn _ hI) (fun h => absurd (r_better hI (xs (i + 1))) h)
set_option maxRecDepth 10000 in
theorem lc_first (hC : LC G b L xs S) (hI : Inv I) (hi : i + 4 ≤ L) (hn : ∀ I', Inv I' → LJ G nm 840 i [] S I') : LJ G nm 663 i [] S I := by
  refine J_aload_n (v := .ref 0) dL_law_663 rfl rfl ?_
  refine L_arg (pc := 664) (c := 1) hC (by omega) dL_law_664 dL_law_665 dL_law_666 rfl dL_law_667 dL_law_668 ?_
  refine J_cV1r (mc := mX6_first) (rest := []) hC.2.2.1.1 (by decide) rfl dL_law_669 mlL_84 okX6_first (kX6_first S I (xs (i + 1)) hC.2.2.1 hI.1.hinv) (Nat.le_of_ble_eq_true rfl) (Nat.le_of_ble_eq_true rfl) (Nat.le_of_ble_eq_true rfl) (Nat.le_of_ble_eq_true rfl) ?_
  refine J_aload_n (v := .ref 120) dL_law_672 rfl rfl ?_
  refine L_arg (pc := 673) (c := 1) hC (by omega) dL_law_673 dL_law_674 dL_law_675 rfl dL_law_676 dL_law_677 ?_
  refine J_cV1r (mc := mX7_first) hC.2.2.2.1 (by decide) rfl dL_law_678 mlL_87 okX7_first (kX7_first S I 120 (xs (i + 1)) hC.2.2.2 hI.mi) (Nat.le_of_ble_eq_true rfl) (Nat.le_of_ble_eq_true rfl) (Nat.le_of_ble_eq_true rfl) (Nat.le_of_ble_eq_true rfl) ?_
  exact J_icmp_eq (tgt := 840) dL_law_681 (by decide) (fun _ => hn _ hI) (fun h => absurd (r_first hI (xs (i + 1))) h)
set_option maxRecDepth 10000 in
theorem lc_goesOn (hC : LC G b L xs S) (hI : Inv I) (hi : i + 4 ≤ L) (hn : ∀ I', Inv I' → LJ G nm 840 i [] S I') : LJ G nm 686 i [] S I := by
  refine J_aload_n (v := .ref 0) dL_law_686 rfl rfl ?_
  refine L_arg (pc := 687) (c := 1) hC (by omega) dL_law_687 dL_law_688 dL_law_689 rfl dL_law_690 dL_law_691 ?_
  refine J_cV1r (mc := mX6_goesOn) (rest := []) hC.2.2.1.1 (by decide) rfl dL_law_692 mlL_88 okX6_goesOn (kX6_goesOn S I (xs (i + 1)) hC.2.2.1) (Nat.le_of_ble_eq_true rfl) (Nat.le_of_ble_eq_true rfl) (Nat.le_of_ble_eq_true rfl) (Nat.le_of_ble_eq_true rfl) ?_
  refine J_aload_n (v := .ref 120) dL_law_695 rfl rfl ?_
  refine L_arg (pc := 696) (c := 1) hC (by omega) dL_law_696 dL_law_697 dL_law_698 rfl dL_law_699 dL_law_700 ?_
  refine J_cV1r (mc := mX7_goesOn) hC.2.2.2.1 (by decide) rfl dL_law_701 mlL_91 okX7_goesOn (kX7_goesOn S I 120 (xs (i + 1)) hC.2.2.2 hI.mi) (Nat.le_of_ble_eq_true rfl) (Nat.le_of_ble_eq_true rfl) (Nat.le_of_ble_eq_true rfl) (Nat.le_of_ble_eq_true rfl) ?_
  exact J_icmp_eq (tgt := 840) dL_law_704 (by decide) (fun _ => hn _ hI) (fun h => absurd (r_goesOn hI (xs (i + 1))) h)
set_option maxRecDepth 10000 in
theorem lc_share (hC : LC G b L xs S) (hI : Inv I) (hi : i + 4 ≤ L) (hn : ∀ I', Inv I' → LJ G nm 840 i [] S I') : LJ G nm 709 i [] S I := by
  obtain ⟨he, hs6, hs7⟩ := r_share hI (xs (i + 1))
  refine J_aload_n (v := .ref 0) dL_law_709 rfl rfl ?_
  refine L_arg (pc := 710) (c := 1) hC (by omega) dL_law_710 dL_law_711 dL_law_712 rfl dL_law_713 dL_law_714 ?_
  refine J_cV1r (mc := mX6_share) (rest := []) hC.2.2.1.1 (by decide) rfl dL_law_715 mlL_92 okX6_share (kX6_share S I (xs (i + 1)) hC.2.2.1 hs6) (Nat.le_of_ble_eq_true rfl) (Nat.le_of_ble_eq_true rfl) (Nat.le_of_ble_eq_true rfl) (Nat.le_of_ble_eq_true rfl) ?_
  refine J_aload_n (v := .ref 120) dL_law_718 rfl rfl ?_
  refine L_arg (pc := 719) (c := 1) hC (by omega) dL_law_719 dL_law_720 dL_law_721 rfl dL_law_722 dL_law_723 ?_
  refine J_cV1r (mc := mX7_share) hC.2.2.2.1 (by decide) rfl dL_law_724 mlL_95 okX7_share (kX7_share S I 120 (xs (i + 1)) hC.2.2.2 hI.mi hs7) (Nat.le_of_ble_eq_true rfl) (Nat.le_of_ble_eq_true rfl) (Nat.le_of_ble_eq_true rfl) (Nat.le_of_ble_eq_true rfl) ?_
  exact J_icmp_eq (tgt := 840) dL_law_727 (by decide) (fun _ => hn _ hI) (fun h => absurd he h)
set_option maxRecDepth 10000 in
theorem lc_count (hC : LC G b L xs S) (hI : Inv I) (hi : i + 4 ≤ L) (hn : ∀ I', Inv I' → LJ G nm 840 i [] S I') : LJ G nm 732 i [] S I := by
  refine J_aload_n (v := .ref 0) dL_law_732 rfl rfl ?_
  refine L_arg (pc := 733) (c := 1) hC (by omega) dL_law_733 dL_law_734 dL_law_735 rfl dL_law_736 dL_law_737 ?_
  refine J_cV1r (mc := mX6_count) (rest := []) hC.2.2.1.1 (by decide) rfl dL_law_738 mlL_96 okX6_count (kX6_count S I (xs (i + 1)) hC.2.2.1 hI.1.hinv) (Nat.le_of_ble_eq_true rfl) (Nat.le_of_ble_eq_true rfl) (Nat.le_of_ble_eq_true rfl) (Nat.le_of_ble_eq_true rfl) ?_
  refine J_aload_n (v := .ref 120) dL_law_741 rfl rfl ?_
  refine L_arg (pc := 742) (c := 1) hC (by omega) dL_law_742 dL_law_743 dL_law_744 rfl dL_law_745 dL_law_746 ?_
  refine J_cV1r (mc := mX7_count) hC.2.2.2.1 (by decide) rfl dL_law_747 mlL_99 okX7_count (kX7_count S I 120 (xs (i + 1)) hC.2.2.2 hI.mi) (Nat.le_of_ble_eq_true rfl) (Nat.le_of_ble_eq_true rfl) (Nat.le_of_ble_eq_true rfl) (Nat.le_of_ble_eq_true rfl) ?_
  exact J_icmp_eq (tgt := 840) dL_law_750 (by decide) (fun _ => hn _ hI) (fun h => absurd (r_count hI (xs (i + 1))) h)
set_option maxRecDepth 10000 in
theorem lc_undo (hC : LC G b L xs S) (hI : Inv I) (hi : i + 4 ≤ L) (hn : ∀ I', Inv I' → LJ G nm 840 i [] S I') : LJ G nm 755 i [] S I := by
  obtain ⟨k, k4, kh, kn, h2⟩ := c_undo hI
  refine J_aload_n (v := .ref 0) dL_law_755 rfl rfl ?_
  refine J_cV0r (mc := mX6_undo) (rest := []) hC.2.2.1.1 (by decide) rfl dL_law_756 mlL_100 okX6_undo (kX6_undo S I k hC.2.2.1 k4 kh kn) (Nat.le_of_ble_eq_true rfl) (Nat.le_of_ble_eq_true rfl) (Nat.le_of_ble_eq_true rfl) (Nat.le_of_ble_eq_true rfl) ?_
  refine J_aload_n (v := .ref 120) dL_law_759 rfl rfl ?_
  refine J_cV0r (mc := mX7_undo) hC.2.2.2.1 (by decide) rfl dL_law_760 mlL_104 okX7_undo (kX7_undo S (fX6_undo I k).2 120 hC.2.2.2 (h2.st hI)) (Nat.le_of_ble_eq_true rfl) (Nat.le_of_ble_eq_true rfl) (Nat.le_of_ble_eq_true rfl) (Nat.le_of_ble_eq_true rfl) ?_
  exact J_icmp_eq (tgt := 840) dL_law_763 (by decide) (fun _ => hn _ h2.2.2) (fun h => absurd h2.2.1 h)
set_option maxRecDepth 10000 in
theorem lc_type (hC : LC G b L xs S) (hI : Inv I) (hi : i + 4 ≤ L) (hn : ∀ I', Inv I' → LJ G nm 840 i [] S I') : LJ G nm 768 i [] S I := by
  have h2 := c_type hI (xs (i + 1))
  refine J_aload_n (v := .ref 0) dL_law_768 rfl rfl ?_
  refine L_arg (pc := 769) (c := 1) hC (by omega) dL_law_769 dL_law_770 dL_law_771 rfl dL_law_772 dL_law_773 ?_
  refine J_cV1r (mc := mX6_type) (rest := []) hC.2.2.1.1 (by decide) rfl dL_law_774 mlL_105 okX6_type (kX6_type S I (xs (i + 1)) hC.2.2.1) (Nat.le_of_ble_eq_true rfl) (Nat.le_of_ble_eq_true rfl) (Nat.le_of_ble_eq_true rfl) (Nat.le_of_ble_eq_true rfl) ?_
  refine J_aload_n (v := .ref 120) dL_law_777 rfl rfl ?_
  refine L_arg (pc := 778) (c := 1) hC (by omega) dL_law_778 dL_law_779 dL_law_780 rfl dL_law_781 dL_law_782 ?_
  refine J_cV1r (mc := mX7_type) hC.2.2.2.1 (by decide) rfl dL_law_783 mlL_108 okX7_type (kX7_type S (fX6_type I (xs (i + 1))).2 120 (xs (i + 1)) hC.2.2.2 (h2.tl hI)) (Nat.le_of_ble_eq_true rfl) (Nat.le_of_ble_eq_true rfl) (Nat.le_of_ble_eq_true rfl) (Nat.le_of_ble_eq_true rfl) ?_
  exact J_icmp_eq (tgt := 840) dL_law_786 (by decide) (fun _ => hn _ h2.2.2) (fun h => absurd h2.2.1 h)
set_option maxRecDepth 10000 in
theorem lc_clearText (hC : LC G b L xs S) (hI : Inv I) (hi : i + 4 ≤ L) (hn : ∀ I', Inv I' → LJ G nm 840 i [] S I') : LJ G nm 791 i [] S I := by
  have h2 := c_clearText hI
  refine J_aload_n (v := .ref 0) dL_law_791 rfl rfl ?_
  refine J_cV0r (mc := mX6_clearText) (rest := []) hC.2.2.1.1 (by decide) rfl dL_law_792 mlL_109 okX6_clearText (kX6_clearText S I hC.2.2.1) (Nat.le_of_ble_eq_true rfl) (Nat.le_of_ble_eq_true rfl) (Nat.le_of_ble_eq_true rfl) (Nat.le_of_ble_eq_true rfl) ?_
  refine J_aload_n (v := .ref 120) dL_law_795 rfl rfl ?_
  refine J_cV0r (mc := mX7_clearText) hC.2.2.2.1 (by decide) rfl dL_law_796 mlL_112 okX7_clearText (kX7_clearText S (fX6_clearText I).2 120 hC.2.2.2) (Nat.le_of_ble_eq_true rfl) (Nat.le_of_ble_eq_true rfl) (Nat.le_of_ble_eq_true rfl) (Nat.le_of_ble_eq_true rfl) ?_
  exact J_icmp_eq (tgt := 840) dL_law_799 (by decide) (fun _ => hn _ h2.2.2) (fun h => absurd h2.2.1 h)
set_option maxRecDepth 10000 in
theorem lc_fault (hC : LC G b L xs S) (hI : Inv I) (hi : i + 4 ≤ L) (hn : ∀ I', Inv I' → LJ G nm 840 i [] S I') : LJ G nm 804 i [] S I := by
  have h2 := c_fault hI (xs (i + 1))
  refine J_aload_n (v := .ref 0) dL_law_804 rfl rfl ?_
  refine L_arg (pc := 805) (c := 1) hC (by omega) dL_law_805 dL_law_806 dL_law_807 rfl dL_law_808 dL_law_809 ?_
  refine J_cV1r (mc := mX6_fault) (rest := []) hC.2.2.1.1 (by decide) rfl dL_law_810 mlL_113 okX6_fault (kX6_fault S I (xs (i + 1)) hC.2.2.1 hI.1.hinv (t_inv hI)) (Nat.le_of_ble_eq_true rfl) (Nat.le_of_ble_eq_true rfl) (Nat.le_of_ble_eq_true rfl) (Nat.le_of_ble_eq_true rfl) ?_
  refine J_aload_n (v := .ref 120) dL_law_813 rfl rfl ?_
  refine L_arg (pc := 814) (c := 1) hC (by omega) dL_law_814 dL_law_815 dL_law_816 rfl dL_law_817 dL_law_818 ?_
  refine J_cV1r (mc := mX7_fault) hC.2.2.2.1 (by decide) rfl dL_law_819 mlL_116 okX7_fault (kX7_fault S (fX6_fault I (xs (i + 1))).2 120 (xs (i + 1)) hC.2.2.2 (h2.mi hI) (h2.tl hI)) (Nat.le_of_ble_eq_true rfl) (Nat.le_of_ble_eq_true rfl) (Nat.le_of_ble_eq_true rfl) (Nat.le_of_ble_eq_true rfl) ?_
  exact J_icmp_eq (tgt := 840) dL_law_822 (by decide) (fun _ => hn _ h2.2.2) (fun h => absurd h2.2.1 h)
set_option maxRecDepth 10000 in
theorem lc_play (hC : LC G b L xs S) (hI : Inv I) (hi : i + 4 ≤ L) (hn : ∀ I', Inv I' → LJ G nm 840 i [] S I') : LJ G nm 827 i [] S I := by
  obtain ⟨m, m4, hS, h2⟩ := d_play hI
  refine J_aload_n (v := .ref 0) dL_law_827 rfl rfl ?_
  refine J_cV0r (mc := mX6_play) (rest := []) hC.2.2.1.1 (by decide) rfl dL_law_828 mlL_117 okX6_play (kX6_play S I m hC.2.2.1 hI.1.hinv (t_inv hI) hS) (Nat.le_of_ble_eq_true rfl) (Nat.le_of_ble_eq_true rfl) (Nat.le_of_ble_eq_true rfl) (Nat.le_of_ble_eq_true rfl) ?_
  refine J_aload_n (v := .ref 120) dL_law_831 rfl rfl ?_
  refine J_cV0r (mc := mX7_play) hC.2.2.2.1 (by decide) rfl dL_law_832 mlL_120 okX7_play (kX7_play S (fX6_play I m).2 120 hC.2.2.2 (h2.mi hI) (h2.st hI) (h2.tl hI)) (Nat.le_of_ble_eq_true rfl) (Nat.le_of_ble_eq_true rfl) (Nat.le_of_ble_eq_true rfl) (Nat.le_of_ble_eq_true rfl) ?_
  exact J_icmp_eq (tgt := 840) dL_law_835 (by decide) (fun _ => hn _ h2.2.2) (fun h => absurd h2.2.1 h)
end JM
