/-! THE LAW: a case of its switch each -/
def lwL (X : Xx) (o b j : Nat) : List (Option Value) := [some (.ref b), some (.ref (xa X 0)), some (.ref (xa X 82)), some (.ref o), some (.int (nI (6 * j))), none, none, none]
theorem lgc_self {x : Int64} : lg_cmp x x = 0 := by
  unfold lg_cmp
  simp
theorem lc_cave {X : Xx} {o : Nat} {cL : ClassId} {b L : Nat} {xs1 : Nat → Int32} {Q : State → Prop} {kc ks : Nat} {s : St} {A : Ab} {f : Nat → Int64} {j : Nat} (K : Lok X o cL b L xs1) (hj : 6 * j + 6 ≤ L) (hk : kc + 1 ≤ 601024 ∧ ks + 6 ≤ 7293034) (hR : RR s A) (next : ∀ (s2 : St) (A2 : Ab) (f2 : Nat → Int64), RR s2 A2 → LV X o cL Q (kc + 1) (ks + 6) s2 f2 1600 (lwL X o b j) []) : LV X o cL Q kc ks s f 220 (lwL X o b j) [] := by
  refine l_aload_n K d_law_220 rfl ?_
  refine l_arg K (j := j) (k := 1) (by omega) rfl rfl d_law_221 d_law_222 d_law_224 d_law_225 d_law_226 ?_
  refine l_call (As := [.int (xs1 (6 * j + 1))]) (rest := []) (p := 0) K (m_Brt_cave (xg X) K.1.2.2.2.2.2.2.1 (xs1 (6 * j + 1)) s _ (e_cave hR _)) cw_Brt_cave ml_Law_21 rfl (by decide) (by decide) rfl rfl rfl ⟨rfl, rfl, Nat.le_of_ble_eq_true rfl, Nat.le_of_ble_eq_true rfl⟩ ⟨by omega, by omega⟩ rfl (Nat.le_of_ble_eq_true rfl) d_law_227 ?_
  rintro _ s1 ⟨r, rfl, hw⟩
  show LV X o cL Q kc ks s1 f 230 (lwL X o b j) [.int r]
  refine l_aload_n K d_law_230 rfl ?_
  refine l_arg K (j := j) (k := 1) (by omega) rfl rfl d_law_231 d_law_232 d_law_234 d_law_235 d_law_236 ?_
  refine l_call (As := [.int (xs1 (6 * j + 1))]) (rest := [.int r]) (p := 82) K (m_Mod_cave (xg X) K.1.2.2.2.2.2.2.1 (xs1 (6 * j + 1)) s1 _ hw) cw_Mod_cave ml_Law_25 rfl (by decide) (by decide) rfl rfl rfl ⟨rfl, rfl, Nat.le_of_ble_eq_true rfl, Nat.le_of_ble_eq_true rfl⟩ ⟨by omega, by omega⟩ rfl (Nat.le_of_ble_eq_true rfl) d_law_237 ?_
  rintro _ s2 ⟨r', rfl, hw⟩
  show LV X o cL Q kc ks s2 f 240 (lwL X o b j) [.int r', .int r]
  obtain ⟨rfl, A', hR'⟩ := hw
  exact l_icmp_eq (tgt := 1600) K d_law_240 (by decide) (fun _ => l_widen (Nat.le_succ _) (Nat.le_add_right _ _) (next _ _ f hR')) (fun c => absurd rfl c)
theorem lc_yard {X : Xx} {o : Nat} {cL : ClassId} {b L : Nat} {xs1 : Nat → Int32} {Q : State → Prop} {kc ks : Nat} {s : St} {A : Ab} {f : Nat → Int64} {j : Nat} (K : Lok X o cL b L xs1) (hj : 6 * j + 6 ≤ L) (hk : kc + 1 ≤ 601024 ∧ ks + 6 ≤ 7293034) (hR : RR s A) (next : ∀ (s2 : St) (A2 : Ab) (f2 : Nat → Int64), RR s2 A2 → LV X o cL Q (kc + 1) (ks + 6) s2 f2 1600 (lwL X o b j) []) : LV X o cL Q kc ks s f 245 (lwL X o b j) [] := by
  refine l_aload_n K d_law_245 rfl ?_
  refine l_arg K (j := j) (k := 1) (by omega) rfl rfl d_law_246 d_law_247 d_law_249 d_law_250 d_law_251 ?_
  refine l_arg K (j := j) (k := 2) (by omega) rfl rfl d_law_252 d_law_253 d_law_255 d_law_256 d_law_257 ?_
  refine l_call (As := [.int (xs1 (6 * j + 1)), .int (xs1 (6 * j + 2))]) (rest := []) (p := 0) K (m_Brt_yard (xg X) K.1.2.2.2.2.2.2.1 (xs1 (6 * j + 1)) (xs1 (6 * j + 2)) s _ (e_yard hR _ _)) cw_Brt_yard ml_Law_26 rfl (by decide) (by decide) rfl rfl rfl ⟨rfl, rfl, Nat.le_of_ble_eq_true rfl, Nat.le_of_ble_eq_true rfl⟩ ⟨by omega, by omega⟩ rfl (Nat.le_of_ble_eq_true rfl) d_law_258 ?_
  rintro _ _ ⟨r, rfl, rfl, hw⟩
  show LV X o cL Q kc ks s f 261 (lwL X o b j) [.int r]
  refine l_aload_n K d_law_261 rfl ?_
  refine l_arg K (j := j) (k := 1) (by omega) rfl rfl d_law_262 d_law_263 d_law_265 d_law_266 d_law_267 ?_
  refine l_arg K (j := j) (k := 2) (by omega) rfl rfl d_law_268 d_law_269 d_law_271 d_law_272 d_law_273 ?_
  refine l_call (As := [.int (xs1 (6 * j + 1)), .int (xs1 (6 * j + 2))]) (rest := [.int r]) (p := 82) K (m_Mod_yard (xg X) K.1.2.2.2.2.2.2.1 (xs1 (6 * j + 1)) (xs1 (6 * j + 2)) s _ hw) cw_Mod_yard ml_Law_30 rfl (by decide) (by decide) rfl rfl rfl ⟨rfl, rfl, Nat.le_of_ble_eq_true rfl, Nat.le_of_ble_eq_true rfl⟩ ⟨by omega, by omega⟩ rfl (Nat.le_of_ble_eq_true rfl) d_law_274 ?_
  rintro _ _ ⟨r', rfl, rfl, hw⟩
  show LV X o cL Q kc ks s f 277 (lwL X o b j) [.int r', .int r]
  obtain rfl := hw
  have hR' := hR
  exact l_icmp_eq (tgt := 1600) K d_law_277 (by decide) (fun _ => l_widen (Nat.le_succ _) (Nat.le_add_right _ _) (next _ _ f hR')) (fun c => absurd rfl c)
theorem lc_body {X : Xx} {o : Nat} {cL : ClassId} {b L : Nat} {xs1 : Nat → Int32} {Q : State → Prop} {kc ks : Nat} {s : St} {A : Ab} {f : Nat → Int64} {j : Nat} (K : Lok X o cL b L xs1) (hj : 6 * j + 6 ≤ L) (hk : kc + 1 ≤ 601024 ∧ ks + 6 ≤ 7293034) (hR : RR s A) (next : ∀ (s2 : St) (A2 : Ab) (f2 : Nat → Int64), RR s2 A2 → LV X o cL Q (kc + 1) (ks + 6) s2 f2 1600 (lwL X o b j) []) : LV X o cL Q kc ks s f 282 (lwL X o b j) [] := by
  refine l_aload_n K d_law_282 rfl ?_
  refine l_arg K (j := j) (k := 1) (by omega) rfl rfl d_law_283 d_law_284 d_law_286 d_law_287 d_law_288 ?_
  refine l_arg K (j := j) (k := 2) (by omega) rfl rfl d_law_289 d_law_290 d_law_292 d_law_293 d_law_294 ?_
  refine l_call (As := [.int (xs1 (6 * j + 1)), .int (xs1 (6 * j + 2))]) (rest := []) (p := 0) K (m_Brt_body (xg X) K.1.2.2.2.2.2.2.1 (xs1 (6 * j + 1)) (xs1 (6 * j + 2)) s _ (e_body hR _ _)) cw_Brt_body ml_Law_31 rfl (by decide) (by decide) rfl rfl rfl ⟨rfl, rfl, Nat.le_of_ble_eq_true rfl, Nat.le_of_ble_eq_true rfl⟩ ⟨by omega, by omega⟩ rfl (Nat.le_of_ble_eq_true rfl) d_law_295 ?_
  rintro _ _ ⟨r, rfl, rfl, hw⟩
  show LV X o cL Q kc ks s f 298 (lwL X o b j) [.int r]
  refine l_aload_n K d_law_298 rfl ?_
  refine l_arg K (j := j) (k := 1) (by omega) rfl rfl d_law_299 d_law_300 d_law_302 d_law_303 d_law_304 ?_
  refine l_arg K (j := j) (k := 2) (by omega) rfl rfl d_law_305 d_law_306 d_law_308 d_law_309 d_law_310 ?_
  refine l_call (As := [.int (xs1 (6 * j + 1)), .int (xs1 (6 * j + 2))]) (rest := [.int r]) (p := 82) K (m_Mod_body (xg X) K.1.2.2.2.2.2.2.1 (xs1 (6 * j + 1)) (xs1 (6 * j + 2)) s _ hw) cw_Mod_body ml_Law_34 rfl (by decide) (by decide) rfl rfl rfl ⟨rfl, rfl, Nat.le_of_ble_eq_true rfl, Nat.le_of_ble_eq_true rfl⟩ ⟨by omega, by omega⟩ rfl (Nat.le_of_ble_eq_true rfl) d_law_311 ?_
  rintro _ _ ⟨r', rfl, rfl, hw⟩
  show LV X o cL Q kc ks s f 314 (lwL X o b j) [.int r', .int r]
  obtain rfl := hw
  have hR' := hR
  exact l_icmp_eq (tgt := 1600) K d_law_314 (by decide) (fun _ => l_widen (Nat.le_succ _) (Nat.le_add_right _ _) (next _ _ f hR')) (fun c => absurd rfl c)
theorem lc_lays {X : Xx} {o : Nat} {cL : ClassId} {b L : Nat} {xs1 : Nat → Int32} {Q : State → Prop} {kc ks : Nat} {s : St} {A : Ab} {f : Nat → Int64} {j : Nat} (K : Lok X o cL b L xs1) (hj : 6 * j + 6 ≤ L) (hk : kc + 1 ≤ 601024 ∧ ks + 6 ≤ 7293034) (hR : RR s A) (next : ∀ (s2 : St) (A2 : Ab) (f2 : Nat → Int64), RR s2 A2 → LV X o cL Q (kc + 1) (ks + 6) s2 f2 1600 (lwL X o b j) []) : LV X o cL Q kc ks s f 319 (lwL X o b j) [] := by
  refine l_aload_n K d_law_319 rfl ?_
  refine l_arg K (j := j) (k := 1) (by omega) rfl rfl d_law_320 d_law_321 d_law_323 d_law_324 d_law_325 ?_
  refine l_arg K (j := j) (k := 2) (by omega) rfl rfl d_law_326 d_law_327 d_law_329 d_law_330 d_law_331 ?_
  refine l_call (As := [.int (xs1 (6 * j + 1)), .int (xs1 (6 * j + 2))]) (rest := []) (p := 0) K (m_Brt_lays (xg X) K.1.2.2.2.2.2.2.1 (xs1 (6 * j + 1)) (xs1 (6 * j + 2)) s _ (e_lays hR _ _)) cw_Brt_lays ml_Law_35 rfl (by decide) (by decide) rfl rfl rfl ⟨rfl, rfl, Nat.le_of_ble_eq_true rfl, Nat.le_of_ble_eq_true rfl⟩ ⟨by omega, by omega⟩ rfl (Nat.le_of_ble_eq_true rfl) d_law_332 ?_
  rintro _ s1 ⟨r, rfl, hw⟩
  show LV X o cL Q kc ks s1 f 335 (lwL X o b j) [.int r]
  refine l_aload_n K d_law_335 rfl ?_
  refine l_arg K (j := j) (k := 1) (by omega) rfl rfl d_law_336 d_law_337 d_law_339 d_law_340 d_law_341 ?_
  refine l_arg K (j := j) (k := 2) (by omega) rfl rfl d_law_342 d_law_343 d_law_345 d_law_346 d_law_347 ?_
  refine l_call (As := [.int (xs1 (6 * j + 1)), .int (xs1 (6 * j + 2))]) (rest := [.int r]) (p := 82) K (m_Mod_lays (xg X) K.1.2.2.2.2.2.2.1 (xs1 (6 * j + 1)) (xs1 (6 * j + 2)) s1 _ hw) cw_Mod_lays ml_Law_38 rfl (by decide) (by decide) rfl rfl rfl ⟨rfl, rfl, Nat.le_of_ble_eq_true rfl, Nat.le_of_ble_eq_true rfl⟩ ⟨by omega, by omega⟩ rfl (Nat.le_of_ble_eq_true rfl) d_law_348 ?_
  rintro _ s2 ⟨r', rfl, hw⟩
  show LV X o cL Q kc ks s2 f 351 (lwL X o b j) [.int r', .int r]
  obtain ⟨rfl, A', hR'⟩ := hw
  exact l_icmp_eq (tgt := 1600) K d_law_351 (by decide) (fun _ => l_widen (Nat.le_succ _) (Nat.le_add_right _ _) (next _ _ f hR')) (fun c => absurd rfl c)
theorem lc_shorter {X : Xx} {o : Nat} {cL : ClassId} {b L : Nat} {xs1 : Nat → Int32} {Q : State → Prop} {kc ks : Nat} {s : St} {A : Ab} {f : Nat → Int64} {j : Nat} (K : Lok X o cL b L xs1) (hj : 6 * j + 6 ≤ L) (hk : kc + 1 ≤ 601024 ∧ ks + 6 ≤ 7293034) (hR : RR s A) (next : ∀ (s2 : St) (A2 : Ab) (f2 : Nat → Int64), RR s2 A2 → LV X o cL Q (kc + 1) (ks + 6) s2 f2 1600 (lwL X o b j) []) : LV X o cL Q kc ks s f 356 (lwL X o b j) [] := by
  refine l_aload_n K d_law_356 rfl ?_
  refine l_call (As := []) (rest := []) (p := 0) K (m_Brt_shorter (xg X) K.1.2.2.2.2.2.2.1 s _ (e_shorter hR)) cw_Brt_shorter ml_Law_39 rfl (by decide) (by decide) rfl rfl rfl ⟨rfl, rfl, Nat.le_of_ble_eq_true rfl, Nat.le_of_ble_eq_true rfl⟩ ⟨by omega, by omega⟩ rfl (Nat.le_of_ble_eq_true rfl) d_law_357 ?_
  rintro _ s1 ⟨r, rfl, hw⟩
  show LV X o cL Q kc ks s1 f 360 (lwL X o b j) [.int r]
  refine l_aload_n K d_law_360 rfl ?_
  refine l_call (As := []) (rest := [.int r]) (p := 82) K (m_Mod_shorter (xg X) K.1.2.2.2.2.2.2.1 s1 _ hw) cw_Mod_shorter ml_Law_43 rfl (by decide) (by decide) rfl rfl rfl ⟨rfl, rfl, Nat.le_of_ble_eq_true rfl, Nat.le_of_ble_eq_true rfl⟩ ⟨by omega, by omega⟩ rfl (Nat.le_of_ble_eq_true rfl) d_law_361 ?_
  rintro _ s2 ⟨r', rfl, hw⟩
  show LV X o cL Q kc ks s2 f 364 (lwL X o b j) [.int r', .int r]
  obtain ⟨rfl, A', hR'⟩ := hw
  exact l_icmp_eq (tgt := 1600) K d_law_364 (by decide) (fun _ => l_widen (Nat.le_succ _) (Nat.le_add_right _ _) (next _ _ f hR')) (fun c => absurd rfl c)
theorem lc_makes {X : Xx} {o : Nat} {cL : ClassId} {b L : Nat} {xs1 : Nat → Int32} {Q : State → Prop} {kc ks : Nat} {s : St} {A : Ab} {f : Nat → Int64} {j : Nat} (K : Lok X o cL b L xs1) (hj : 6 * j + 6 ≤ L) (hk : kc + 1 ≤ 601024 ∧ ks + 6 ≤ 7293034) (hR : RR s A) (next : ∀ (s2 : St) (A2 : Ab) (f2 : Nat → Int64), RR s2 A2 → LV X o cL Q (kc + 1) (ks + 6) s2 f2 1600 (lwL X o b j) []) : LV X o cL Q kc ks s f 369 (lwL X o b j) [] := by
  refine l_aload_n K d_law_369 rfl ?_
  refine l_arg K (j := j) (k := 1) (by omega) rfl rfl d_law_370 d_law_371 d_law_373 d_law_374 d_law_375 ?_
  refine l_arg K (j := j) (k := 2) (by omega) rfl rfl d_law_376 d_law_377 d_law_379 d_law_380 d_law_381 ?_
  refine l_arg K (j := j) (k := 3) (by omega) rfl rfl d_law_382 d_law_383 d_law_385 d_law_386 d_law_387 ?_
  refine l_call (As := [.int (xs1 (6 * j + 1)), .int (xs1 (6 * j + 2)), .int (xs1 (6 * j + 3))]) (rest := []) (p := 0) K (m_Brt_makes (xg X) K.1.2.2.2.2.2.2.1 (xs1 (6 * j + 1)) (xs1 (6 * j + 2)) (xs1 (6 * j + 3)) s _ (e_makes hR _ _ _)) cw_Brt_makes ml_Law_44 rfl (by decide) (by decide) rfl rfl rfl ⟨rfl, rfl, Nat.le_of_ble_eq_true rfl, Nat.le_of_ble_eq_true rfl⟩ ⟨by omega, by omega⟩ rfl (Nat.le_of_ble_eq_true rfl) d_law_388 ?_
  rintro _ s1 ⟨r, rfl, hw⟩
  show LV X o cL Q kc ks s1 f 391 (lwL X o b j) [.int r]
  refine l_aload_n K d_law_391 rfl ?_
  refine l_arg K (j := j) (k := 1) (by omega) rfl rfl d_law_392 d_law_393 d_law_395 d_law_396 d_law_397 ?_
  refine l_arg K (j := j) (k := 2) (by omega) rfl rfl d_law_398 d_law_399 d_law_401 d_law_402 d_law_403 ?_
  refine l_arg K (j := j) (k := 3) (by omega) rfl rfl d_law_404 d_law_405 d_law_407 d_law_408 d_law_409 ?_
  refine l_call (As := [.int (xs1 (6 * j + 1)), .int (xs1 (6 * j + 2)), .int (xs1 (6 * j + 3))]) (rest := [.int r]) (p := 82) K (m_Mod_makes (xg X) K.1.2.2.2.2.2.2.1 (xs1 (6 * j + 1)) (xs1 (6 * j + 2)) (xs1 (6 * j + 3)) s1 _ hw) cw_Mod_makes ml_Law_48 rfl (by decide) (by decide) rfl rfl rfl ⟨rfl, rfl, Nat.le_of_ble_eq_true rfl, Nat.le_of_ble_eq_true rfl⟩ ⟨by omega, by omega⟩ rfl (Nat.le_of_ble_eq_true rfl) d_law_410 ?_
  rintro _ s2 ⟨r', rfl, hw⟩
  show LV X o cL Q kc ks s2 f 413 (lwL X o b j) [.int r', .int r]
  obtain ⟨rfl, A', hR'⟩ := hw
  exact l_icmp_eq (tgt := 1600) K d_law_413 (by decide) (fun _ => l_widen (Nat.le_succ _) (Nat.le_add_right _ _) (next _ _ f hR')) (fun c => absurd rfl c)
theorem lc_change {X : Xx} {o : Nat} {cL : ClassId} {b L : Nat} {xs1 : Nat → Int32} {Q : State → Prop} {kc ks : Nat} {s : St} {A : Ab} {f : Nat → Int64} {j : Nat} (K : Lok X o cL b L xs1) (hj : 6 * j + 6 ≤ L) (hk : kc + 1 ≤ 601024 ∧ ks + 6 ≤ 7293034) (hR : RR s A) (next : ∀ (s2 : St) (A2 : Ab) (f2 : Nat → Int64), RR s2 A2 → LV X o cL Q (kc + 1) (ks + 6) s2 f2 1600 (lwL X o b j) []) : LV X o cL Q kc ks s f 418 (lwL X o b j) [] := by
  refine l_aload_n K d_law_418 rfl ?_
  refine l_arg K (j := j) (k := 1) (by omega) rfl rfl d_law_419 d_law_420 d_law_422 d_law_423 d_law_424 ?_
  refine l_arg K (j := j) (k := 2) (by omega) rfl rfl d_law_425 d_law_426 d_law_428 d_law_429 d_law_430 ?_
  refine l_call (As := [.int (xs1 (6 * j + 1)), .int (xs1 (6 * j + 2))]) (rest := []) (p := 0) K (m_Brt_change (xg X) K.1.2.2.2.2.2.2.1 (xs1 (6 * j + 1)) (xs1 (6 * j + 2)) s _ (e_change hR _ _)) cw_Brt_change ml_Law_49 rfl (by decide) (by decide) rfl rfl rfl ⟨rfl, rfl, Nat.le_of_ble_eq_true rfl, Nat.le_of_ble_eq_true rfl⟩ ⟨by omega, by omega⟩ rfl (Nat.le_of_ble_eq_true rfl) d_law_431 ?_
  rintro _ s1 ⟨r, rfl, hw⟩
  show LV X o cL Q kc ks s1 f 434 (lwL X o b j) [.int r]
  refine l_aload_n K d_law_434 rfl ?_
  refine l_arg K (j := j) (k := 1) (by omega) rfl rfl d_law_435 d_law_436 d_law_438 d_law_439 d_law_440 ?_
  refine l_arg K (j := j) (k := 2) (by omega) rfl rfl d_law_441 d_law_442 d_law_444 d_law_445 d_law_446 ?_
  refine l_call (As := [.int (xs1 (6 * j + 1)), .int (xs1 (6 * j + 2))]) (rest := [.int r]) (p := 82) K (m_Mod_change (xg X) K.1.2.2.2.2.2.2.1 (xs1 (6 * j + 1)) (xs1 (6 * j + 2)) s1 _ hw) cw_Mod_change ml_Law_52 rfl (by decide) (by decide) rfl rfl rfl ⟨rfl, rfl, Nat.le_of_ble_eq_true rfl, Nat.le_of_ble_eq_true rfl⟩ ⟨by omega, by omega⟩ rfl (Nat.le_of_ble_eq_true rfl) d_law_447 ?_
  rintro _ s2 ⟨r', rfl, hw⟩
  show LV X o cL Q kc ks s2 f 450 (lwL X o b j) [.int r', .int r]
  obtain ⟨rfl, A', hR'⟩ := hw
  exact l_icmp_eq (tgt := 1600) K d_law_450 (by decide) (fun _ => l_widen (Nat.le_succ _) (Nat.le_add_right _ _) (next _ _ f hR')) (fun c => absurd rfl c)
