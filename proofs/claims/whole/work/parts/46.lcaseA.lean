/-! the calls of the script, one by one -/
set_option maxHeartbeats 4000000 in
set_option maxRecDepth 100000 in
theorem k_room {p : Program} {l : Launch} {e : Env} {s : State} {m : MethodId} {args : Array Value} {below : List Frame} {meth : Method} {c : Code} {Q : State → Prop} {x : Sh} {q b : Mem} {o : Out} {bA L t : Nat} {xs : Nat → Int32} (C : CX p l s m meth c x cL_law RL 9) (hfl : l.stackTraces = false) (hX : LX s x bA L xs t) (hJ : JJ q b t) (K : ∀ q' b' o', JJ q' b' (t + 1) → VV p l e room_1 s m args below meth c Q x 9 q' b' o' (89 + 5 * (t + 1)) (2808 + 30 * (t + 1)) 2355 [some (.ref bA), some (.ref (x.2.1 0)), some (.ref (x.2.1 70)), some (.ref (x.2.1 87)), some (.ref (x.2.1 88)), some (.int (nI (6 * t))), none, none, none] []) : VV p l e room_1 s m args below meth c Q x 9 q b o (89 + 5 * t) (2808 + 30 * t) 200 [some (.ref bA), some (.ref (x.2.1 0)), some (.ref (x.2.1 70)), some (.ref (x.2.1 87)), some (.ref (x.2.1 88)), some (.int (nI (6 * t))), none, none, none] [] := by
  have ht : t < 512 := by obtain ⟨_, _, _, h4, h5⟩ := hX; omega
  refine V_aload_n C dL_law_200 rfl ?_
  refine V_arg C hX 1 (by decide) (by decide) rfl rfl dL_law_201 dL_law_202 dL_law_204 dL_law_205 dL_law_206 ?_
  refine V_aload_n C dL_law_207 rfl ?_
  refine V_calll (R_L C (c_L_room hfl hJ.W) hw_L_room mk_L_129 rfl ⟨(by decide), (by decide)⟩ rfl (Nat.le_of_ble_eq_true rfl) ⟨(by show _ ≤ 603072; omega), (by show _ ≤ 7194729; omega)⟩ dL_law_208) (fun r a1 b1 o1 hF => ?_)
  obtain ⟨h1, rfl, h3, h4⟩ := hF
  refine V_istore_6 C dL_law_211 (by decide) ?_
  refine V_aload_n C dL_law_213 rfl ?_
  refine V_arg C hX 1 (by decide) (by decide) rfl rfl dL_law_214 dL_law_215 dL_law_217 dL_law_218 dL_law_219 ?_
  refine V_calli (R_V C (c_X4_room hfl hJ.W hJ.I hJ.R) mi_X4_room mk_L_134 rfl (by decide) rfl (rfl : vwCl[6]? = some (RX4, TX4, 24)) ⟨(by decide), (by decide)⟩ rfl (Nat.le_of_ble_eq_true rfl) ⟨(by show _ ≤ 603072; omega), (by show _ ≤ 7194729; omega)⟩ dL_law_220) (fun r7 a2 b2 hG => ?_)
  refine V_istore_7 C dL_law_223 (by decide) ?_
  exact V_tail C hfl (by decide) ⟨(by show _ ≤ 603072; omega), (by show _ ≤ 7194729; omega)⟩ ⟨h1, h3, fun z => (h4 z).1⟩ (RF.mm hJ (by simp [up2]) (fun h => (JJ_room hJ h).mo (Nat.le_succ t)) hG) rfl rfl rfl rfl rfl dL_law_225 dL_law_226 dL_law_229 dL_law_231 dL_law_236 dL_law_238 dL_law_241 dL_law_242 dL_law_243 dL_law_244 dL_law_246 dL_law_247 dL_law_248 dL_law_253 (off := 2102) (tgt := 2355) rfl (fun a3 b3 hj => V_widen (by omega) (by omega) (V_forget (lvLe.same (lvLe.same (lvLe.same (lvLe.same (lvLe.same (lvLe.same (lvLe.drop (lvLe.drop (lvLe.same lvLe.nil))))))))) (K a3 b3 o1 hj)))
set_option maxHeartbeats 4000000 in
set_option maxRecDepth 100000 in
theorem k_exam {p : Program} {l : Launch} {e : Env} {s : State} {m : MethodId} {args : Array Value} {below : List Frame} {meth : Method} {c : Code} {Q : State → Prop} {x : Sh} {q b : Mem} {o : Out} {bA L t : Nat} {xs : Nat → Int32} (C : CX p l s m meth c x cL_law RL 9) (hfl : l.stackTraces = false) (hX : LX s x bA L xs t) (hJ : JJ q b t) (K : ∀ q' b' o', JJ q' b' (t + 1) → VV p l e room_1 s m args below meth c Q x 9 q' b' o' (89 + 5 * (t + 1)) (2808 + 30 * (t + 1)) 2355 [some (.ref bA), some (.ref (x.2.1 0)), some (.ref (x.2.1 70)), some (.ref (x.2.1 87)), some (.ref (x.2.1 88)), some (.int (nI (6 * t))), none, none, none] []) : VV p l e room_1 s m args below meth c Q x 9 q b o (89 + 5 * t) (2808 + 30 * t) 256 [some (.ref bA), some (.ref (x.2.1 0)), some (.ref (x.2.1 70)), some (.ref (x.2.1 87)), some (.ref (x.2.1 88)), some (.int (nI (6 * t))), none, none, none] [] := by
  have ht : t < 512 := by obtain ⟨_, _, _, h4, h5⟩ := hX; omega
  refine V_aload_n C dL_law_256 rfl ?_
  refine V_aload_n C dL_law_257 rfl ?_
  refine V_calll (R_L C (c_L_exam hfl hJ.W) hw_L_exam mk_L_138 rfl ⟨(by decide), (by decide)⟩ rfl (Nat.le_of_ble_eq_true rfl) ⟨(by show _ ≤ 603072; omega), (by show _ ≤ 7194729; omega)⟩ dL_law_258) (fun r a1 b1 o1 hF => ?_)
  obtain ⟨h1, rfl, h3, h4⟩ := hF
  refine V_istore_6 C dL_law_261 (by decide) ?_
  refine V_aload_n C dL_law_263 rfl ?_
  refine V_calli (R_V C (c_X4_exam hfl hJ.W hJ.I hJ.R) mi_X4_exam mk_L_141 rfl (by decide) rfl (rfl : vwCl[6]? = some (RX4, TX4, 24)) ⟨(by decide), (by decide)⟩ rfl (Nat.le_of_ble_eq_true rfl) ⟨(by show _ ≤ 603072; omega), (by show _ ≤ 7194729; omega)⟩ dL_law_264) (fun r7 a2 b2 hG => ?_)
  refine V_istore_7 C dL_law_267 (by decide) ?_
  exact V_tail C hfl (by decide) ⟨(by show _ ≤ 603072; omega), (by show _ ≤ 7194729; omega)⟩ ⟨h1, h3, fun z => (h4 z).1⟩ (RF.mm hJ (by simp [up2]) (fun h => (JJ_exam hJ h).mo (Nat.le_succ t)) hG) rfl rfl rfl rfl rfl dL_law_269 dL_law_270 dL_law_273 dL_law_275 dL_law_280 dL_law_282 dL_law_285 dL_law_286 dL_law_287 dL_law_288 dL_law_290 dL_law_291 dL_law_292 dL_law_297 (off := 2058) (tgt := 2355) rfl (fun a3 b3 hj => V_widen (by omega) (by omega) (V_forget (lvLe.same (lvLe.same (lvLe.same (lvLe.same (lvLe.same (lvLe.same (lvLe.drop (lvLe.drop (lvLe.same lvLe.nil))))))))) (K a3 b3 o1 hj)))
set_option maxHeartbeats 4000000 in
set_option maxRecDepth 100000 in
theorem k_pupil {p : Program} {l : Launch} {e : Env} {s : State} {m : MethodId} {args : Array Value} {below : List Frame} {meth : Method} {c : Code} {Q : State → Prop} {x : Sh} {q b : Mem} {o : Out} {bA L t : Nat} {xs : Nat → Int32} (C : CX p l s m meth c x cL_law RL 9) (hfl : l.stackTraces = false) (hX : LX s x bA L xs t) (hJ : JJ q b t) (K : ∀ q' b' o', JJ q' b' (t + 1) → VV p l e room_1 s m args below meth c Q x 9 q' b' o' (89 + 5 * (t + 1)) (2808 + 30 * (t + 1)) 2355 [some (.ref bA), some (.ref (x.2.1 0)), some (.ref (x.2.1 70)), some (.ref (x.2.1 87)), some (.ref (x.2.1 88)), some (.int (nI (6 * t))), none, none, none] []) : VV p l e room_1 s m args below meth c Q x 9 q b o (89 + 5 * t) (2808 + 30 * t) 300 [some (.ref bA), some (.ref (x.2.1 0)), some (.ref (x.2.1 70)), some (.ref (x.2.1 87)), some (.ref (x.2.1 88)), some (.int (nI (6 * t))), none, none, none] [] := by
  have ht : t < 512 := by obtain ⟨_, _, _, h4, h5⟩ := hX; omega
  refine V_aload_n C dL_law_300 rfl ?_
  refine V_aload_n C dL_law_301 rfl ?_
  refine V_calll (R_L C (c_L_pupil hfl hJ.W) hw_L_pupil mk_L_142 rfl ⟨(by decide), (by decide)⟩ rfl (Nat.le_of_ble_eq_true rfl) ⟨(by show _ ≤ 603072; omega), (by show _ ≤ 7194729; omega)⟩ dL_law_302) (fun r a1 b1 o1 hF => ?_)
  obtain ⟨h1, rfl, h3, h4⟩ := hF
  refine V_istore_6 C dL_law_305 (by decide) ?_
  refine V_aload_n C dL_law_307 rfl ?_
  refine V_calli (R_V C (c_X4_pupil hfl hJ.W hJ.I hJ.R) mi_X4_pupil mk_L_144 rfl (by decide) rfl (rfl : vwCl[6]? = some (RX4, TX4, 24)) ⟨(by decide), (by decide)⟩ rfl (Nat.le_of_ble_eq_true rfl) ⟨(by show _ ≤ 603072; omega), (by show _ ≤ 7194729; omega)⟩ dL_law_308) (fun r7 a2 b2 hG => ?_)
  refine V_istore_7 C dL_law_311 (by decide) ?_
  exact V_tail C hfl (by decide) ⟨(by show _ ≤ 603072; omega), (by show _ ≤ 7194729; omega)⟩ ⟨h1, h3, fun z => (h4 z).1⟩ (RF.mm hJ (by simp [up2]) (fun h => (JJ_pupil hJ h).mo (Nat.le_succ t)) hG) rfl rfl rfl rfl rfl dL_law_313 dL_law_314 dL_law_317 dL_law_319 dL_law_324 dL_law_326 dL_law_329 dL_law_330 dL_law_331 dL_law_332 dL_law_334 dL_law_335 dL_law_336 dL_law_341 (off := 2014) (tgt := 2355) rfl (fun a3 b3 hj => V_widen (by omega) (by omega) (V_forget (lvLe.same (lvLe.same (lvLe.same (lvLe.same (lvLe.same (lvLe.same (lvLe.drop (lvLe.drop (lvLe.same lvLe.nil))))))))) (K a3 b3 o1 hj)))
set_option maxHeartbeats 4000000 in
set_option maxRecDepth 100000 in
theorem k_offer {p : Program} {l : Launch} {e : Env} {s : State} {m : MethodId} {args : Array Value} {below : List Frame} {meth : Method} {c : Code} {Q : State → Prop} {x : Sh} {q b : Mem} {o : Out} {bA L t : Nat} {xs : Nat → Int32} (C : CX p l s m meth c x cL_law RL 9) (hfl : l.stackTraces = false) (hX : LX s x bA L xs t) (hJ : JJ q b t) (K : ∀ q' b' o', JJ q' b' (t + 1) → VV p l e room_1 s m args below meth c Q x 9 q' b' o' (89 + 5 * (t + 1)) (2808 + 30 * (t + 1)) 2355 [some (.ref bA), some (.ref (x.2.1 0)), some (.ref (x.2.1 70)), some (.ref (x.2.1 87)), some (.ref (x.2.1 88)), some (.int (nI (6 * t))), none, none, none] []) : VV p l e room_1 s m args below meth c Q x 9 q b o (89 + 5 * t) (2808 + 30 * t) 344 [some (.ref bA), some (.ref (x.2.1 0)), some (.ref (x.2.1 70)), some (.ref (x.2.1 87)), some (.ref (x.2.1 88)), some (.int (nI (6 * t))), none, none, none] [] := by
  have ht : t < 512 := by obtain ⟨_, _, _, h4, h5⟩ := hX; omega
  refine V_aload_n C dL_law_344 rfl ?_
  refine V_arg C hX 1 (by decide) (by decide) rfl rfl dL_law_345 dL_law_346 dL_law_348 dL_law_349 dL_law_350 ?_
  refine V_arg C hX 2 (by decide) (by decide) rfl rfl dL_law_351 dL_law_352 dL_law_354 dL_law_355 dL_law_356 ?_
  refine V_arg C hX 3 (by decide) (by decide) rfl rfl dL_law_357 dL_law_358 dL_law_360 dL_law_361 dL_law_362 ?_
  refine V_arg C hX 4 (by decide) (by decide) rfl rfl dL_law_363 dL_law_364 dL_law_366 dL_law_367 dL_law_368 ?_
  refine V_bool C dL_law_369 dL_law_372 dL_law_373 dL_law_376 ?_
  refine V_aload_n C dL_law_377 rfl ?_
  refine V_calll (R_L C (c_L_offer hfl hJ.W (zI_or _)) hw_L_offer mk_L_145 rfl ⟨(by decide), (by decide)⟩ rfl (Nat.le_of_ble_eq_true rfl) ⟨(by show _ ≤ 603072; omega), (by show _ ≤ 7194729; omega)⟩ dL_law_378) (fun r a1 b1 o1 hF => ?_)
  obtain ⟨h1, rfl, h3, h4⟩ := hF
  refine V_istore_6 C dL_law_381 (by decide) ?_
  refine V_aload_n C dL_law_383 rfl ?_
  refine V_arg C hX 1 (by decide) (by decide) rfl rfl dL_law_384 dL_law_385 dL_law_387 dL_law_388 dL_law_389 ?_
  refine V_arg C hX 2 (by decide) (by decide) rfl rfl dL_law_390 dL_law_391 dL_law_393 dL_law_394 dL_law_395 ?_
  refine V_arg C hX 3 (by decide) (by decide) rfl rfl dL_law_396 dL_law_397 dL_law_399 dL_law_400 dL_law_401 ?_
  refine V_arg C hX 4 (by decide) (by decide) rfl rfl dL_law_402 dL_law_403 dL_law_405 dL_law_406 dL_law_407 ?_
  refine V_bool C dL_law_408 dL_law_411 dL_law_412 dL_law_415 ?_
  refine V_calli (R_V C (c_X4_offer hfl hJ.W hJ.I hJ.R (zI_or _)) mi_X4_offer mk_L_148 rfl (by decide) rfl (rfl : vwCl[6]? = some (RX4, TX4, 24)) ⟨(by decide), (by decide)⟩ rfl (Nat.le_of_ble_eq_true rfl) ⟨(by show _ ≤ 603072; omega), (by show _ ≤ 7194729; omega)⟩ dL_law_416) (fun r7 a2 b2 hG => ?_)
  refine V_istore_7 C dL_law_419 (by decide) ?_
  exact V_tail C hfl (by decide) ⟨(by show _ ≤ 603072; omega), (by show _ ≤ 7194729; omega)⟩ ⟨h1, h3, fun z => (h4 z).1⟩ (RF.mm hJ (by simp [up2]) (fun h => (JJ_offer (zI_or _) hJ h).mo (Nat.le_succ t)) hG) rfl rfl rfl rfl rfl dL_law_421 dL_law_422 dL_law_425 dL_law_427 dL_law_432 dL_law_434 dL_law_437 dL_law_438 dL_law_439 dL_law_440 dL_law_442 dL_law_443 dL_law_444 dL_law_449 (off := 1906) (tgt := 2355) rfl (fun a3 b3 hj => V_widen (by omega) (by omega) (V_forget (lvLe.same (lvLe.same (lvLe.same (lvLe.same (lvLe.same (lvLe.same (lvLe.drop (lvLe.drop (lvLe.same lvLe.nil))))))))) (K a3 b3 o1 hj)))
set_option maxHeartbeats 4000000 in
set_option maxRecDepth 100000 in
theorem k_bid {p : Program} {l : Launch} {e : Env} {s : State} {m : MethodId} {args : Array Value} {below : List Frame} {meth : Method} {c : Code} {Q : State → Prop} {x : Sh} {q b : Mem} {o : Out} {bA L t : Nat} {xs : Nat → Int32} (C : CX p l s m meth c x cL_law RL 9) (hfl : l.stackTraces = false) (hX : LX s x bA L xs t) (hJ : JJ q b t) (K : ∀ q' b' o', JJ q' b' (t + 1) → VV p l e room_1 s m args below meth c Q x 9 q' b' o' (89 + 5 * (t + 1)) (2808 + 30 * (t + 1)) 2355 [some (.ref bA), some (.ref (x.2.1 0)), some (.ref (x.2.1 70)), some (.ref (x.2.1 87)), some (.ref (x.2.1 88)), some (.int (nI (6 * t))), none, none, none] []) : VV p l e room_1 s m args below meth c Q x 9 q b o (89 + 5 * t) (2808 + 30 * t) 452 [some (.ref bA), some (.ref (x.2.1 0)), some (.ref (x.2.1 70)), some (.ref (x.2.1 87)), some (.ref (x.2.1 88)), some (.int (nI (6 * t))), none, none, none] [] := by
  have ht : t < 512 := by obtain ⟨_, _, _, h4, h5⟩ := hX; omega
  refine V_aload_n C dL_law_452 rfl ?_
  refine V_arg C hX 1 (by decide) (by decide) rfl rfl dL_law_453 dL_law_454 dL_law_456 dL_law_457 dL_law_458 ?_
  refine V_arg C hX 2 (by decide) (by decide) rfl rfl dL_law_459 dL_law_460 dL_law_462 dL_law_463 dL_law_464 ?_
  refine V_arg C hX 3 (by decide) (by decide) rfl rfl dL_law_465 dL_law_466 dL_law_468 dL_law_469 dL_law_470 ?_
  refine V_aload_n C dL_law_471 rfl ?_
  refine V_calll (R_L C (c_L_bid hfl hJ.W) hw_L_bid mk_L_149 rfl ⟨(by decide), (by decide)⟩ rfl (Nat.le_of_ble_eq_true rfl) ⟨(by show _ ≤ 603072; omega), (by show _ ≤ 7194729; omega)⟩ dL_law_472) (fun r a1 b1 o1 hF => ?_)
  obtain ⟨h1, rfl, h3, h4⟩ := hF
  refine V_istore_6 C dL_law_475 (by decide) ?_
  refine V_aload_n C dL_law_477 rfl ?_
  refine V_arg C hX 1 (by decide) (by decide) rfl rfl dL_law_478 dL_law_479 dL_law_481 dL_law_482 dL_law_483 ?_
  refine V_arg C hX 2 (by decide) (by decide) rfl rfl dL_law_484 dL_law_485 dL_law_487 dL_law_488 dL_law_489 ?_
  refine V_arg C hX 3 (by decide) (by decide) rfl rfl dL_law_490 dL_law_491 dL_law_493 dL_law_494 dL_law_495 ?_
  refine V_calli (R_V C (c_X4_bid hfl hJ.W hJ.I hJ.R hJ.B) mi_X4_bid mk_L_152 rfl (by decide) rfl (rfl : vwCl[6]? = some (RX4, TX4, 24)) ⟨(by decide), (by decide)⟩ rfl (Nat.le_of_ble_eq_true rfl) ⟨(by show _ ≤ 603072; omega), (by show _ ≤ 7194729; omega)⟩ dL_law_496) (fun r7 a2 b2 hG => ?_)
  refine V_istore_7 C dL_law_499 (by decide) ?_
  exact V_tail C hfl (by decide) ⟨(by show _ ≤ 603072; omega), (by show _ ≤ 7194729; omega)⟩ ⟨h1, h3, fun z => (h4 z).1⟩ (RF.mm hJ (by simp [up2]) (fun h => JJ_bid hJ (by omega) h) hG) rfl rfl rfl rfl rfl dL_law_501 dL_law_502 dL_law_505 dL_law_507 dL_law_512 dL_law_514 dL_law_517 dL_law_518 dL_law_519 dL_law_520 dL_law_522 dL_law_523 dL_law_524 dL_law_529 (off := 1826) (tgt := 2355) rfl (fun a3 b3 hj => V_widen (by omega) (by omega) (V_forget (lvLe.same (lvLe.same (lvLe.same (lvLe.same (lvLe.same (lvLe.same (lvLe.drop (lvLe.drop (lvLe.same lvLe.nil))))))))) (K a3 b3 o1 hj)))
set_option maxHeartbeats 4000000 in
set_option maxRecDepth 100000 in
theorem k_unbid {p : Program} {l : Launch} {e : Env} {s : State} {m : MethodId} {args : Array Value} {below : List Frame} {meth : Method} {c : Code} {Q : State → Prop} {x : Sh} {q b : Mem} {o : Out} {bA L t : Nat} {xs : Nat → Int32} (C : CX p l s m meth c x cL_law RL 9) (hfl : l.stackTraces = false) (hX : LX s x bA L xs t) (hJ : JJ q b t) (K : ∀ q' b' o', JJ q' b' (t + 1) → VV p l e room_1 s m args below meth c Q x 9 q' b' o' (89 + 5 * (t + 1)) (2808 + 30 * (t + 1)) 2355 [some (.ref bA), some (.ref (x.2.1 0)), some (.ref (x.2.1 70)), some (.ref (x.2.1 87)), some (.ref (x.2.1 88)), some (.int (nI (6 * t))), none, none, none] []) : VV p l e room_1 s m args below meth c Q x 9 q b o (89 + 5 * t) (2808 + 30 * t) 532 [some (.ref bA), some (.ref (x.2.1 0)), some (.ref (x.2.1 70)), some (.ref (x.2.1 87)), some (.ref (x.2.1 88)), some (.int (nI (6 * t))), none, none, none] [] := by
  have ht : t < 512 := by obtain ⟨_, _, _, h4, h5⟩ := hX; omega
  refine V_aload_n C dL_law_532 rfl ?_
  refine V_arg C hX 1 (by decide) (by decide) rfl rfl dL_law_533 dL_law_534 dL_law_536 dL_law_537 dL_law_538 ?_
  refine V_arg C hX 2 (by decide) (by decide) rfl rfl dL_law_539 dL_law_540 dL_law_542 dL_law_543 dL_law_544 ?_
  refine V_aload_n C dL_law_545 rfl ?_
  refine V_calll (R_L C (c_L_unbid hfl hJ.W) hw_L_unbid mk_L_153 rfl ⟨(by decide), (by decide)⟩ rfl (Nat.le_of_ble_eq_true rfl) ⟨(by show _ ≤ 603072; omega), (by show _ ≤ 7194729; omega)⟩ dL_law_546) (fun r a1 b1 o1 hF => ?_)
  obtain ⟨h1, rfl, h3, h4⟩ := hF
  refine V_istore_6 C dL_law_549 (by decide) ?_
  refine V_aload_n C dL_law_551 rfl ?_
  refine V_arg C hX 1 (by decide) (by decide) rfl rfl dL_law_552 dL_law_553 dL_law_555 dL_law_556 dL_law_557 ?_
  refine V_arg C hX 2 (by decide) (by decide) rfl rfl dL_law_558 dL_law_559 dL_law_561 dL_law_562 dL_law_563 ?_
  refine V_calli (R_V C (c_X4_unbid hfl hJ.W hJ.I hJ.R hJ.B) mi_X4_unbid mk_L_156 rfl (by decide) rfl (rfl : vwCl[6]? = some (RX4, TX4, 24)) ⟨(by decide), (by decide)⟩ rfl (Nat.le_of_ble_eq_true rfl) ⟨(by show _ ≤ 603072; omega), (by show _ ≤ 7194729; omega)⟩ dL_law_564) (fun r7 a2 b2 hG => ?_)
  refine V_istore_7 C dL_law_567 (by decide) ?_
  exact V_tail C hfl (by decide) ⟨(by show _ ≤ 603072; omega), (by show _ ≤ 7194729; omega)⟩ ⟨h1, h3, fun z => (h4 z).1⟩ (RF.mm hJ (by simp [up2]) (fun h => (JJ_unbid hJ h).mo (Nat.le_succ t)) hG) rfl rfl rfl rfl rfl dL_law_569 dL_law_570 dL_law_573 dL_law_575 dL_law_580 dL_law_582 dL_law_585 dL_law_586 dL_law_587 dL_law_588 dL_law_590 dL_law_591 dL_law_592 dL_law_597 (off := 1758) (tgt := 2355) rfl (fun a3 b3 hj => V_widen (by omega) (by omega) (V_forget (lvLe.same (lvLe.same (lvLe.same (lvLe.same (lvLe.same (lvLe.same (lvLe.drop (lvLe.drop (lvLe.same lvLe.nil))))))))) (K a3 b3 o1 hj)))
set_option maxHeartbeats 4000000 in
set_option maxRecDepth 100000 in
theorem k_points {p : Program} {l : Launch} {e : Env} {s : State} {m : MethodId} {args : Array Value} {below : List Frame} {meth : Method} {c : Code} {Q : State → Prop} {x : Sh} {q b : Mem} {o : Out} {bA L t : Nat} {xs : Nat → Int32} (C : CX p l s m meth c x cL_law RL 9) (hfl : l.stackTraces = false) (hX : LX s x bA L xs t) (hJ : JJ q b t) (K : ∀ q' b' o', JJ q' b' (t + 1) → VV p l e room_1 s m args below meth c Q x 9 q' b' o' (89 + 5 * (t + 1)) (2808 + 30 * (t + 1)) 2355 [some (.ref bA), some (.ref (x.2.1 0)), some (.ref (x.2.1 70)), some (.ref (x.2.1 87)), some (.ref (x.2.1 88)), some (.int (nI (6 * t))), none, none, none] []) : VV p l e room_1 s m args below meth c Q x 9 q b o (89 + 5 * t) (2808 + 30 * t) 639 [some (.ref bA), some (.ref (x.2.1 0)), some (.ref (x.2.1 70)), some (.ref (x.2.1 87)), some (.ref (x.2.1 88)), some (.int (nI (6 * t))), none, none, none] [] := by
  have ht : t < 512 := by obtain ⟨_, _, _, h4, h5⟩ := hX; omega
  refine V_aload_n C dL_law_639 rfl ?_
  refine V_arg C hX 1 (by decide) (by decide) rfl rfl dL_law_640 dL_law_641 dL_law_643 dL_law_644 dL_law_645 ?_
  refine V_aload_n C dL_law_646 rfl ?_
  refine V_calll (R_L C (c_L_points hfl hJ.W) hw_L_points mk_L_169 rfl ⟨(by decide), (by decide)⟩ rfl (Nat.le_of_ble_eq_true rfl) ⟨(by show _ ≤ 603072; omega), (by show _ ≤ 7194729; omega)⟩ dL_law_647) (fun r a1 b1 o1 hF => ?_)
  obtain ⟨h1, rfl, h3, h4⟩ := hF
  refine V_istore_6 C dL_law_650 (by decide) ?_
  refine V_aload_n C dL_law_652 rfl ?_
  refine V_arg C hX 1 (by decide) (by decide) rfl rfl dL_law_653 dL_law_654 dL_law_656 dL_law_657 dL_law_658 ?_
  refine V_calli (R_V C (c_X4_points hfl hJ.W hJ.I hJ.R) mi_X4_points mk_L_171 rfl (by decide) rfl (rfl : vwCl[6]? = some (RX4, TX4, 24)) ⟨(by decide), (by decide)⟩ rfl (Nat.le_of_ble_eq_true rfl) ⟨(by show _ ≤ 603072; omega), (by show _ ≤ 7194729; omega)⟩ dL_law_659) (fun r7 a2 b2 hG => ?_)
  refine V_istore_7 C dL_law_662 (by decide) ?_
  exact V_tail C hfl (by decide) ⟨(by show _ ≤ 603072; omega), (by show _ ≤ 7194729; omega)⟩ ⟨h1, h3, fun z => (h4 z).1⟩ (RF.rd hJ hG) rfl rfl rfl rfl rfl dL_law_664 dL_law_665 dL_law_668 dL_law_670 dL_law_675 dL_law_677 dL_law_680 dL_law_681 dL_law_682 dL_law_683 dL_law_685 dL_law_686 dL_law_687 dL_law_692 (off := 1663) (tgt := 2355) rfl (fun a3 b3 hj => V_widen (by omega) (by omega) (V_forget (lvLe.same (lvLe.same (lvLe.same (lvLe.same (lvLe.same (lvLe.same (lvLe.drop (lvLe.drop (lvLe.same lvLe.nil))))))))) (K a3 b3 o1 hj)))
set_option maxHeartbeats 4000000 in
set_option maxRecDepth 100000 in
theorem k_seat {p : Program} {l : Launch} {e : Env} {s : State} {m : MethodId} {args : Array Value} {below : List Frame} {meth : Method} {c : Code} {Q : State → Prop} {x : Sh} {q b : Mem} {o : Out} {bA L t : Nat} {xs : Nat → Int32} (C : CX p l s m meth c x cL_law RL 9) (hfl : l.stackTraces = false) (hX : LX s x bA L xs t) (hJ : JJ q b t) (K : ∀ q' b' o', JJ q' b' (t + 1) → VV p l e room_1 s m args below meth c Q x 9 q' b' o' (89 + 5 * (t + 1)) (2808 + 30 * (t + 1)) 2355 [some (.ref bA), some (.ref (x.2.1 0)), some (.ref (x.2.1 70)), some (.ref (x.2.1 87)), some (.ref (x.2.1 88)), some (.int (nI (6 * t))), none, none, none] []) : VV p l e room_1 s m args below meth c Q x 9 q b o (89 + 5 * t) (2808 + 30 * t) 695 [some (.ref bA), some (.ref (x.2.1 0)), some (.ref (x.2.1 70)), some (.ref (x.2.1 87)), some (.ref (x.2.1 88)), some (.int (nI (6 * t))), none, none, none] [] := by
  have ht : t < 512 := by obtain ⟨_, _, _, h4, h5⟩ := hX; omega
  refine V_aload_n C dL_law_695 rfl ?_
  refine V_arg C hX 1 (by decide) (by decide) rfl rfl dL_law_696 dL_law_697 dL_law_699 dL_law_700 dL_law_701 ?_
  refine V_arg C hX 2 (by decide) (by decide) rfl rfl dL_law_702 dL_law_703 dL_law_705 dL_law_706 dL_law_707 ?_
  refine V_arg C hX 3 (by decide) (by decide) rfl rfl dL_law_708 dL_law_709 dL_law_711 dL_law_712 dL_law_713 ?_
  refine V_bool C dL_law_714 dL_law_717 dL_law_718 dL_law_721 ?_
  refine V_aload_n C dL_law_722 rfl ?_
  refine V_calll (R_L C (c_L_seat hfl hJ.W) hw_L_seat mk_L_172 rfl ⟨(by decide), (by decide)⟩ rfl (Nat.le_of_ble_eq_true rfl) ⟨(by show _ ≤ 603072; omega), (by show _ ≤ 7194729; omega)⟩ dL_law_723) (fun r a1 b1 o1 hF => ?_)
  obtain ⟨h1, rfl, h3, h4⟩ := hF
  refine V_istore_6 C dL_law_726 (by decide) ?_
  refine V_aload_n C dL_law_728 rfl ?_
  refine V_arg C hX 1 (by decide) (by decide) rfl rfl dL_law_729 dL_law_730 dL_law_732 dL_law_733 dL_law_734 ?_
  refine V_arg C hX 2 (by decide) (by decide) rfl rfl dL_law_735 dL_law_736 dL_law_738 dL_law_739 dL_law_740 ?_
  refine V_arg C hX 3 (by decide) (by decide) rfl rfl dL_law_741 dL_law_742 dL_law_744 dL_law_745 dL_law_746 ?_
  refine V_bool C dL_law_747 dL_law_750 dL_law_751 dL_law_754 ?_
  refine V_calli (R_V C (c_X4_seat hfl hJ.W hJ.I hJ.R) mi_X4_seat mk_L_175 rfl (by decide) rfl (rfl : vwCl[6]? = some (RX4, TX4, 24)) ⟨(by decide), (by decide)⟩ rfl (Nat.le_of_ble_eq_true rfl) ⟨(by show _ ≤ 603072; omega), (by show _ ≤ 7194729; omega)⟩ dL_law_755) (fun r7 a2 b2 hG => ?_)
  refine V_istore_7 C dL_law_758 (by decide) ?_
  exact V_tail C hfl (by decide) ⟨(by show _ ≤ 603072; omega), (by show _ ≤ 7194729; omega)⟩ ⟨h1, h3, fun z => (h4 z).1⟩ (RF.rd hJ hG) rfl rfl rfl rfl rfl dL_law_760 dL_law_761 dL_law_764 dL_law_766 dL_law_771 dL_law_773 dL_law_776 dL_law_777 dL_law_778 dL_law_779 dL_law_781 dL_law_782 dL_law_783 dL_law_788 (off := 1567) (tgt := 2355) rfl (fun a3 b3 hj => V_widen (by omega) (by omega) (V_forget (lvLe.same (lvLe.same (lvLe.same (lvLe.same (lvLe.same (lvLe.same (lvLe.drop (lvLe.drop (lvLe.same lvLe.nil))))))))) (K a3 b3 o1 hj)))
set_option maxHeartbeats 4000000 in
set_option maxRecDepth 100000 in
theorem k_at {p : Program} {l : Launch} {e : Env} {s : State} {m : MethodId} {args : Array Value} {below : List Frame} {meth : Method} {c : Code} {Q : State → Prop} {x : Sh} {q b : Mem} {o : Out} {bA L t : Nat} {xs : Nat → Int32} (C : CX p l s m meth c x cL_law RL 9) (hfl : l.stackTraces = false) (hX : LX s x bA L xs t) (hJ : JJ q b t) (K : ∀ q' b' o', JJ q' b' (t + 1) → VV p l e room_1 s m args below meth c Q x 9 q' b' o' (89 + 5 * (t + 1)) (2808 + 30 * (t + 1)) 2355 [some (.ref bA), some (.ref (x.2.1 0)), some (.ref (x.2.1 70)), some (.ref (x.2.1 87)), some (.ref (x.2.1 88)), some (.int (nI (6 * t))), none, none, none] []) : VV p l e room_1 s m args below meth c Q x 9 q b o (89 + 5 * t) (2808 + 30 * t) 791 [some (.ref bA), some (.ref (x.2.1 0)), some (.ref (x.2.1 70)), some (.ref (x.2.1 87)), some (.ref (x.2.1 88)), some (.int (nI (6 * t))), none, none, none] [] := by
  have ht : t < 512 := by obtain ⟨_, _, _, h4, h5⟩ := hX; omega
  refine V_aload_n C dL_law_791 rfl ?_
  refine V_arg C hX 1 (by decide) (by decide) rfl rfl dL_law_792 dL_law_793 dL_law_795 dL_law_796 dL_law_797 ?_
  refine V_arg C hX 2 (by decide) (by decide) rfl rfl dL_law_798 dL_law_799 dL_law_801 dL_law_802 dL_law_803 ?_
  refine V_aload_n C dL_law_804 rfl ?_
  refine V_calll (R_L C (c_L_at hfl hJ.W) hw_L_at mk_L_176 rfl ⟨(by decide), (by decide)⟩ rfl (Nat.le_of_ble_eq_true rfl) ⟨(by show _ ≤ 603072; omega), (by show _ ≤ 7194729; omega)⟩ dL_law_805) (fun r a1 b1 o1 hF => ?_)
  obtain ⟨h1, rfl, h3, h4⟩ := hF
  refine V_istore_6 C dL_law_808 (by decide) ?_
  refine V_aload_n C dL_law_810 rfl ?_
  refine V_arg C hX 1 (by decide) (by decide) rfl rfl dL_law_811 dL_law_812 dL_law_814 dL_law_815 dL_law_816 ?_
  refine V_arg C hX 2 (by decide) (by decide) rfl rfl dL_law_817 dL_law_818 dL_law_820 dL_law_821 dL_law_822 ?_
  refine V_calli (R_V C (c_X4_at hfl hJ.W hJ.I hJ.R) mi_X4_at mk_L_178 rfl (by decide) rfl (rfl : vwCl[6]? = some (RX4, TX4, 24)) ⟨(by decide), (by decide)⟩ rfl (Nat.le_of_ble_eq_true rfl) ⟨(by show _ ≤ 603072; omega), (by show _ ≤ 7194729; omega)⟩ dL_law_823) (fun r7 a2 b2 hG => ?_)
  refine V_istore_7 C dL_law_826 (by decide) ?_
  exact V_tail C hfl (by decide) ⟨(by show _ ≤ 603072; omega), (by show _ ≤ 7194729; omega)⟩ ⟨h1, h3, fun z => (h4 z).1⟩ (RF.rd hJ hG) rfl rfl rfl rfl rfl dL_law_828 dL_law_829 dL_law_832 dL_law_834 dL_law_839 dL_law_841 dL_law_844 dL_law_845 dL_law_846 dL_law_847 dL_law_849 dL_law_850 dL_law_851 dL_law_856 (off := 1499) (tgt := 2355) rfl (fun a3 b3 hj => V_widen (by omega) (by omega) (V_forget (lvLe.same (lvLe.same (lvLe.same (lvLe.same (lvLe.same (lvLe.same (lvLe.drop (lvLe.drop (lvLe.same lvLe.nil))))))))) (K a3 b3 o1 hj)))
set_option maxHeartbeats 4000000 in
set_option maxRecDepth 100000 in
theorem k_holders {p : Program} {l : Launch} {e : Env} {s : State} {m : MethodId} {args : Array Value} {below : List Frame} {meth : Method} {c : Code} {Q : State → Prop} {x : Sh} {q b : Mem} {o : Out} {bA L t : Nat} {xs : Nat → Int32} (C : CX p l s m meth c x cL_law RL 9) (hfl : l.stackTraces = false) (hX : LX s x bA L xs t) (hJ : JJ q b t) (K : ∀ q' b' o', JJ q' b' (t + 1) → VV p l e room_1 s m args below meth c Q x 9 q' b' o' (89 + 5 * (t + 1)) (2808 + 30 * (t + 1)) 2355 [some (.ref bA), some (.ref (x.2.1 0)), some (.ref (x.2.1 70)), some (.ref (x.2.1 87)), some (.ref (x.2.1 88)), some (.int (nI (6 * t))), none, none, none] []) : VV p l e room_1 s m args below meth c Q x 9 q b o (89 + 5 * t) (2808 + 30 * t) 859 [some (.ref bA), some (.ref (x.2.1 0)), some (.ref (x.2.1 70)), some (.ref (x.2.1 87)), some (.ref (x.2.1 88)), some (.int (nI (6 * t))), none, none, none] [] := by
  have ht : t < 512 := by obtain ⟨_, _, _, h4, h5⟩ := hX; omega
  refine V_aload_n C dL_law_859 rfl ?_
  refine V_arg C hX 1 (by decide) (by decide) rfl rfl dL_law_860 dL_law_861 dL_law_863 dL_law_864 dL_law_865 ?_
  refine V_aload_n C dL_law_866 rfl ?_
  refine V_calll (R_L C (c_L_holders hfl hJ.W) hw_L_holders mk_L_179 rfl ⟨(by decide), (by decide)⟩ rfl (Nat.le_of_ble_eq_true rfl) ⟨(by show _ ≤ 603072; omega), (by show _ ≤ 7194729; omega)⟩ dL_law_867) (fun r a1 b1 o1 hF => ?_)
  obtain ⟨h1, rfl, h3, h4⟩ := hF
  refine V_istore_6 C dL_law_870 (by decide) ?_
  refine V_aload_n C dL_law_872 rfl ?_
  refine V_arg C hX 1 (by decide) (by decide) rfl rfl dL_law_873 dL_law_874 dL_law_876 dL_law_877 dL_law_878 ?_
  refine V_calli (R_V C (c_X4_holders hfl hJ.W hJ.I hJ.R) mi_X4_holders mk_L_181 rfl (by decide) rfl (rfl : vwCl[6]? = some (RX4, TX4, 24)) ⟨(by decide), (by decide)⟩ rfl (Nat.le_of_ble_eq_true rfl) ⟨(by show _ ≤ 603072; omega), (by show _ ≤ 7194729; omega)⟩ dL_law_879) (fun r7 a2 b2 hG => ?_)
  refine V_istore_7 C dL_law_882 (by decide) ?_
  exact V_tail C hfl (by decide) ⟨(by show _ ≤ 603072; omega), (by show _ ≤ 7194729; omega)⟩ ⟨h1, h3, fun z => (h4 z).1⟩ (RF.rd hJ hG) rfl rfl rfl rfl rfl dL_law_884 dL_law_885 dL_law_888 dL_law_890 dL_law_895 dL_law_897 dL_law_900 dL_law_901 dL_law_902 dL_law_903 dL_law_905 dL_law_906 dL_law_907 dL_law_912 (off := 1443) (tgt := 2355) rfl (fun a3 b3 hj => V_widen (by omega) (by omega) (V_forget (lvLe.same (lvLe.same (lvLe.same (lvLe.same (lvLe.same (lvLe.same (lvLe.drop (lvLe.drop (lvLe.same lvLe.nil))))))))) (K a3 b3 o1 hj)))
set_option maxHeartbeats 4000000 in
set_option maxRecDepth 100000 in
theorem k_holder {p : Program} {l : Launch} {e : Env} {s : State} {m : MethodId} {args : Array Value} {below : List Frame} {meth : Method} {c : Code} {Q : State → Prop} {x : Sh} {q b : Mem} {o : Out} {bA L t : Nat} {xs : Nat → Int32} (C : CX p l s m meth c x cL_law RL 9) (hfl : l.stackTraces = false) (hX : LX s x bA L xs t) (hJ : JJ q b t) (K : ∀ q' b' o', JJ q' b' (t + 1) → VV p l e room_1 s m args below meth c Q x 9 q' b' o' (89 + 5 * (t + 1)) (2808 + 30 * (t + 1)) 2355 [some (.ref bA), some (.ref (x.2.1 0)), some (.ref (x.2.1 70)), some (.ref (x.2.1 87)), some (.ref (x.2.1 88)), some (.int (nI (6 * t))), none, none, none] []) : VV p l e room_1 s m args below meth c Q x 9 q b o (89 + 5 * t) (2808 + 30 * t) 915 [some (.ref bA), some (.ref (x.2.1 0)), some (.ref (x.2.1 70)), some (.ref (x.2.1 87)), some (.ref (x.2.1 88)), some (.int (nI (6 * t))), none, none, none] [] := by
  have ht : t < 512 := by obtain ⟨_, _, _, h4, h5⟩ := hX; omega
  refine V_aload_n C dL_law_915 rfl ?_
  refine V_arg C hX 1 (by decide) (by decide) rfl rfl dL_law_916 dL_law_917 dL_law_919 dL_law_920 dL_law_921 ?_
  refine V_arg C hX 2 (by decide) (by decide) rfl rfl dL_law_922 dL_law_923 dL_law_925 dL_law_926 dL_law_927 ?_
  refine V_aload_n C dL_law_928 rfl ?_
  refine V_calll (R_L C (c_L_holder hfl hJ.W) hw_L_holder mk_L_182 rfl ⟨(by decide), (by decide)⟩ rfl (Nat.le_of_ble_eq_true rfl) ⟨(by show _ ≤ 603072; omega), (by show _ ≤ 7194729; omega)⟩ dL_law_929) (fun r a1 b1 o1 hF => ?_)
  obtain ⟨h1, rfl, h3, h4⟩ := hF
  refine V_istore_6 C dL_law_932 (by decide) ?_
  refine V_aload_n C dL_law_934 rfl ?_
  refine V_arg C hX 1 (by decide) (by decide) rfl rfl dL_law_935 dL_law_936 dL_law_938 dL_law_939 dL_law_940 ?_
  refine V_arg C hX 2 (by decide) (by decide) rfl rfl dL_law_941 dL_law_942 dL_law_944 dL_law_945 dL_law_946 ?_
  refine V_calli (R_V C (c_X4_holder hfl hJ.W hJ.I hJ.R) mi_X4_holder mk_L_184 rfl (by decide) rfl (rfl : vwCl[6]? = some (RX4, TX4, 24)) ⟨(by decide), (by decide)⟩ rfl (Nat.le_of_ble_eq_true rfl) ⟨(by show _ ≤ 603072; omega), (by show _ ≤ 7194729; omega)⟩ dL_law_947) (fun r7 a2 b2 hG => ?_)
  refine V_istore_7 C dL_law_950 (by decide) ?_
  exact V_tail C hfl (by decide) ⟨(by show _ ≤ 603072; omega), (by show _ ≤ 7194729; omega)⟩ ⟨h1, h3, fun z => (h4 z).1⟩ (RF.rd hJ hG) rfl rfl rfl rfl rfl dL_law_952 dL_law_953 dL_law_956 dL_law_958 dL_law_963 dL_law_965 dL_law_968 dL_law_969 dL_law_970 dL_law_971 dL_law_973 dL_law_974 dL_law_975 dL_law_980 (off := 1375) (tgt := 2355) rfl (fun a3 b3 hj => V_widen (by omega) (by omega) (V_forget (lvLe.same (lvLe.same (lvLe.same (lvLe.same (lvLe.same (lvLe.same (lvLe.drop (lvLe.drop (lvLe.same lvLe.nil))))))))) (K a3 b3 o1 hj)))
set_option maxHeartbeats 4000000 in
set_option maxRecDepth 100000 in
theorem k_paid {p : Program} {l : Launch} {e : Env} {s : State} {m : MethodId} {args : Array Value} {below : List Frame} {meth : Method} {c : Code} {Q : State → Prop} {x : Sh} {q b : Mem} {o : Out} {bA L t : Nat} {xs : Nat → Int32} (C : CX p l s m meth c x cL_law RL 9) (hfl : l.stackTraces = false) (hX : LX s x bA L xs t) (hJ : JJ q b t) (K : ∀ q' b' o', JJ q' b' (t + 1) → VV p l e room_1 s m args below meth c Q x 9 q' b' o' (89 + 5 * (t + 1)) (2808 + 30 * (t + 1)) 2355 [some (.ref bA), some (.ref (x.2.1 0)), some (.ref (x.2.1 70)), some (.ref (x.2.1 87)), some (.ref (x.2.1 88)), some (.int (nI (6 * t))), none, none, none] []) : VV p l e room_1 s m args below meth c Q x 9 q b o (89 + 5 * t) (2808 + 30 * t) 983 [some (.ref bA), some (.ref (x.2.1 0)), some (.ref (x.2.1 70)), some (.ref (x.2.1 87)), some (.ref (x.2.1 88)), some (.int (nI (6 * t))), none, none, none] [] := by
  have ht : t < 512 := by obtain ⟨_, _, _, h4, h5⟩ := hX; omega
  refine V_aload_n C dL_law_983 rfl ?_
  refine V_arg C hX 1 (by decide) (by decide) rfl rfl dL_law_984 dL_law_985 dL_law_987 dL_law_988 dL_law_989 ?_
  refine V_arg C hX 2 (by decide) (by decide) rfl rfl dL_law_990 dL_law_991 dL_law_993 dL_law_994 dL_law_995 ?_
  refine V_aload_n C dL_law_996 rfl ?_
  refine V_calll (R_L C (c_L_paid hfl hJ.W) hw_L_paid mk_L_185 rfl ⟨(by decide), (by decide)⟩ rfl (Nat.le_of_ble_eq_true rfl) ⟨(by show _ ≤ 603072; omega), (by show _ ≤ 7194729; omega)⟩ dL_law_997) (fun r a1 b1 o1 hF => ?_)
  obtain ⟨h1, rfl, h3, h4⟩ := hF
  refine V_istore_6 C dL_law_1000 (by decide) ?_
  refine V_aload_n C dL_law_1002 rfl ?_
  refine V_arg C hX 1 (by decide) (by decide) rfl rfl dL_law_1003 dL_law_1004 dL_law_1006 dL_law_1007 dL_law_1008 ?_
  refine V_arg C hX 2 (by decide) (by decide) rfl rfl dL_law_1009 dL_law_1010 dL_law_1012 dL_law_1013 dL_law_1014 ?_
  refine V_calli (R_V C (c_X4_paid hfl hJ.W hJ.I hJ.R) mi_X4_paid mk_L_187 rfl (by decide) rfl (rfl : vwCl[6]? = some (RX4, TX4, 24)) ⟨(by decide), (by decide)⟩ rfl (Nat.le_of_ble_eq_true rfl) ⟨(by show _ ≤ 603072; omega), (by show _ ≤ 7194729; omega)⟩ dL_law_1015) (fun r7 a2 b2 hG => ?_)
  refine V_istore_7 C dL_law_1018 (by decide) ?_
  exact V_tail C hfl (by decide) ⟨(by show _ ≤ 603072; omega), (by show _ ≤ 7194729; omega)⟩ ⟨h1, h3, fun z => (h4 z).1⟩ (RF.rd hJ hG) rfl rfl rfl rfl rfl dL_law_1020 dL_law_1021 dL_law_1024 dL_law_1026 dL_law_1031 dL_law_1033 dL_law_1036 dL_law_1037 dL_law_1038 dL_law_1039 dL_law_1041 dL_law_1042 dL_law_1043 dL_law_1048 (off := 1307) (tgt := 2355) rfl (fun a3 b3 hj => V_widen (by omega) (by omega) (V_forget (lvLe.same (lvLe.same (lvLe.same (lvLe.same (lvLe.same (lvLe.same (lvLe.drop (lvLe.drop (lvLe.same lvLe.nil))))))))) (K a3 b3 o1 hj)))
set_option maxHeartbeats 4000000 in
set_option maxRecDepth 100000 in
theorem k_waiting {p : Program} {l : Launch} {e : Env} {s : State} {m : MethodId} {args : Array Value} {below : List Frame} {meth : Method} {c : Code} {Q : State → Prop} {x : Sh} {q b : Mem} {o : Out} {bA L t : Nat} {xs : Nat → Int32} (C : CX p l s m meth c x cL_law RL 9) (hfl : l.stackTraces = false) (hX : LX s x bA L xs t) (hJ : JJ q b t) (K : ∀ q' b' o', JJ q' b' (t + 1) → VV p l e room_1 s m args below meth c Q x 9 q' b' o' (89 + 5 * (t + 1)) (2808 + 30 * (t + 1)) 2355 [some (.ref bA), some (.ref (x.2.1 0)), some (.ref (x.2.1 70)), some (.ref (x.2.1 87)), some (.ref (x.2.1 88)), some (.int (nI (6 * t))), none, none, none] []) : VV p l e room_1 s m args below meth c Q x 9 q b o (89 + 5 * t) (2808 + 30 * t) 1051 [some (.ref bA), some (.ref (x.2.1 0)), some (.ref (x.2.1 70)), some (.ref (x.2.1 87)), some (.ref (x.2.1 88)), some (.int (nI (6 * t))), none, none, none] [] := by
  have ht : t < 512 := by obtain ⟨_, _, _, h4, h5⟩ := hX; omega
  refine V_aload_n C dL_law_1051 rfl ?_
  refine V_arg C hX 1 (by decide) (by decide) rfl rfl dL_law_1052 dL_law_1053 dL_law_1055 dL_law_1056 dL_law_1057 ?_
  refine V_aload_n C dL_law_1058 rfl ?_
  refine V_calll (R_L C (c_L_waiting hfl hJ.W) hw_L_waiting mk_L_188 rfl ⟨(by decide), (by decide)⟩ rfl (Nat.le_of_ble_eq_true rfl) ⟨(by show _ ≤ 603072; omega), (by show _ ≤ 7194729; omega)⟩ dL_law_1059) (fun r a1 b1 o1 hF => ?_)
  obtain ⟨h1, rfl, h3, h4⟩ := hF
  refine V_istore_6 C dL_law_1062 (by decide) ?_
  refine V_aload_n C dL_law_1064 rfl ?_
  refine V_arg C hX 1 (by decide) (by decide) rfl rfl dL_law_1065 dL_law_1066 dL_law_1068 dL_law_1069 dL_law_1070 ?_
  refine V_calli (R_V C (c_X4_waiting hfl hJ.W hJ.I hJ.R) mi_X4_waiting mk_L_190 rfl (by decide) rfl (rfl : vwCl[6]? = some (RX4, TX4, 24)) ⟨(by decide), (by decide)⟩ rfl (Nat.le_of_ble_eq_true rfl) ⟨(by show _ ≤ 603072; omega), (by show _ ≤ 7194729; omega)⟩ dL_law_1071) (fun r7 a2 b2 hG => ?_)
  refine V_istore_7 C dL_law_1074 (by decide) ?_
  exact V_tail C hfl (by decide) ⟨(by show _ ≤ 603072; omega), (by show _ ≤ 7194729; omega)⟩ ⟨h1, h3, fun z => (h4 z).1⟩ (RF.rd hJ hG) rfl rfl rfl rfl rfl dL_law_1076 dL_law_1077 dL_law_1080 dL_law_1082 dL_law_1087 dL_law_1089 dL_law_1092 dL_law_1093 dL_law_1094 dL_law_1095 dL_law_1097 dL_law_1098 dL_law_1099 dL_law_1104 (off := 1251) (tgt := 2355) rfl (fun a3 b3 hj => V_widen (by omega) (by omega) (V_forget (lvLe.same (lvLe.same (lvLe.same (lvLe.same (lvLe.same (lvLe.same (lvLe.drop (lvLe.drop (lvLe.same lvLe.nil))))))))) (K a3 b3 o1 hj)))
set_option maxHeartbeats 4000000 in
set_option maxRecDepth 100000 in
theorem k_waiter {p : Program} {l : Launch} {e : Env} {s : State} {m : MethodId} {args : Array Value} {below : List Frame} {meth : Method} {c : Code} {Q : State → Prop} {x : Sh} {q b : Mem} {o : Out} {bA L t : Nat} {xs : Nat → Int32} (C : CX p l s m meth c x cL_law RL 9) (hfl : l.stackTraces = false) (hX : LX s x bA L xs t) (hJ : JJ q b t) (K : ∀ q' b' o', JJ q' b' (t + 1) → VV p l e room_1 s m args below meth c Q x 9 q' b' o' (89 + 5 * (t + 1)) (2808 + 30 * (t + 1)) 2355 [some (.ref bA), some (.ref (x.2.1 0)), some (.ref (x.2.1 70)), some (.ref (x.2.1 87)), some (.ref (x.2.1 88)), some (.int (nI (6 * t))), none, none, none] []) : VV p l e room_1 s m args below meth c Q x 9 q b o (89 + 5 * t) (2808 + 30 * t) 1107 [some (.ref bA), some (.ref (x.2.1 0)), some (.ref (x.2.1 70)), some (.ref (x.2.1 87)), some (.ref (x.2.1 88)), some (.int (nI (6 * t))), none, none, none] [] := by
  have ht : t < 512 := by obtain ⟨_, _, _, h4, h5⟩ := hX; omega
  refine V_aload_n C dL_law_1107 rfl ?_
  refine V_arg C hX 1 (by decide) (by decide) rfl rfl dL_law_1108 dL_law_1109 dL_law_1111 dL_law_1112 dL_law_1113 ?_
  refine V_arg C hX 2 (by decide) (by decide) rfl rfl dL_law_1114 dL_law_1115 dL_law_1117 dL_law_1118 dL_law_1119 ?_
  refine V_aload_n C dL_law_1120 rfl ?_
  refine V_calll (R_L C (c_L_waiter hfl hJ.W) hw_L_waiter mk_L_191 rfl ⟨(by decide), (by decide)⟩ rfl (Nat.le_of_ble_eq_true rfl) ⟨(by show _ ≤ 603072; omega), (by show _ ≤ 7194729; omega)⟩ dL_law_1121) (fun r a1 b1 o1 hF => ?_)
  obtain ⟨h1, rfl, h3, h4⟩ := hF
  refine V_istore_6 C dL_law_1124 (by decide) ?_
  refine V_aload_n C dL_law_1126 rfl ?_
  refine V_arg C hX 1 (by decide) (by decide) rfl rfl dL_law_1127 dL_law_1128 dL_law_1130 dL_law_1131 dL_law_1132 ?_
  refine V_arg C hX 2 (by decide) (by decide) rfl rfl dL_law_1133 dL_law_1134 dL_law_1136 dL_law_1137 dL_law_1138 ?_
  refine V_calli (R_V C (c_X4_waiter hfl hJ.W hJ.I hJ.R) mi_X4_waiter mk_L_193 rfl (by decide) rfl (rfl : vwCl[6]? = some (RX4, TX4, 24)) ⟨(by decide), (by decide)⟩ rfl (Nat.le_of_ble_eq_true rfl) ⟨(by show _ ≤ 603072; omega), (by show _ ≤ 7194729; omega)⟩ dL_law_1139) (fun r7 a2 b2 hG => ?_)
  refine V_istore_7 C dL_law_1142 (by decide) ?_
  exact V_tail C hfl (by decide) ⟨(by show _ ≤ 603072; omega), (by show _ ≤ 7194729; omega)⟩ ⟨h1, h3, fun z => (h4 z).1⟩ (RF.rd hJ hG) rfl rfl rfl rfl rfl dL_law_1144 dL_law_1145 dL_law_1148 dL_law_1150 dL_law_1155 dL_law_1157 dL_law_1160 dL_law_1161 dL_law_1162 dL_law_1163 dL_law_1165 dL_law_1166 dL_law_1167 dL_law_1172 (off := 1183) (tgt := 2355) rfl (fun a3 b3 hj => V_widen (by omega) (by omega) (V_forget (lvLe.same (lvLe.same (lvLe.same (lvLe.same (lvLe.same (lvLe.same (lvLe.drop (lvLe.drop (lvLe.same lvLe.nil))))))))) (K a3 b3 o1 hj)))
