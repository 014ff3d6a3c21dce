/-! the calls of the script, further on -/
set_option maxHeartbeats 4000000 in
set_option maxRecDepth 100000 in
theorem k_giveUp {p : Program} {l : Launch} {e : Env} {s : State} {m : MethodId} {args : Array Value} {below : List Frame} {meth : Method} {c : Code} {Q : State → Prop} {x : Sh} {q b : Mem} {o : Out} {bA L t : Nat} {xs : Nat → Int32} (C : CX p l s m meth c x cL_law RL 9) (hfl : l.stackTraces = false) (hX : LX s x bA L xs t) (hJ : JJ q b t) (K : ∀ q' b' o', JJ q' b' (t + 1) → VV p l e room_1 s m args below meth c Q x 9 q' b' o' (89 + 5 * (t + 1)) (2808 + 30 * (t + 1)) 2355 [some (.ref bA), some (.ref (x.2.1 0)), some (.ref (x.2.1 70)), some (.ref (x.2.1 87)), some (.ref (x.2.1 88)), some (.int (nI (6 * t))), none, none, none] []) : VV p l e room_1 s m args below meth c Q x 9 q b o (89 + 5 * t) (2808 + 30 * t) 1175 [some (.ref bA), some (.ref (x.2.1 0)), some (.ref (x.2.1 70)), some (.ref (x.2.1 87)), some (.ref (x.2.1 88)), some (.int (nI (6 * t))), none, none, none] [] := by
  have ht : t < 512 := by obtain ⟨_, _, _, h4, h5⟩ := hX; omega
  refine V_aload_n C dL_law_1175 rfl ?_
  refine V_arg C hX 1 (by decide) (by decide) rfl rfl dL_law_1176 dL_law_1177 dL_law_1179 dL_law_1180 dL_law_1181 ?_
  refine V_arg C hX 2 (by decide) (by decide) rfl rfl dL_law_1182 dL_law_1183 dL_law_1185 dL_law_1186 dL_law_1187 ?_
  refine V_aload_n C dL_law_1188 rfl ?_
  refine V_calll (R_L C (c_L_giveUp hfl hJ.W) hw_L_giveUp mk_L_194 rfl ⟨(by decide), (by decide)⟩ rfl (Nat.le_of_ble_eq_true rfl) ⟨(by show _ ≤ 603072; omega), (by show _ ≤ 7194729; omega)⟩ dL_law_1189) (fun r a1 b1 o1 hF => ?_)
  obtain ⟨h1, rfl, h3, h4⟩ := hF
  refine V_istore_6 C dL_law_1192 (by decide) ?_
  refine V_aload_n C dL_law_1194 rfl ?_
  refine V_arg C hX 1 (by decide) (by decide) rfl rfl dL_law_1195 dL_law_1196 dL_law_1198 dL_law_1199 dL_law_1200 ?_
  refine V_arg C hX 2 (by decide) (by decide) rfl rfl dL_law_1201 dL_law_1202 dL_law_1204 dL_law_1205 dL_law_1206 ?_
  refine V_calli (R_V C (c_X4_giveUp hfl hJ.W hJ.I hJ.R) mi_X4_giveUp mk_L_196 rfl (by decide) rfl (rfl : vwCl[6]? = some (RX4, TX4, 24)) ⟨(by decide), (by decide)⟩ rfl (Nat.le_of_ble_eq_true rfl) ⟨(by show _ ≤ 603072; omega), (by show _ ≤ 7194729; omega)⟩ dL_law_1207) (fun r7 a2 b2 hG => ?_)
  refine V_istore_7 C dL_law_1210 (by decide) ?_
  exact V_tail C hfl (by decide) ⟨(by show _ ≤ 603072; omega), (by show _ ≤ 7194729; omega)⟩ ⟨h1, h3, fun z => (h4 z).1⟩ (RF.opm hJ (fun b2 hg hK hR => JJ_giveUp hJ hg hK hR) hG) rfl rfl rfl rfl rfl dL_law_1212 dL_law_1213 dL_law_1216 dL_law_1218 dL_law_1223 dL_law_1225 dL_law_1228 dL_law_1229 dL_law_1230 dL_law_1231 dL_law_1233 dL_law_1234 dL_law_1235 dL_law_1240 (off := 1115) (tgt := 2355) rfl (fun a3 b3 hj => V_widen (by omega) (by omega) (V_forget (lvLe.same (lvLe.same (lvLe.same (lvLe.same (lvLe.same (lvLe.same (lvLe.drop (lvLe.drop (lvLe.same lvLe.nil))))))))) (K a3 b3 o1 hj)))
set_option maxHeartbeats 4000000 in
set_option maxRecDepth 100000 in
theorem k_move {p : Program} {l : Launch} {e : Env} {s : State} {m : MethodId} {args : Array Value} {below : List Frame} {meth : Method} {c : Code} {Q : State → Prop} {x : Sh} {q b : Mem} {o : Out} {bA L t : Nat} {xs : Nat → Int32} (C : CX p l s m meth c x cL_law RL 9) (hfl : l.stackTraces = false) (hX : LX s x bA L xs t) (hJ : JJ q b t) (K : ∀ q' b' o', JJ q' b' (t + 1) → VV p l e room_1 s m args below meth c Q x 9 q' b' o' (89 + 5 * (t + 1)) (2808 + 30 * (t + 1)) 2355 [some (.ref bA), some (.ref (x.2.1 0)), some (.ref (x.2.1 70)), some (.ref (x.2.1 87)), some (.ref (x.2.1 88)), some (.int (nI (6 * t))), none, none, none] []) : VV p l e room_1 s m args below meth c Q x 9 q b o (89 + 5 * t) (2808 + 30 * t) 1243 [some (.ref bA), some (.ref (x.2.1 0)), some (.ref (x.2.1 70)), some (.ref (x.2.1 87)), some (.ref (x.2.1 88)), some (.int (nI (6 * t))), none, none, none] [] := by
  have ht : t < 512 := by obtain ⟨_, _, _, h4, h5⟩ := hX; omega
  refine V_aload_n C dL_law_1243 rfl ?_
  refine V_arg C hX 1 (by decide) (by decide) rfl rfl dL_law_1244 dL_law_1245 dL_law_1247 dL_law_1248 dL_law_1249 ?_
  refine V_arg C hX 2 (by decide) (by decide) rfl rfl dL_law_1250 dL_law_1251 dL_law_1253 dL_law_1254 dL_law_1255 ?_
  refine V_aload_n C dL_law_1256 rfl ?_
  refine V_calll (R_L C (c_L_move hfl hJ.W) hw_L_move mk_L_197 rfl ⟨(by decide), (by decide)⟩ rfl (Nat.le_of_ble_eq_true rfl) ⟨(by show _ ≤ 603072; omega), (by show _ ≤ 7194729; omega)⟩ dL_law_1257) (fun r a1 b1 o1 hF => ?_)
  obtain ⟨h1, rfl, h3, h4⟩ := hF
  refine V_istore_6 C dL_law_1260 (by decide) ?_
  refine V_aload_n C dL_law_1262 rfl ?_
  refine V_arg C hX 1 (by decide) (by decide) rfl rfl dL_law_1263 dL_law_1264 dL_law_1266 dL_law_1267 dL_law_1268 ?_
  refine V_arg C hX 2 (by decide) (by decide) rfl rfl dL_law_1269 dL_law_1270 dL_law_1272 dL_law_1273 dL_law_1274 ?_
  refine V_calli (R_V C (c_X4_move hfl hJ.W hJ.I hJ.R) mi_X4_move mk_L_199 rfl (by decide) rfl (rfl : vwCl[6]? = some (RX4, TX4, 24)) ⟨(by decide), (by decide)⟩ rfl (Nat.le_of_ble_eq_true rfl) ⟨(by show _ ≤ 603072; omega), (by show _ ≤ 7194729; omega)⟩ dL_law_1275) (fun r7 a2 b2 hG => ?_)
  refine V_istore_7 C dL_law_1278 (by decide) ?_
  exact V_tail C hfl (by decide) ⟨(by show _ ≤ 603072; omega), (by show _ ≤ 7194729; omega)⟩ ⟨h1, h3, fun z => (h4 z).1⟩ (RF.opm hJ (fun b2 hg hK hR => JJ_move hJ hg hK hR) hG) rfl rfl rfl rfl rfl dL_law_1280 dL_law_1281 dL_law_1284 dL_law_1286 dL_law_1291 dL_law_1293 dL_law_1296 dL_law_1297 dL_law_1298 dL_law_1299 dL_law_1301 dL_law_1302 dL_law_1303 dL_law_1308 (off := 1047) (tgt := 2355) rfl (fun a3 b3 hj => V_widen (by omega) (by omega) (V_forget (lvLe.same (lvLe.same (lvLe.same (lvLe.same (lvLe.same (lvLe.same (lvLe.drop (lvLe.drop (lvLe.same lvLe.nil))))))))) (K a3 b3 o1 hj)))
set_option maxHeartbeats 4000000 in
set_option maxRecDepth 100000 in
theorem k_slotOf {p : Program} {l : Launch} {e : Env} {s : State} {m : MethodId} {args : Array Value} {below : List Frame} {meth : Method} {c : Code} {Q : State → Prop} {x : Sh} {q b : Mem} {o : Out} {bA L t : Nat} {xs : Nat → Int32} (C : CX p l s m meth c x cL_law RL 9) (hfl : l.stackTraces = false) (hX : LX s x bA L xs t) (hJ : JJ q b t) (K : ∀ q' b' o', JJ q' b' (t + 1) → VV p l e room_1 s m args below meth c Q x 9 q' b' o' (89 + 5 * (t + 1)) (2808 + 30 * (t + 1)) 2355 [some (.ref bA), some (.ref (x.2.1 0)), some (.ref (x.2.1 70)), some (.ref (x.2.1 87)), some (.ref (x.2.1 88)), some (.int (nI (6 * t))), none, none, none] []) : VV p l e room_1 s m args below meth c Q x 9 q b o (89 + 5 * t) (2808 + 30 * t) 1311 [some (.ref bA), some (.ref (x.2.1 0)), some (.ref (x.2.1 70)), some (.ref (x.2.1 87)), some (.ref (x.2.1 88)), some (.int (nI (6 * t))), none, none, none] [] := by
  have ht : t < 512 := by obtain ⟨_, _, _, h4, h5⟩ := hX; omega
  refine V_aload_n C dL_law_1311 rfl ?_
  refine V_arg C hX 1 (by decide) (by decide) rfl rfl dL_law_1312 dL_law_1313 dL_law_1315 dL_law_1316 dL_law_1317 ?_
  refine V_aload_n C dL_law_1318 rfl ?_
  refine V_calll (R_L C (c_L_slotOf hfl hJ.W) hw_L_slotOf mk_L_200 rfl ⟨(by decide), (by decide)⟩ rfl (Nat.le_of_ble_eq_true rfl) ⟨(by show _ ≤ 603072; omega), (by show _ ≤ 7194729; omega)⟩ dL_law_1319) (fun r a1 b1 o1 hF => ?_)
  obtain ⟨h1, rfl, h3, h4⟩ := hF
  refine V_istore_6 C dL_law_1322 (by decide) ?_
  refine V_aload_n C dL_law_1324 rfl ?_
  refine V_arg C hX 1 (by decide) (by decide) rfl rfl dL_law_1325 dL_law_1326 dL_law_1328 dL_law_1329 dL_law_1330 ?_
  refine V_calli (R_V C (c_X4_slotOf hfl hJ.W hJ.I hJ.R) mi_X4_slotOf mk_L_202 rfl (by decide) rfl (rfl : vwCl[6]? = some (RX4, TX4, 24)) ⟨(by decide), (by decide)⟩ rfl (Nat.le_of_ble_eq_true rfl) ⟨(by show _ ≤ 603072; omega), (by show _ ≤ 7194729; omega)⟩ dL_law_1331) (fun r7 a2 b2 hG => ?_)
  refine V_istore_7 C dL_law_1334 (by decide) ?_
  exact V_tail C hfl (by decide) ⟨(by show _ ≤ 603072; omega), (by show _ ≤ 7194729; omega)⟩ ⟨h1, h3, fun z => (h4 z).1⟩ (RF.rd hJ hG) rfl rfl rfl rfl rfl dL_law_1336 dL_law_1337 dL_law_1340 dL_law_1342 dL_law_1347 dL_law_1349 dL_law_1352 dL_law_1353 dL_law_1354 dL_law_1355 dL_law_1357 dL_law_1358 dL_law_1359 dL_law_1364 (off := 991) (tgt := 2355) rfl (fun a3 b3 hj => V_widen (by omega) (by omega) (V_forget (lvLe.same (lvLe.same (lvLe.same (lvLe.same (lvLe.same (lvLe.same (lvLe.drop (lvLe.drop (lvLe.same lvLe.nil))))))))) (K a3 b3 o1 hj)))
set_option maxHeartbeats 4000000 in
set_option maxRecDepth 100000 in
theorem k_write {p : Program} {l : Launch} {e : Env} {s : State} {m : MethodId} {args : Array Value} {below : List Frame} {meth : Method} {c : Code} {Q : State → Prop} {x : Sh} {q b : Mem} {o : Out} {bA L t : Nat} {xs : Nat → Int32} (C : CX p l s m meth c x cL_law RL 9) (hfl : l.stackTraces = false) (hX : LX s x bA L xs t) (hJ : JJ q b t) (K : ∀ q' b' o', JJ q' b' (t + 1) → VV p l e room_1 s m args below meth c Q x 9 q' b' o' (89 + 5 * (t + 1)) (2808 + 30 * (t + 1)) 2355 [some (.ref bA), some (.ref (x.2.1 0)), some (.ref (x.2.1 70)), some (.ref (x.2.1 87)), some (.ref (x.2.1 88)), some (.int (nI (6 * t))), none, none, none] []) : VV p l e room_1 s m args below meth c Q x 9 q b o (89 + 5 * t) (2808 + 30 * t) 1380 [some (.ref bA), some (.ref (x.2.1 0)), some (.ref (x.2.1 70)), some (.ref (x.2.1 87)), some (.ref (x.2.1 88)), some (.int (nI (6 * t))), none, none, none] [] := by
  have ht : t < 512 := by obtain ⟨_, _, _, h4, h5⟩ := hX; omega
  refine V_aload_n C dL_law_1380 rfl ?_
  refine V_arg C hX 1 (by decide) (by decide) rfl rfl dL_law_1381 dL_law_1382 dL_law_1384 dL_law_1385 dL_law_1386 ?_
  refine V_arg C hX 2 (by decide) (by decide) rfl rfl dL_law_1387 dL_law_1388 dL_law_1390 dL_law_1391 dL_law_1392 ?_
  refine V_arg C hX 3 (by decide) (by decide) rfl rfl dL_law_1393 dL_law_1394 dL_law_1396 dL_law_1397 dL_law_1398 ?_
  refine V_arg C hX 4 (by decide) (by decide) rfl rfl dL_law_1399 dL_law_1400 dL_law_1402 dL_law_1403 dL_law_1404 ?_
  refine V_i2c C dL_law_1405 rfl ?_
  refine V_arg C hX 5 (by decide) (by decide) rfl rfl dL_law_1406 dL_law_1407 dL_law_1409 dL_law_1410 dL_law_1411 ?_
  refine V_aload_n C dL_law_1412 rfl ?_
  refine V_calll (R_L C (c_L_write hfl hJ.W) hw_L_write mk_L_207 rfl ⟨(by decide), (by decide)⟩ rfl (Nat.le_of_ble_eq_true rfl) ⟨(by show _ ≤ 603072; omega), (by show _ ≤ 7194729; omega)⟩ dL_law_1413) (fun r a1 b1 o1 hF => ?_)
  obtain ⟨h1, rfl, h3, h4⟩ := hF
  refine V_istore_6 C dL_law_1416 (by decide) ?_
  refine V_aload_n C dL_law_1418 rfl ?_
  refine V_arg C hX 1 (by decide) (by decide) rfl rfl dL_law_1419 dL_law_1420 dL_law_1422 dL_law_1423 dL_law_1424 ?_
  refine V_arg C hX 2 (by decide) (by decide) rfl rfl dL_law_1425 dL_law_1426 dL_law_1428 dL_law_1429 dL_law_1430 ?_
  refine V_arg C hX 3 (by decide) (by decide) rfl rfl dL_law_1431 dL_law_1432 dL_law_1434 dL_law_1435 dL_law_1436 ?_
  refine V_arg C hX 4 (by decide) (by decide) rfl rfl dL_law_1437 dL_law_1438 dL_law_1440 dL_law_1441 dL_law_1442 ?_
  refine V_i2c C dL_law_1443 rfl ?_
  refine V_arg C hX 5 (by decide) (by decide) rfl rfl dL_law_1444 dL_law_1445 dL_law_1447 dL_law_1448 dL_law_1449 ?_
  refine V_calli (R_V C (c_X4_write hfl hJ.W hJ.I hJ.R) mi_X4_write mk_L_210 rfl (by decide) rfl (rfl : vwCl[6]? = some (RX4, TX4, 24)) ⟨(by decide), (by decide)⟩ rfl (Nat.le_of_ble_eq_true rfl) ⟨(by show _ ≤ 603072; omega), (by show _ ≤ 7194729; omega)⟩ dL_law_1450) (fun r7 a2 b2 hG => ?_)
  refine V_istore_7 C dL_law_1453 (by decide) ?_
  exact V_tail C hfl (by decide) ⟨(by show _ ≤ 603072; omega), (by show _ ≤ 7194729; omega)⟩ ⟨h1, h3, fun z => (h4 z).1⟩ (RF.mm hJ (by simp [up2]) (fun h => (JJ_write hJ h).mo (Nat.le_succ t)) hG) rfl rfl rfl rfl rfl dL_law_1455 dL_law_1456 dL_law_1459 dL_law_1461 dL_law_1466 dL_law_1468 dL_law_1471 dL_law_1472 dL_law_1473 dL_law_1474 dL_law_1476 dL_law_1477 dL_law_1478 dL_law_1483 (off := 872) (tgt := 2355) rfl (fun a3 b3 hj => V_widen (by omega) (by omega) (V_forget (lvLe.same (lvLe.same (lvLe.same (lvLe.same (lvLe.same (lvLe.same (lvLe.drop (lvLe.drop (lvLe.same lvLe.nil))))))))) (K a3 b3 o1 hj)))
set_option maxHeartbeats 4000000 in
set_option maxRecDepth 100000 in
theorem k_read {p : Program} {l : Launch} {e : Env} {s : State} {m : MethodId} {args : Array Value} {below : List Frame} {meth : Method} {c : Code} {Q : State → Prop} {x : Sh} {q b : Mem} {o : Out} {bA L t : Nat} {xs : Nat → Int32} (C : CX p l s m meth c x cL_law RL 9) (hfl : l.stackTraces = false) (hX : LX s x bA L xs t) (hJ : JJ q b t) (K : ∀ q' b' o', JJ q' b' (t + 1) → VV p l e room_1 s m args below meth c Q x 9 q' b' o' (89 + 5 * (t + 1)) (2808 + 30 * (t + 1)) 2355 [some (.ref bA), some (.ref (x.2.1 0)), some (.ref (x.2.1 70)), some (.ref (x.2.1 87)), some (.ref (x.2.1 88)), some (.int (nI (6 * t))), none, none, none] []) : VV p l e room_1 s m args below meth c Q x 9 q b o (89 + 5 * t) (2808 + 30 * t) 1486 [some (.ref bA), some (.ref (x.2.1 0)), some (.ref (x.2.1 70)), some (.ref (x.2.1 87)), some (.ref (x.2.1 88)), some (.int (nI (6 * t))), none, none, none] [] := by
  have ht : t < 512 := by obtain ⟨_, _, _, h4, h5⟩ := hX; omega
  refine V_aload_n C dL_law_1486 rfl ?_
  refine V_arg C hX 1 (by decide) (by decide) rfl rfl dL_law_1487 dL_law_1488 dL_law_1490 dL_law_1491 dL_law_1492 ?_
  refine V_arg C hX 2 (by decide) (by decide) rfl rfl dL_law_1493 dL_law_1494 dL_law_1496 dL_law_1497 dL_law_1498 ?_
  refine V_arg C hX 3 (by decide) (by decide) rfl rfl dL_law_1499 dL_law_1500 dL_law_1502 dL_law_1503 dL_law_1504 ?_
  refine V_arg C hX 4 (by decide) (by decide) rfl rfl dL_law_1505 dL_law_1506 dL_law_1508 dL_law_1509 dL_law_1510 ?_
  refine V_i2c C dL_law_1511 rfl ?_
  refine V_aload_n C dL_law_1512 rfl ?_
  refine V_calll (R_L C (c_L_read hfl hJ.W) hw_L_read mk_L_211 rfl ⟨(by decide), (by decide)⟩ rfl (Nat.le_of_ble_eq_true rfl) ⟨(by show _ ≤ 603072; omega), (by show _ ≤ 7194729; omega)⟩ dL_law_1513) (fun r a1 b1 o1 hF => ?_)
  obtain ⟨h1, rfl, h3, h4⟩ := hF
  refine V_istore_6 C dL_law_1516 (by decide) ?_
  refine V_aload_n C dL_law_1518 rfl ?_
  refine V_arg C hX 1 (by decide) (by decide) rfl rfl dL_law_1519 dL_law_1520 dL_law_1522 dL_law_1523 dL_law_1524 ?_
  refine V_arg C hX 2 (by decide) (by decide) rfl rfl dL_law_1525 dL_law_1526 dL_law_1528 dL_law_1529 dL_law_1530 ?_
  refine V_arg C hX 3 (by decide) (by decide) rfl rfl dL_law_1531 dL_law_1532 dL_law_1534 dL_law_1535 dL_law_1536 ?_
  refine V_arg C hX 4 (by decide) (by decide) rfl rfl dL_law_1537 dL_law_1538 dL_law_1540 dL_law_1541 dL_law_1542 ?_
  refine V_i2c C dL_law_1543 rfl ?_
  refine V_calli (R_V C (c_X4_read hfl hJ.W hJ.I hJ.R) mi_X4_read mk_L_214 rfl (by decide) rfl (rfl : vwCl[6]? = some (RX4, TX4, 24)) ⟨(by decide), (by decide)⟩ rfl (Nat.le_of_ble_eq_true rfl) ⟨(by show _ ≤ 603072; omega), (by show _ ≤ 7194729; omega)⟩ dL_law_1544) (fun r7 a2 b2 hG => ?_)
  refine V_istore_7 C dL_law_1547 (by decide) ?_
  exact V_tail C hfl (by decide) ⟨(by show _ ≤ 603072; omega), (by show _ ≤ 7194729; omega)⟩ ⟨h1, h3, fun z => (h4 z).1⟩ (RF.rd hJ hG) rfl rfl rfl rfl rfl dL_law_1549 dL_law_1550 dL_law_1553 dL_law_1555 dL_law_1560 dL_law_1562 dL_law_1565 dL_law_1566 dL_law_1567 dL_law_1568 dL_law_1570 dL_law_1571 dL_law_1572 dL_law_1577 (off := 778) (tgt := 2355) rfl (fun a3 b3 hj => V_widen (by omega) (by omega) (V_forget (lvLe.same (lvLe.same (lvLe.same (lvLe.same (lvLe.same (lvLe.same (lvLe.drop (lvLe.drop (lvLe.same lvLe.nil))))))))) (K a3 b3 o1 hj)))
set_option maxHeartbeats 4000000 in
set_option maxRecDepth 100000 in
theorem k_sync {p : Program} {l : Launch} {e : Env} {s : State} {m : MethodId} {args : Array Value} {below : List Frame} {meth : Method} {c : Code} {Q : State → Prop} {x : Sh} {q b : Mem} {o : Out} {bA L t : Nat} {xs : Nat → Int32} (C : CX p l s m meth c x cL_law RL 9) (hfl : l.stackTraces = false) (hX : LX s x bA L xs t) (hJ : JJ q b t) (K : ∀ q' b' o', JJ q' b' (t + 1) → VV p l e room_1 s m args below meth c Q x 9 q' b' o' (89 + 5 * (t + 1)) (2808 + 30 * (t + 1)) 2355 [some (.ref bA), some (.ref (x.2.1 0)), some (.ref (x.2.1 70)), some (.ref (x.2.1 87)), some (.ref (x.2.1 88)), some (.int (nI (6 * t))), none, none, none] []) : VV p l e room_1 s m args below meth c Q x 9 q b o (89 + 5 * t) (2808 + 30 * t) 1580 [some (.ref bA), some (.ref (x.2.1 0)), some (.ref (x.2.1 70)), some (.ref (x.2.1 87)), some (.ref (x.2.1 88)), some (.int (nI (6 * t))), none, none, none] [] := by
  have ht : t < 512 := by obtain ⟨_, _, _, h4, h5⟩ := hX; omega
  refine V_aload_n C dL_law_1580 rfl ?_
  refine V_arg C hX 1 (by decide) (by decide) rfl rfl dL_law_1581 dL_law_1582 dL_law_1584 dL_law_1585 dL_law_1586 ?_
  refine V_arg C hX 2 (by decide) (by decide) rfl rfl dL_law_1587 dL_law_1588 dL_law_1590 dL_law_1591 dL_law_1592 ?_
  refine V_aload_n C dL_law_1593 rfl ?_
  refine V_calll (R_L C (c_L_sync hfl hJ.W) hw_L_sync mk_L_215 rfl ⟨(by decide), (by decide)⟩ rfl (Nat.le_of_ble_eq_true rfl) ⟨(by show _ ≤ 603072; omega), (by show _ ≤ 7194729; omega)⟩ dL_law_1594) (fun r a1 b1 o1 hF => ?_)
  obtain ⟨h1, rfl, h3, h4⟩ := hF
  refine V_istore_6 C dL_law_1597 (by decide) ?_
  refine V_aload_n C dL_law_1599 rfl ?_
  refine V_arg C hX 1 (by decide) (by decide) rfl rfl dL_law_1600 dL_law_1601 dL_law_1603 dL_law_1604 dL_law_1605 ?_
  refine V_arg C hX 2 (by decide) (by decide) rfl rfl dL_law_1606 dL_law_1607 dL_law_1609 dL_law_1610 dL_law_1611 ?_
  refine V_calli (R_V C (c_X4_sync hfl hJ.W hJ.I hJ.R) mi_X4_sync mk_L_217 rfl (by decide) rfl (rfl : vwCl[6]? = some (RX4, TX4, 24)) ⟨(by decide), (by decide)⟩ rfl (Nat.le_of_ble_eq_true rfl) ⟨(by show _ ≤ 603072; omega), (by show _ ≤ 7194729; omega)⟩ dL_law_1612) (fun r7 a2 b2 hG => ?_)
  refine V_istore_7 C dL_law_1615 (by decide) ?_
  exact V_tail C hfl (by decide) ⟨(by show _ ≤ 603072; omega), (by show _ ≤ 7194729; omega)⟩ ⟨h1, h3, fun z => (h4 z).1⟩ (RF.opm hJ (fun b2 hg hK hR => JJ_sync hJ hg hK hR) hG) rfl rfl rfl rfl rfl dL_law_1617 dL_law_1618 dL_law_1621 dL_law_1623 dL_law_1628 dL_law_1630 dL_law_1633 dL_law_1634 dL_law_1635 dL_law_1636 dL_law_1638 dL_law_1639 dL_law_1640 dL_law_1645 (off := 710) (tgt := 2355) rfl (fun a3 b3 hj => V_widen (by omega) (by omega) (V_forget (lvLe.same (lvLe.same (lvLe.same (lvLe.same (lvLe.same (lvLe.same (lvLe.drop (lvLe.drop (lvLe.same lvLe.nil))))))))) (K a3 b3 o1 hj)))
set_option maxHeartbeats 4000000 in
set_option maxRecDepth 100000 in
theorem k_owner {p : Program} {l : Launch} {e : Env} {s : State} {m : MethodId} {args : Array Value} {below : List Frame} {meth : Method} {c : Code} {Q : State → Prop} {x : Sh} {q b : Mem} {o : Out} {bA L t : Nat} {xs : Nat → Int32} (C : CX p l s m meth c x cL_law RL 9) (hfl : l.stackTraces = false) (hX : LX s x bA L xs t) (hJ : JJ q b t) (K : ∀ q' b' o', JJ q' b' (t + 1) → VV p l e room_1 s m args below meth c Q x 9 q' b' o' (89 + 5 * (t + 1)) (2808 + 30 * (t + 1)) 2355 [some (.ref bA), some (.ref (x.2.1 0)), some (.ref (x.2.1 70)), some (.ref (x.2.1 87)), some (.ref (x.2.1 88)), some (.int (nI (6 * t))), none, none, none] []) : VV p l e room_1 s m args below meth c Q x 9 q b o (89 + 5 * t) (2808 + 30 * t) 1648 [some (.ref bA), some (.ref (x.2.1 0)), some (.ref (x.2.1 70)), some (.ref (x.2.1 87)), some (.ref (x.2.1 88)), some (.int (nI (6 * t))), none, none, none] [] := by
  have ht : t < 512 := by obtain ⟨_, _, _, h4, h5⟩ := hX; omega
  refine V_aload_n C dL_law_1648 rfl ?_
  refine V_arg C hX 1 (by decide) (by decide) rfl rfl dL_law_1649 dL_law_1650 dL_law_1652 dL_law_1653 dL_law_1654 ?_
  refine V_i2c C dL_law_1655 rfl ?_
  refine V_aload_n C dL_law_1656 rfl ?_
  refine V_calll (R_L C (c_L_owner hfl hJ.W) hw_L_owner mk_L_218 rfl ⟨(by decide), (by decide)⟩ rfl (Nat.le_of_ble_eq_true rfl) ⟨(by show _ ≤ 603072; omega), (by show _ ≤ 7194729; omega)⟩ dL_law_1657) (fun r a1 b1 o1 hF => ?_)
  obtain ⟨h1, rfl, h3, h4⟩ := hF
  refine V_istore_6 C dL_law_1660 (by decide) ?_
  refine V_aload_n C dL_law_1662 rfl ?_
  refine V_arg C hX 1 (by decide) (by decide) rfl rfl dL_law_1663 dL_law_1664 dL_law_1666 dL_law_1667 dL_law_1668 ?_
  refine V_i2c C dL_law_1669 rfl ?_
  refine V_calli (R_V C (c_X4_owner hfl hJ.W hJ.I hJ.R) mi_X4_owner mk_L_221 rfl (by decide) rfl (rfl : vwCl[6]? = some (RX4, TX4, 24)) ⟨(by decide), (by decide)⟩ rfl (Nat.le_of_ble_eq_true rfl) ⟨(by show _ ≤ 603072; omega), (by show _ ≤ 7194729; omega)⟩ dL_law_1670) (fun r7 a2 b2 hG => ?_)
  refine V_istore_7 C dL_law_1673 (by decide) ?_
  exact V_tail C hfl (by decide) ⟨(by show _ ≤ 603072; omega), (by show _ ≤ 7194729; omega)⟩ ⟨h1, h3, fun z => (h4 z).1⟩ (RF.rd hJ hG) rfl rfl rfl rfl rfl dL_law_1675 dL_law_1676 dL_law_1679 dL_law_1681 dL_law_1686 dL_law_1688 dL_law_1691 dL_law_1692 dL_law_1693 dL_law_1694 dL_law_1696 dL_law_1697 dL_law_1698 dL_law_1703 (off := 652) (tgt := 2355) rfl (fun a3 b3 hj => V_widen (by omega) (by omega) (V_forget (lvLe.same (lvLe.same (lvLe.same (lvLe.same (lvLe.same (lvLe.same (lvLe.drop (lvLe.drop (lvLe.same lvLe.nil))))))))) (K a3 b3 o1 hj)))
set_option maxHeartbeats 4000000 in
set_option maxRecDepth 100000 in
theorem k_setOwner {p : Program} {l : Launch} {e : Env} {s : State} {m : MethodId} {args : Array Value} {below : List Frame} {meth : Method} {c : Code} {Q : State → Prop} {x : Sh} {q b : Mem} {o : Out} {bA L t : Nat} {xs : Nat → Int32} (C : CX p l s m meth c x cL_law RL 9) (hfl : l.stackTraces = false) (hX : LX s x bA L xs t) (hJ : JJ q b t) (K : ∀ q' b' o', JJ q' b' (t + 1) → VV p l e room_1 s m args below meth c Q x 9 q' b' o' (89 + 5 * (t + 1)) (2808 + 30 * (t + 1)) 2355 [some (.ref bA), some (.ref (x.2.1 0)), some (.ref (x.2.1 70)), some (.ref (x.2.1 87)), some (.ref (x.2.1 88)), some (.int (nI (6 * t))), none, none, none] []) : VV p l e room_1 s m args below meth c Q x 9 q b o (89 + 5 * t) (2808 + 30 * t) 1706 [some (.ref bA), some (.ref (x.2.1 0)), some (.ref (x.2.1 70)), some (.ref (x.2.1 87)), some (.ref (x.2.1 88)), some (.int (nI (6 * t))), none, none, none] [] := by
  have ht : t < 512 := by obtain ⟨_, _, _, h4, h5⟩ := hX; omega
  refine V_aload_n C dL_law_1706 rfl ?_
  refine V_arg C hX 1 (by decide) (by decide) rfl rfl dL_law_1707 dL_law_1708 dL_law_1710 dL_law_1711 dL_law_1712 ?_
  refine V_i2c C dL_law_1713 rfl ?_
  refine V_arg C hX 2 (by decide) (by decide) rfl rfl dL_law_1714 dL_law_1715 dL_law_1717 dL_law_1718 dL_law_1719 ?_
  refine V_aload_n C dL_law_1720 rfl ?_
  refine V_calll (R_L C (c_L_setOwner hfl hJ.W) hw_L_setOwner mk_L_222 rfl ⟨(by decide), (by decide)⟩ rfl (Nat.le_of_ble_eq_true rfl) ⟨(by show _ ≤ 603072; omega), (by show _ ≤ 7194729; omega)⟩ dL_law_1721) (fun r a1 b1 o1 hF => ?_)
  obtain ⟨h1, rfl, h3, h4⟩ := hF
  refine V_istore_6 C dL_law_1724 (by decide) ?_
  refine V_aload_n C dL_law_1726 rfl ?_
  refine V_arg C hX 1 (by decide) (by decide) rfl rfl dL_law_1727 dL_law_1728 dL_law_1730 dL_law_1731 dL_law_1732 ?_
  refine V_i2c C dL_law_1733 rfl ?_
  refine V_arg C hX 2 (by decide) (by decide) rfl rfl dL_law_1734 dL_law_1735 dL_law_1737 dL_law_1738 dL_law_1739 ?_
  refine V_calli (R_V C (c_X4_setOwner hfl hJ.W hJ.I hJ.R) mi_X4_setOwner mk_L_225 rfl (by decide) rfl (rfl : vwCl[6]? = some (RX4, TX4, 24)) ⟨(by decide), (by decide)⟩ rfl (Nat.le_of_ble_eq_true rfl) ⟨(by show _ ≤ 603072; omega), (by show _ ≤ 7194729; omega)⟩ dL_law_1740) (fun r7 a2 b2 hG => ?_)
  refine V_istore_7 C dL_law_1743 (by decide) ?_
  exact V_tail C hfl (by decide) ⟨(by show _ ≤ 603072; omega), (by show _ ≤ 7194729; omega)⟩ ⟨h1, h3, fun z => (h4 z).1⟩ (RF.mm hJ (by simp [up2]) (fun h => (JJ_setOwner hJ h).mo (Nat.le_succ t)) hG) rfl rfl rfl rfl rfl dL_law_1745 dL_law_1746 dL_law_1749 dL_law_1751 dL_law_1756 dL_law_1758 dL_law_1761 dL_law_1762 dL_law_1763 dL_law_1764 dL_law_1766 dL_law_1767 dL_law_1768 dL_law_1773 (off := 582) (tgt := 2355) rfl (fun a3 b3 hj => V_widen (by omega) (by omega) (V_forget (lvLe.same (lvLe.same (lvLe.same (lvLe.same (lvLe.same (lvLe.same (lvLe.drop (lvLe.drop (lvLe.same lvLe.nil))))))))) (K a3 b3 o1 hj)))
set_option maxHeartbeats 4000000 in
set_option maxRecDepth 100000 in
theorem k_apart {p : Program} {l : Launch} {e : Env} {s : State} {m : MethodId} {args : Array Value} {below : List Frame} {meth : Method} {c : Code} {Q : State → Prop} {x : Sh} {q b : Mem} {o : Out} {bA L t : Nat} {xs : Nat → Int32} (C : CX p l s m meth c x cL_law RL 9) (hfl : l.stackTraces = false) (hX : LX s x bA L xs t) (hJ : JJ q b t) (K : ∀ q' b' o', JJ q' b' (t + 1) → VV p l e room_1 s m args below meth c Q x 9 q' b' o' (89 + 5 * (t + 1)) (2808 + 30 * (t + 1)) 2355 [some (.ref bA), some (.ref (x.2.1 0)), some (.ref (x.2.1 70)), some (.ref (x.2.1 87)), some (.ref (x.2.1 88)), some (.int (nI (6 * t))), none, none, none] []) : VV p l e room_1 s m args below meth c Q x 9 q b o (89 + 5 * t) (2808 + 30 * t) 1776 [some (.ref bA), some (.ref (x.2.1 0)), some (.ref (x.2.1 70)), some (.ref (x.2.1 87)), some (.ref (x.2.1 88)), some (.int (nI (6 * t))), none, none, none] [] := by
  have ht : t < 512 := by obtain ⟨_, _, _, h4, h5⟩ := hX; omega
  refine V_aload_n C dL_law_1776 rfl ?_
  refine V_arg C hX 1 (by decide) (by decide) rfl rfl dL_law_1777 dL_law_1778 dL_law_1780 dL_law_1781 dL_law_1782 ?_
  refine V_i2c C dL_law_1783 rfl ?_
  refine V_aload_n C dL_law_1784 rfl ?_
  refine V_calll (R_L C (c_L_apart hfl hJ.W) hw_L_apart mk_L_226 rfl ⟨(by decide), (by decide)⟩ rfl (Nat.le_of_ble_eq_true rfl) ⟨(by show _ ≤ 603072; omega), (by show _ ≤ 7194729; omega)⟩ dL_law_1785) (fun r a1 b1 o1 hF => ?_)
  obtain ⟨h1, rfl, h3, h4⟩ := hF
  refine V_istore_6 C dL_law_1788 (by decide) ?_
  refine V_aload_n C dL_law_1790 rfl ?_
  refine V_arg C hX 1 (by decide) (by decide) rfl rfl dL_law_1791 dL_law_1792 dL_law_1794 dL_law_1795 dL_law_1796 ?_
  refine V_i2c C dL_law_1797 rfl ?_
  refine V_calli (R_V C (c_X4_apart hfl hJ.W hJ.I hJ.R) mi_X4_apart mk_L_228 rfl (by decide) rfl (rfl : vwCl[6]? = some (RX4, TX4, 24)) ⟨(by decide), (by decide)⟩ rfl (Nat.le_of_ble_eq_true rfl) ⟨(by show _ ≤ 603072; omega), (by show _ ≤ 7194729; omega)⟩ dL_law_1798) (fun r7 a2 b2 hG => ?_)
  refine V_istore_7 C dL_law_1801 (by decide) ?_
  exact V_tail C hfl (by decide) ⟨(by show _ ≤ 603072; omega), (by show _ ≤ 7194729; omega)⟩ ⟨h1, h3, fun z => (h4 z).1⟩ (RF.rd hJ hG) rfl rfl rfl rfl rfl dL_law_1803 dL_law_1804 dL_law_1807 dL_law_1809 dL_law_1814 dL_law_1816 dL_law_1819 dL_law_1820 dL_law_1821 dL_law_1822 dL_law_1824 dL_law_1825 dL_law_1826 dL_law_1831 (off := 524) (tgt := 2355) rfl (fun a3 b3 hj => V_widen (by omega) (by omega) (V_forget (lvLe.same (lvLe.same (lvLe.same (lvLe.same (lvLe.same (lvLe.same (lvLe.drop (lvLe.drop (lvLe.same lvLe.nil))))))))) (K a3 b3 o1 hj)))
set_option maxHeartbeats 4000000 in
set_option maxRecDepth 100000 in
theorem k_maySit {p : Program} {l : Launch} {e : Env} {s : State} {m : MethodId} {args : Array Value} {below : List Frame} {meth : Method} {c : Code} {Q : State → Prop} {x : Sh} {q b : Mem} {o : Out} {bA L t : Nat} {xs : Nat → Int32} (C : CX p l s m meth c x cL_law RL 9) (hfl : l.stackTraces = false) (hX : LX s x bA L xs t) (hJ : JJ q b t) (K : ∀ q' b' o', JJ q' b' (t + 1) → VV p l e room_1 s m args below meth c Q x 9 q' b' o' (89 + 5 * (t + 1)) (2808 + 30 * (t + 1)) 2355 [some (.ref bA), some (.ref (x.2.1 0)), some (.ref (x.2.1 70)), some (.ref (x.2.1 87)), some (.ref (x.2.1 88)), some (.int (nI (6 * t))), none, none, none] []) : VV p l e room_1 s m args below meth c Q x 9 q b o (89 + 5 * t) (2808 + 30 * t) 1834 [some (.ref bA), some (.ref (x.2.1 0)), some (.ref (x.2.1 70)), some (.ref (x.2.1 87)), some (.ref (x.2.1 88)), some (.int (nI (6 * t))), none, none, none] [] := by
  have ht : t < 512 := by obtain ⟨_, _, _, h4, h5⟩ := hX; omega
  refine V_aload_n C dL_law_1834 rfl ?_
  refine V_arg C hX 1 (by decide) (by decide) rfl rfl dL_law_1835 dL_law_1836 dL_law_1838 dL_law_1839 dL_law_1840 ?_
  refine V_arg C hX 2 (by decide) (by decide) rfl rfl dL_law_1841 dL_law_1842 dL_law_1844 dL_law_1845 dL_law_1846 ?_
  refine V_aload_n C dL_law_1847 rfl ?_
  refine V_calll (R_L C (c_L_maySit hfl hJ.W) hw_L_maySit mk_L_229 rfl ⟨(by decide), (by decide)⟩ rfl (Nat.le_of_ble_eq_true rfl) ⟨(by show _ ≤ 603072; omega), (by show _ ≤ 7194729; omega)⟩ dL_law_1848) (fun r a1 b1 o1 hF => ?_)
  obtain ⟨h1, rfl, h3, h4⟩ := hF
  refine V_istore_6 C dL_law_1851 (by decide) ?_
  refine V_aload_n C dL_law_1853 rfl ?_
  refine V_arg C hX 1 (by decide) (by decide) rfl rfl dL_law_1854 dL_law_1855 dL_law_1857 dL_law_1858 dL_law_1859 ?_
  refine V_arg C hX 2 (by decide) (by decide) rfl rfl dL_law_1860 dL_law_1861 dL_law_1863 dL_law_1864 dL_law_1865 ?_
  refine V_calli (R_V C (c_X4_maySit hfl hJ.W hJ.I hJ.R) mi_X4_maySit mk_L_231 rfl (by decide) rfl (rfl : vwCl[6]? = some (RX4, TX4, 24)) ⟨(by decide), (by decide)⟩ rfl (Nat.le_of_ble_eq_true rfl) ⟨(by show _ ≤ 603072; omega), (by show _ ≤ 7194729; omega)⟩ dL_law_1866) (fun r7 a2 b2 hG => ?_)
  refine V_istore_7 C dL_law_1869 (by decide) ?_
  exact V_tailz C hfl (by decide) ⟨(by show _ ≤ 603072; omega), (by show _ ≤ 7194729; omega)⟩ ⟨h1, h3, fun z => (h4 z).1⟩ (RF.rd hJ hG) rfl rfl rfl rfl dL_law_1871 dL_law_1872 dL_law_1875 dL_law_1877 dL_law_1882 dL_law_1884 dL_law_1887 dL_law_1888 dL_law_1889 dL_law_1890 dL_law_1892 dL_law_1895 dL_law_1896 dL_law_1899 dL_law_1900 dL_law_1901 dL_law_1906 (off := 449) (tgt := 2355) rfl (fun a3 b3 hj => V_widen (by omega) (by omega) (V_forget (lvLe.same (lvLe.same (lvLe.same (lvLe.same (lvLe.same (lvLe.same (lvLe.drop (lvLe.drop (lvLe.same lvLe.nil))))))))) (K a3 b3 o1 hj)))
set_option maxHeartbeats 4000000 in
set_option maxRecDepth 100000 in
theorem k_isOpen {p : Program} {l : Launch} {e : Env} {s : State} {m : MethodId} {args : Array Value} {below : List Frame} {meth : Method} {c : Code} {Q : State → Prop} {x : Sh} {q b : Mem} {o : Out} {bA L t : Nat} {xs : Nat → Int32} (C : CX p l s m meth c x cL_law RL 9) (hfl : l.stackTraces = false) (hX : LX s x bA L xs t) (hJ : JJ q b t) (K : ∀ q' b' o', JJ q' b' (t + 1) → VV p l e room_1 s m args below meth c Q x 9 q' b' o' (89 + 5 * (t + 1)) (2808 + 30 * (t + 1)) 2355 [some (.ref bA), some (.ref (x.2.1 0)), some (.ref (x.2.1 70)), some (.ref (x.2.1 87)), some (.ref (x.2.1 88)), some (.int (nI (6 * t))), none, none, none] []) : VV p l e room_1 s m args below meth c Q x 9 q b o (89 + 5 * t) (2808 + 30 * t) 1909 [some (.ref bA), some (.ref (x.2.1 0)), some (.ref (x.2.1 70)), some (.ref (x.2.1 87)), some (.ref (x.2.1 88)), some (.int (nI (6 * t))), none, none, none] [] := by
  have ht : t < 512 := by obtain ⟨_, _, _, h4, h5⟩ := hX; omega
  refine V_aload_n C dL_law_1909 rfl ?_
  refine V_arg C hX 1 (by decide) (by decide) rfl rfl dL_law_1910 dL_law_1911 dL_law_1913 dL_law_1914 dL_law_1915 ?_
  refine V_arg C hX 2 (by decide) (by decide) rfl rfl dL_law_1916 dL_law_1917 dL_law_1919 dL_law_1920 dL_law_1921 ?_
  refine V_aload_n C dL_law_1922 rfl ?_
  refine V_calll (R_L C (c_L_isOpen hfl hJ.W) hw_L_isOpen mk_L_232 rfl ⟨(by decide), (by decide)⟩ rfl (Nat.le_of_ble_eq_true rfl) ⟨(by show _ ≤ 603072; omega), (by show _ ≤ 7194729; omega)⟩ dL_law_1923) (fun r a1 b1 o1 hF => ?_)
  obtain ⟨h1, rfl, h3, h4⟩ := hF
  refine V_istore_6 C dL_law_1926 (by decide) ?_
  refine V_aload_n C dL_law_1928 rfl ?_
  refine V_arg C hX 1 (by decide) (by decide) rfl rfl dL_law_1929 dL_law_1930 dL_law_1932 dL_law_1933 dL_law_1934 ?_
  refine V_arg C hX 2 (by decide) (by decide) rfl rfl dL_law_1935 dL_law_1936 dL_law_1938 dL_law_1939 dL_law_1940 ?_
  refine V_calli (R_V C (c_X4_isOpen hfl hJ.W hJ.I hJ.R) mi_X4_isOpen mk_L_234 rfl (by decide) rfl (rfl : vwCl[6]? = some (RX4, TX4, 24)) ⟨(by decide), (by decide)⟩ rfl (Nat.le_of_ble_eq_true rfl) ⟨(by show _ ≤ 603072; omega), (by show _ ≤ 7194729; omega)⟩ dL_law_1941) (fun r7 a2 b2 hG => ?_)
  refine V_istore_7 C dL_law_1944 (by decide) ?_
  exact V_tailz C hfl (by decide) ⟨(by show _ ≤ 603072; omega), (by show _ ≤ 7194729; omega)⟩ ⟨h1, h3, fun z => (h4 z).1⟩ (RF.rd hJ hG) rfl rfl rfl rfl dL_law_1946 dL_law_1947 dL_law_1950 dL_law_1952 dL_law_1957 dL_law_1959 dL_law_1962 dL_law_1963 dL_law_1964 dL_law_1965 dL_law_1967 dL_law_1970 dL_law_1971 dL_law_1974 dL_law_1975 dL_law_1976 dL_law_1981 (off := 374) (tgt := 2355) rfl (fun a3 b3 hj => V_widen (by omega) (by omega) (V_forget (lvLe.same (lvLe.same (lvLe.same (lvLe.same (lvLe.same (lvLe.same (lvLe.drop (lvLe.drop (lvLe.same lvLe.nil))))))))) (K a3 b3 o1 hj)))
set_option maxHeartbeats 4000000 in
set_option maxRecDepth 100000 in
theorem k_sit {p : Program} {l : Launch} {e : Env} {s : State} {m : MethodId} {args : Array Value} {below : List Frame} {meth : Method} {c : Code} {Q : State → Prop} {x : Sh} {q b : Mem} {o : Out} {bA L t : Nat} {xs : Nat → Int32} (C : CX p l s m meth c x cL_law RL 9) (hfl : l.stackTraces = false) (hX : LX s x bA L xs t) (hJ : JJ q b t) (K : ∀ q' b' o', JJ q' b' (t + 1) → VV p l e room_1 s m args below meth c Q x 9 q' b' o' (89 + 5 * (t + 1)) (2808 + 30 * (t + 1)) 2355 [some (.ref bA), some (.ref (x.2.1 0)), some (.ref (x.2.1 70)), some (.ref (x.2.1 87)), some (.ref (x.2.1 88)), some (.int (nI (6 * t))), none, none, none] []) : VV p l e room_1 s m args below meth c Q x 9 q b o (89 + 5 * t) (2808 + 30 * t) 1984 [some (.ref bA), some (.ref (x.2.1 0)), some (.ref (x.2.1 70)), some (.ref (x.2.1 87)), some (.ref (x.2.1 88)), some (.int (nI (6 * t))), none, none, none] [] := by
  have ht : t < 512 := by obtain ⟨_, _, _, h4, h5⟩ := hX; omega
  refine V_aload_n C dL_law_1984 rfl ?_
  refine V_arg C hX 1 (by decide) (by decide) rfl rfl dL_law_1985 dL_law_1986 dL_law_1988 dL_law_1989 dL_law_1990 ?_
  refine V_aload_n C dL_law_1991 rfl ?_
  refine V_calll (R_L C (c_L_sit hfl hJ.W) hw_L_sit mk_L_235 rfl ⟨(by decide), (by decide)⟩ rfl (Nat.le_of_ble_eq_true rfl) ⟨(by show _ ≤ 603072; omega), (by show _ ≤ 7194729; omega)⟩ dL_law_1992) (fun r a1 b1 o1 hF => ?_)
  obtain ⟨h1, rfl, h3, h4⟩ := hF
  refine V_istore_6 C dL_law_1995 (by decide) ?_
  refine V_aload_n C dL_law_1997 rfl ?_
  refine V_arg C hX 1 (by decide) (by decide) rfl rfl dL_law_1998 dL_law_1999 dL_law_2001 dL_law_2002 dL_law_2003 ?_
  refine V_calli (R_V C (c_X4_sit hfl hJ.W hJ.I hJ.R hJ.H) mi_X4_sit mk_L_237 rfl (by decide) rfl (rfl : vwCl[6]? = some (RX4, TX4, 24)) ⟨(by decide), (by decide)⟩ rfl (Nat.le_of_ble_eq_true rfl) ⟨(by show _ ≤ 603072; omega), (by show _ ≤ 7194729; omega)⟩ dL_law_2004) (fun r7 a2 b2 hG => ?_)
  refine V_istore_7 C dL_law_2007 (by decide) ?_
  exact V_tail C hfl (by decide) ⟨(by show _ ≤ 603072; omega), (by show _ ≤ 7194729; omega)⟩ ⟨h1, h3, fun z => (h4 z).1⟩ (⟨hG.1, hG.2.2.1, fun h => ⟨(by rw [hG.2.1, h]; rfl), (JJ_sit hJ h hG.2.2.2.1 (hG.2.2.2.2.1 h).1 (hG.2.2.2.2.1 h).2).mo (Nat.le_succ t)⟩, fun h => (show JJ q _ t from ⟨hJ.W, hJ.I, (hG.2.2.2.2.2 h).1, hJ.B.ks hG.2.2.2.1 (fun c j _ _ => rfl), (hG.2.2.2.2.2 h).2⟩).mo (Nat.le_succ t)⟩) rfl rfl rfl rfl rfl dL_law_2009 dL_law_2010 dL_law_2013 dL_law_2015 dL_law_2020 dL_law_2022 dL_law_2025 dL_law_2026 dL_law_2027 dL_law_2028 dL_law_2030 dL_law_2031 dL_law_2032 dL_law_2037 (off := 318) (tgt := 2355) rfl (fun a3 b3 hj => V_widen (by omega) (by omega) (V_forget (lvLe.same (lvLe.same (lvLe.same (lvLe.same (lvLe.same (lvLe.same (lvLe.drop (lvLe.drop (lvLe.same lvLe.nil))))))))) (K a3 b3 o1 hj)))
set_option maxHeartbeats 4000000 in
set_option maxRecDepth 100000 in
theorem k_hasSat {p : Program} {l : Launch} {e : Env} {s : State} {m : MethodId} {args : Array Value} {below : List Frame} {meth : Method} {c : Code} {Q : State → Prop} {x : Sh} {q b : Mem} {o : Out} {bA L t : Nat} {xs : Nat → Int32} (C : CX p l s m meth c x cL_law RL 9) (hfl : l.stackTraces = false) (hX : LX s x bA L xs t) (hJ : JJ q b t) (K : ∀ q' b' o', JJ q' b' (t + 1) → VV p l e room_1 s m args below meth c Q x 9 q' b' o' (89 + 5 * (t + 1)) (2808 + 30 * (t + 1)) 2355 [some (.ref bA), some (.ref (x.2.1 0)), some (.ref (x.2.1 70)), some (.ref (x.2.1 87)), some (.ref (x.2.1 88)), some (.int (nI (6 * t))), none, none, none] []) : VV p l e room_1 s m args below meth c Q x 9 q b o (89 + 5 * t) (2808 + 30 * t) 2040 [some (.ref bA), some (.ref (x.2.1 0)), some (.ref (x.2.1 70)), some (.ref (x.2.1 87)), some (.ref (x.2.1 88)), some (.int (nI (6 * t))), none, none, none] [] := by
  have ht : t < 512 := by obtain ⟨_, _, _, h4, h5⟩ := hX; omega
  refine V_aload_n C dL_law_2040 rfl ?_
  refine V_arg C hX 1 (by decide) (by decide) rfl rfl dL_law_2041 dL_law_2042 dL_law_2044 dL_law_2045 dL_law_2046 ?_
  refine V_arg C hX 2 (by decide) (by decide) rfl rfl dL_law_2047 dL_law_2048 dL_law_2050 dL_law_2051 dL_law_2052 ?_
  refine V_arg C hX 3 (by decide) (by decide) rfl rfl dL_law_2053 dL_law_2054 dL_law_2056 dL_law_2057 dL_law_2058 ?_
  refine V_bool C dL_law_2059 dL_law_2062 dL_law_2063 dL_law_2066 ?_
  refine V_aload_n C dL_law_2067 rfl ?_
  refine V_calll (R_L C (c_L_hasSat hfl hJ.W) hw_L_hasSat mk_L_238 rfl ⟨(by decide), (by decide)⟩ rfl (Nat.le_of_ble_eq_true rfl) ⟨(by show _ ≤ 603072; omega), (by show _ ≤ 7194729; omega)⟩ dL_law_2068) (fun r a1 b1 o1 hF => ?_)
  obtain ⟨h1, rfl, h3, h4⟩ := hF
  refine V_istore_6 C dL_law_2071 (by decide) ?_
  refine V_aload_n C dL_law_2073 rfl ?_
  refine V_arg C hX 1 (by decide) (by decide) rfl rfl dL_law_2074 dL_law_2075 dL_law_2077 dL_law_2078 dL_law_2079 ?_
  refine V_arg C hX 2 (by decide) (by decide) rfl rfl dL_law_2080 dL_law_2081 dL_law_2083 dL_law_2084 dL_law_2085 ?_
  refine V_arg C hX 3 (by decide) (by decide) rfl rfl dL_law_2086 dL_law_2087 dL_law_2089 dL_law_2090 dL_law_2091 ?_
  refine V_bool C dL_law_2092 dL_law_2095 dL_law_2096 dL_law_2099 ?_
  refine V_calli (R_V C (c_X4_hasSat hfl hJ.W hJ.I hJ.R (zI_or _) hJ.H) mi_X4_hasSat mk_L_240 rfl (by decide) rfl (rfl : vwCl[6]? = some (RX4, TX4, 24)) ⟨(by decide), (by decide)⟩ rfl (Nat.le_of_ble_eq_true rfl) ⟨(by show _ ≤ 603072; omega), (by show _ ≤ 7194729; omega)⟩ dL_law_2100) (fun r7 a2 b2 hG => ?_)
  refine V_istore_7 C dL_law_2103 (by decide) ?_
  exact V_tailz C hfl (by decide) ⟨(by show _ ≤ 603072; omega), (by show _ ≤ 7194729; omega)⟩ ⟨h1, h3, fun z => (h4 z).1⟩ (RF.rd hJ hG) rfl rfl rfl rfl dL_law_2105 dL_law_2106 dL_law_2109 dL_law_2111 dL_law_2116 dL_law_2118 dL_law_2121 dL_law_2122 dL_law_2123 dL_law_2124 dL_law_2126 dL_law_2129 dL_law_2130 dL_law_2133 dL_law_2134 dL_law_2135 dL_law_2140 (off := 215) (tgt := 2355) rfl (fun a3 b3 hj => V_widen (by omega) (by omega) (V_forget (lvLe.same (lvLe.same (lvLe.same (lvLe.same (lvLe.same (lvLe.same (lvLe.drop (lvLe.drop (lvLe.same lvLe.nil))))))))) (K a3 b3 o1 hj)))
set_option maxHeartbeats 4000000 in
set_option maxRecDepth 100000 in
theorem k_more {p : Program} {l : Launch} {e : Env} {s : State} {m : MethodId} {args : Array Value} {below : List Frame} {meth : Method} {c : Code} {Q : State → Prop} {x : Sh} {q b : Mem} {o : Out} {bA L t : Nat} {xs : Nat → Int32} (C : CX p l s m meth c x cL_law RL 9) (hfl : l.stackTraces = false) (hX : LX s x bA L xs t) (hJ : JJ q b t) (K : ∀ q' b' o', JJ q' b' (t + 1) → VV p l e room_1 s m args below meth c Q x 9 q' b' o' (89 + 5 * (t + 1)) (2808 + 30 * (t + 1)) 2355 [some (.ref bA), some (.ref (x.2.1 0)), some (.ref (x.2.1 70)), some (.ref (x.2.1 87)), some (.ref (x.2.1 88)), some (.int (nI (6 * t))), none, none, none] []) : VV p l e room_1 s m args below meth c Q x 9 q b o (89 + 5 * t) (2808 + 30 * t) 2143 [some (.ref bA), some (.ref (x.2.1 0)), some (.ref (x.2.1 70)), some (.ref (x.2.1 87)), some (.ref (x.2.1 88)), some (.int (nI (6 * t))), none, none, none] [] := by
  have ht : t < 512 := by obtain ⟨_, _, _, h4, h5⟩ := hX; omega
  refine V_aload_n C dL_law_2143 rfl ?_
  refine V_arg C hX 1 (by decide) (by decide) rfl rfl dL_law_2144 dL_law_2145 dL_law_2147 dL_law_2148 dL_law_2149 ?_
  refine V_arg C hX 2 (by decide) (by decide) rfl rfl dL_law_2150 dL_law_2151 dL_law_2153 dL_law_2154 dL_law_2155 ?_
  refine V_aload_n C dL_law_2156 rfl ?_
  refine V_calll (R_L C (c_L_more hfl hJ.W) hw_L_more mk_L_241 rfl ⟨(by decide), (by decide)⟩ rfl (Nat.le_of_ble_eq_true rfl) ⟨(by show _ ≤ 603072; omega), (by show _ ≤ 7194729; omega)⟩ dL_law_2157) (fun r a1 b1 o1 hF => ?_)
  obtain ⟨h1, rfl, h3, h4⟩ := hF
  refine V_istore_6 C dL_law_2160 (by decide) ?_
  refine V_aload_n C dL_law_2162 rfl ?_
  refine V_arg C hX 1 (by decide) (by decide) rfl rfl dL_law_2163 dL_law_2164 dL_law_2166 dL_law_2167 dL_law_2168 ?_
  refine V_arg C hX 2 (by decide) (by decide) rfl rfl dL_law_2169 dL_law_2170 dL_law_2172 dL_law_2173 dL_law_2174 ?_
  refine V_calli (R_V C (c_X4_more hfl hJ.W hJ.I hJ.R) mi_X4_more mk_L_243 rfl (by decide) rfl (rfl : vwCl[6]? = some (RX4, TX4, 24)) ⟨(by decide), (by decide)⟩ rfl (Nat.le_of_ble_eq_true rfl) ⟨(by show _ ≤ 603072; omega), (by show _ ≤ 7194729; omega)⟩ dL_law_2175) (fun r7 a2 b2 hG => ?_)
  refine V_istore_7 C dL_law_2178 (by decide) ?_
  exact V_tail C hfl (by decide) ⟨(by show _ ≤ 603072; omega), (by show _ ≤ 7194729; omega)⟩ ⟨h1, h3, fun z => (h4 z).1⟩ (RF.rd hJ hG) rfl rfl rfl rfl rfl dL_law_2180 dL_law_2181 dL_law_2184 dL_law_2186 dL_law_2191 dL_law_2193 dL_law_2196 dL_law_2197 dL_law_2198 dL_law_2199 dL_law_2201 dL_law_2202 dL_law_2203 dL_law_2208 (off := 147) (tgt := 2355) rfl (fun a3 b3 hj => V_widen (by omega) (by omega) (V_forget (lvLe.same (lvLe.same (lvLe.same (lvLe.same (lvLe.same (lvLe.same (lvLe.drop (lvLe.drop (lvLe.same lvLe.nil))))))))) (K a3 b3 o1 hj)))
