/-! calls that compare at once; floats and doubles -/
theorem ordS {d : FP.Core.Datum} (h : d ≠ .nan) : FP.Core.order d d = some .eq := by
  have hc : ∀ z : Int, compare z z = .eq := fun z => by
    show compareOfLessAndEq z z = .eq
    unfold compareOfLessAndEq
    rw [if_neg (Int.lt_irrefl z), if_pos rfl]
  cases d with
  | nan => exact absurd rfl h
  | inf s => exact congrArg some (hc _)
  | fin s c q => exact congrArg some (hc _)
theorem dcS {y : UInt64} (h : vf_n64 y) : Op.cmpValue (FP.dcmp y y) .l = 0 := by
  have e : FP.dcmp y y = some .eq := ordS (dec64 ((vfU64 y).mp h))
  rw [e]
  rfl
section LFL
variable {p : Program} {l : Launch} {e : Env} {R : Room} {s : State} {m : MethodId} {args : Array Value} {below : List Frame} {meth : Method} {c : Code} {Q : State → Prop} {x : Sh} {nL : Nat} {a b : Mem} {o : Out} {cells slots pc : Nat} {lv : List (Option Value)} {st rest As : List Value} {cc : ByteArray} {own : String}
theorem V_callF {Φ : UInt32 → Mem → Mem → Prop} (hr : RUN p l e R s m args below meth c x nL a b o cells slots pc st rest (QF x o Φ) As) (kk : ∀ r a' b', Φ r a' b' → VV p l e R s m args below meth c Q x nL a' b' o cells slots (pc + 3) lv (.float r :: rest)) : VV p l e R s m args below meth c Q x nL a b o cells slots pc lv st :=
  fun H locs ls hP hS hL => va_callf (hr H locs ls hP hS hL.1) hS (fun q _ h => AW_A hS q h) (AW_A hS) (fun r u t H1 locs1 ht _ hp hB _ _ hS1 => kk r u.1 u.2 hp H1 locs1 ls (by rw [ht] at hB; exact hB) hS1 hL)
theorem V_callD {Φ : UInt64 → Mem → Mem → Prop} (hr : RUN p l e R s m args below meth c x nL a b o cells slots pc st rest (QDD x o Φ) As) (kk : ∀ r a' b', Φ r a' b' → VV p l e R s m args below meth c Q x nL a' b' o cells slots (pc + 3) lv (.double r :: rest)) : VV p l e R s m args below meth c Q x nL a b o cells slots pc lv st :=
  fun H locs ls hP hS hL => va_calld (hr H locs ls hP hS hL.1) hS (fun q _ h => AW_A hS q h) (AW_A hS) (fun r u t H1 locs1 ht _ hp hB _ _ hS1 => kk r u.1 u.2 hp H1 locs1 ls (by rw [ht] at hB; exact hB) hS1 hL)
theorem V_fload (C : CX p l s m meth c x cc own nL) {k : Nat} {y : UInt32} (hd : decode cc pc = .ok (.fload k, 2)) (hl : lv[k]? = some (some (.float y))) (kk : VV p l e R s m args below meth c Q x nL a b o cells slots (pc + 2) lv (.float y :: st)) : VV p l e R s m args below meth c Q x nL a b o cells slots pc lv st := fun H locs ls hP hS hL => lv_fload C.1 C.2.1 hd (hL.2.2.2 _ _ hl).1 (kk H locs ls hP hS hL)
theorem V_fstore (C : CX p l s m meth c x cc own nL) {k : Nat} {y : UInt32} (hd : decode cc pc = .ok (.fstore k, 2)) (hn : k < nL) {lv' : List (Option Value)} (he : lv.set k (some (.float y)) = lv') (kk : VV p l e R s m args below meth c Q x nL a b o cells slots (pc + 2) lv' st) : VV p l e R s m args below meth c Q x nL a b o cells slots pc lv (.float y :: st) := by
  subst he
  intro H locs ls hP hS hL
  obtain ⟨ls', e', h'⟩ := hL.store (v := .float y) hn rfl
  obtain ⟨hx, hb, -⟩ := id C
  intro T hT X
  obtain ⟨t, a1, b1⟩ := kk H locs ls' hP hS h' T hT X
  refine ⟨t, ?_, b1⟩
  jvm_step X.here [X.here.top, hx, hb, hd, e', Value.isRef]
  exact a1
end LFL
set_option maxHeartbeats 4000000 in
set_option maxRecDepth 100000 in
theorem k_bids {p : Program} {l : Launch} {e : Env} {s : State} {m : MethodId} {args : Array Value} {below : List Frame} {meth : Method} {c : Code} {Q : State → Prop} {x : Sh} {q b : Mem} {o : Out} {bA L t : Nat} {xs : Nat → Int32} (C : CX p l s m meth c x cL_law RL 9) (hfl : l.stackTraces = false) (hX : LX s x bA L xs t) (hJ : JJ q b t) (K : ∀ q' b' o', JJ q' b' (t + 1) → VV p l e room_1 s m args below meth c Q x 9 q' b' o' (89 + 5 * (t + 1)) (2808 + 30 * (t + 1)) 2355 [some (.ref bA), some (.ref (x.2.1 0)), some (.ref (x.2.1 70)), some (.ref (x.2.1 87)), some (.ref (x.2.1 88)), some (.int (nI (6 * t))), none, none, none] []) : VV p l e room_1 s m args below meth c Q x 9 q b o (89 + 5 * t) (2808 + 30 * t) 600 [some (.ref bA), some (.ref (x.2.1 0)), some (.ref (x.2.1 70)), some (.ref (x.2.1 87)), some (.ref (x.2.1 88)), some (.int (nI (6 * t))), none, none, none] [] := by
  have ht : t < 512 := by obtain ⟨_, _, _, h4, h5⟩ := hX; omega
  refine V_aload_n C dL_law_600 rfl ?_
  refine V_callf (R_V C (c_X3_bids hfl) mi_X3_bids mk_L_157 rfl (by decide) rfl (rfl : vwCl[5]? = some (RX3, TX3, 13)) ⟨(by decide), (by decide)⟩ rfl (Nat.le_of_ble_eq_true rfl) ⟨(by show _ ≤ 603072; omega), (by show _ ≤ 7194729; omega)⟩ dL_law_601) ?_
  refine V_aload_n C dL_law_604 rfl ?_
  refine V_callf (R_V C (c_X4_bids hfl hJ.W hJ.I hJ.R hJ.B) mi_X4_bids mk_L_160 rfl (by decide) rfl (rfl : vwCl[6]? = some (RX4, TX4, 24)) ⟨(by decide), (by decide)⟩ rfl (Nat.le_of_ble_eq_true rfl) ⟨(by show _ ≤ 603072; omega), (by show _ ≤ 7194729; omega)⟩ dL_law_605) ?_
  exact V_icmp_eq C 2355 dL_law_608 (by decide) (fun _ => V_widen (by omega) (by omega) (K _ _ _ ((hJ.mo (Nat.le_succ t)).th))) (fun h => absurd rfl h)
set_option maxHeartbeats 4000000 in
set_option maxRecDepth 100000 in
theorem k_settle {p : Program} {l : Launch} {e : Env} {s : State} {m : MethodId} {args : Array Value} {below : List Frame} {meth : Method} {c : Code} {Q : State → Prop} {x : Sh} {q b : Mem} {o : Out} {bA L t : Nat} {xs : Nat → Int32} (C : CX p l s m meth c x cL_law RL 9) (hfl : l.stackTraces = false) (hX : LX s x bA L xs t) (hJ : JJ q b t) (K : ∀ q' b' o', JJ q' b' (t + 1) → VV p l e room_1 s m args below meth c Q x 9 q' b' o' (89 + 5 * (t + 1)) (2808 + 30 * (t + 1)) 2355 [some (.ref bA), some (.ref (x.2.1 0)), some (.ref (x.2.1 70)), some (.ref (x.2.1 87)), some (.ref (x.2.1 88)), some (.int (nI (6 * t))), none, none, none] []) : VV p l e room_1 s m args below meth c Q x 9 q b o (89 + 5 * t) (2808 + 30 * t) 613 [some (.ref bA), some (.ref (x.2.1 0)), some (.ref (x.2.1 70)), some (.ref (x.2.1 87)), some (.ref (x.2.1 88)), some (.int (nI (6 * t))), none, none, none] [] := by
  have ht : t < 512 := by obtain ⟨_, _, _, h4, h5⟩ := hX; omega
  refine V_aload_n C dL_law_613 rfl ?_
  refine V_callf (R_V C (c_X3_settle hfl hJ.W) mi_X3_settle mk_L_161 rfl (by decide) rfl (rfl : vwCl[5]? = some (RX3, TX3, 13)) ⟨(by decide), (by decide)⟩ rfl (Nat.le_of_ble_eq_true rfl) ⟨(by show _ ≤ 603072; omega), (by show _ ≤ 7194729; omega)⟩ dL_law_614) ?_
  refine V_aload_n C dL_law_617 rfl ?_
  refine V_calli (R_V C (c_X4_settle hfl hJ.W hJ.I hJ.R hJ.B) mi_X4_settle mk_L_164 rfl (by decide) rfl (rfl : vwCl[6]? = some (RX4, TX4, 24)) ⟨(by decide), (by decide)⟩ rfl (Nat.le_of_ble_eq_true rfl) ⟨(by show _ ≤ 603072; omega), (by show _ ≤ 7194729; omega)⟩ dL_law_618) (fun r7 a2 b2 hG => ?_)
  obtain ⟨rfl, rfl, g3, g4, g5, g6, g7⟩ := hG
  exact V_icmp_eq C 2355 dL_law_621 (by decide) (fun _ => V_widen (by omega) (by omega) (K _ _ _ ((JJ_settle hJ g4 g5 g6 g7).mo (Nat.le_succ t)))) (fun h => absurd rfl h)
set_option maxHeartbeats 4000000 in
set_option maxRecDepth 100000 in
theorem k_rounds {p : Program} {l : Launch} {e : Env} {s : State} {m : MethodId} {args : Array Value} {below : List Frame} {meth : Method} {c : Code} {Q : State → Prop} {x : Sh} {q b : Mem} {o : Out} {bA L t : Nat} {xs : Nat → Int32} (C : CX p l s m meth c x cL_law RL 9) (hfl : l.stackTraces = false) (hX : LX s x bA L xs t) (hJ : JJ q b t) (K : ∀ q' b' o', JJ q' b' (t + 1) → VV p l e room_1 s m args below meth c Q x 9 q' b' o' (89 + 5 * (t + 1)) (2808 + 30 * (t + 1)) 2355 [some (.ref bA), some (.ref (x.2.1 0)), some (.ref (x.2.1 70)), some (.ref (x.2.1 87)), some (.ref (x.2.1 88)), some (.int (nI (6 * t))), none, none, none] []) : VV p l e room_1 s m args below meth c Q x 9 q b o (89 + 5 * t) (2808 + 30 * t) 626 [some (.ref bA), some (.ref (x.2.1 0)), some (.ref (x.2.1 70)), some (.ref (x.2.1 87)), some (.ref (x.2.1 88)), some (.int (nI (6 * t))), none, none, none] [] := by
  have ht : t < 512 := by obtain ⟨_, _, _, h4, h5⟩ := hX; omega
  refine V_aload_n C dL_law_626 rfl ?_
  refine V_callf (R_V C (c_X3_rounds hfl) mi_X3_rounds mk_L_165 rfl (by decide) rfl (rfl : vwCl[5]? = some (RX3, TX3, 13)) ⟨(by decide), (by decide)⟩ rfl (Nat.le_of_ble_eq_true rfl) ⟨(by show _ ≤ 603072; omega), (by show _ ≤ 7194729; omega)⟩ dL_law_627) ?_
  refine V_aload_n C dL_law_630 rfl ?_
  refine V_callf (R_V C (c_X4_rounds hfl hJ.W hJ.I hJ.R) mi_X4_rounds mk_L_168 rfl (by decide) rfl (rfl : vwCl[6]? = some (RX4, TX4, 24)) ⟨(by decide), (by decide)⟩ rfl (Nat.le_of_ble_eq_true rfl) ⟨(by show _ ≤ 603072; omega), (by show _ ≤ 7194729; omega)⟩ dL_law_631) ?_
  exact V_icmp_eq C 2355 dL_law_634 (by decide) (fun _ => V_widen (by omega) (by omega) (K _ _ _ ((hJ.mo (Nat.le_succ t)).th))) (fun h => absurd rfl h)
set_option maxHeartbeats 4000000 in
set_option maxRecDepth 100000 in
theorem k_refunds {p : Program} {l : Launch} {e : Env} {s : State} {m : MethodId} {args : Array Value} {below : List Frame} {meth : Method} {c : Code} {Q : State → Prop} {x : Sh} {q b : Mem} {o : Out} {bA L t : Nat} {xs : Nat → Int32} (C : CX p l s m meth c x cL_law RL 9) (hfl : l.stackTraces = false) (hX : LX s x bA L xs t) (hJ : JJ q b t) (K : ∀ q' b' o', JJ q' b' (t + 1) → VV p l e room_1 s m args below meth c Q x 9 q' b' o' (89 + 5 * (t + 1)) (2808 + 30 * (t + 1)) 2355 [some (.ref bA), some (.ref (x.2.1 0)), some (.ref (x.2.1 70)), some (.ref (x.2.1 87)), some (.ref (x.2.1 88)), some (.int (nI (6 * t))), none, none, none] []) : VV p l e room_1 s m args below meth c Q x 9 q b o (89 + 5 * t) (2808 + 30 * t) 1367 [some (.ref bA), some (.ref (x.2.1 0)), some (.ref (x.2.1 70)), some (.ref (x.2.1 87)), some (.ref (x.2.1 88)), some (.int (nI (6 * t))), none, none, none] [] := by
  have ht : t < 512 := by obtain ⟨_, _, _, h4, h5⟩ := hX; omega
  refine V_aload_n C dL_law_1367 rfl ?_
  refine V_callf (R_V C (c_X3_refunds hfl) mi_X3_refunds mk_L_203 rfl (by decide) rfl (rfl : vwCl[5]? = some (RX3, TX3, 13)) ⟨(by decide), (by decide)⟩ rfl (Nat.le_of_ble_eq_true rfl) ⟨(by show _ ≤ 603072; omega), (by show _ ≤ 7194729; omega)⟩ dL_law_1368) ?_
  refine V_aload_n C dL_law_1371 rfl ?_
  refine V_callf (R_V C (c_X4_refunds hfl hJ.W hJ.I hJ.R) mi_X4_refunds mk_L_206 rfl (by decide) rfl (rfl : vwCl[6]? = some (RX4, TX4, 24)) ⟨(by decide), (by decide)⟩ rfl (Nat.le_of_ble_eq_true rfl) ⟨(by show _ ≤ 603072; omega), (by show _ ≤ 7194729; omega)⟩ dL_law_1372) ?_
  exact V_icmp_eq C 2355 dL_law_1375 (by decide) (fun _ => V_widen (by omega) (by omega) (K _ _ _ ((hJ.mo (Nat.le_succ t)).th))) (fun h => absurd rfl h)
set_option maxHeartbeats 4000000 in
set_option maxRecDepth 100000 in
theorem k_isTrue {p : Program} {l : Launch} {e : Env} {s : State} {m : MethodId} {args : Array Value} {below : List Frame} {meth : Method} {c : Code} {Q : State → Prop} {x : Sh} {q b : Mem} {o : Out} {bA L t : Nat} {xs : Nat → Int32} (C : CX p l s m meth c x cL_law RL 9) (hfl : l.stackTraces = false) (hX : LX s x bA L xs t) (hJ : JJ q b t) (K : ∀ q' b' o', JJ q' b' (t + 1) → VV p l e room_1 s m args below meth c Q x 9 q' b' o' (89 + 5 * (t + 1)) (2808 + 30 * (t + 1)) 2355 [some (.ref bA), some (.ref (x.2.1 0)), some (.ref (x.2.1 70)), some (.ref (x.2.1 87)), some (.ref (x.2.1 88)), some (.int (nI (6 * t))), none, none, none] []) : VV p l e room_1 s m args below meth c Q x 9 q b o (89 + 5 * t) (2808 + 30 * t) 2342 [some (.ref bA), some (.ref (x.2.1 0)), some (.ref (x.2.1 70)), some (.ref (x.2.1 87)), some (.ref (x.2.1 88)), some (.int (nI (6 * t))), none, none, none] [] := by
  have ht : t < 512 := by obtain ⟨_, _, _, h4, h5⟩ := hX; omega
  refine V_aload_n C dL_law_2342 rfl ?_
  refine V_callf (R_V C (c_X3_isTrue hfl hJ.W (fun p hp => hJ.I.nc p (Nat.lt_of_lt_of_le hp hJ.W.pl)) hJ.I.pw hJ.I.fu (fun i hi => hJ.I.qs i (Nat.lt_of_lt_of_le hi hJ.W.ol)) hJ.I.rs0) mi_X3_isTrue mk_L_251 rfl (by decide) rfl (rfl : vwCl[5]? = some (RX3, TX3, 13)) ⟨(by decide), (by decide)⟩ rfl (Nat.le_of_ble_eq_true rfl) ⟨(by show _ ≤ 603072; omega), (by show _ ≤ 7194729; omega)⟩ dL_law_2343) ?_
  refine V_aload_n C dL_law_2346 rfl ?_
  refine V_callf (R_V C (c_X4_isTrue hfl) mi_X4_isTrue mk_L_255 rfl (by decide) rfl (rfl : vwCl[6]? = some (RX4, TX4, 24)) ⟨(by decide), (by decide)⟩ rfl (Nat.le_of_ble_eq_true rfl) ⟨(by show _ ≤ 603072; omega), (by show _ ≤ 7194729; omega)⟩ dL_law_2347) ?_
  exact V_icmp_eq C 2355 dL_law_2350 (by decide) (fun _ => V_widen (by omega) (by omega) (K _ _ _ ((hJ.mo (Nat.le_succ t)).th))) (fun h => absurd rfl h)
set_option maxHeartbeats 4000000 in
set_option maxRecDepth 100000 in
theorem k_takenShare {p : Program} {l : Launch} {e : Env} {s : State} {m : MethodId} {args : Array Value} {below : List Frame} {meth : Method} {c : Code} {Q : State → Prop} {x : Sh} {q b : Mem} {o : Out} {bA L t : Nat} {xs : Nat → Int32} (C : CX p l s m meth c x cL_law RL 9) (hfl : l.stackTraces = false) (hX : LX s x bA L xs t) (hJ : JJ q b t) (K : ∀ q' b' o', JJ q' b' (t + 1) → VV p l e room_1 s m args below meth c Q x 9 q' b' o' (89 + 5 * (t + 1)) (2808 + 30 * (t + 1)) 2355 [some (.ref bA), some (.ref (x.2.1 0)), some (.ref (x.2.1 70)), some (.ref (x.2.1 87)), some (.ref (x.2.1 88)), some (.int (nI (6 * t))), none, none, none] []) : VV p l e room_1 s m args below meth c Q x 9 q b o (89 + 5 * t) (2808 + 30 * t) 2211 [some (.ref bA), some (.ref (x.2.1 0)), some (.ref (x.2.1 70)), some (.ref (x.2.1 87)), some (.ref (x.2.1 88)), some (.int (nI (6 * t))), none, none, none] [] := by
  have ht : t < 512 := by obtain ⟨_, _, _, h4, h5⟩ := hX; omega
  have hnn : gzero (q 0 10) = none → vf_n64 (FP.f2d (shF (nI (sumK (nTaken q) (nO q))) (nI (sumK (stN q) (nO q))))) := fun hg => by
      have hol := hJ.W.ol
      have h8 := sumK_le (f := stN q) (c := 6) (n := nO q) (fun i hi => hJ.W.stl (by omega))
      have h7 : nO q ≤ sumK (stN q) (nO q) := sumK_ge (fun i hi => hJ.I.st1 hi)
      have hn0 : nO q ≠ 0 := by
        intro z
        unfold gzero at hg
        rw [hJ.W.oe, z] at hg
        cases hg
      exact f2d_nn (fdiv_nn _ (by omega) (by omega))
  refine V_aload_n C dL_law_2211 rfl ?_
  refine V_aload C dL_law_2212 rfl ?_
  refine V_calll (R_L C (c_L_takenShare hfl hJ.W (fun i hi => hJ.I.st1 hi)) hw_L_takenShare mk_L_244 rfl ⟨(by decide), (by decide)⟩ rfl (Nat.le_of_ble_eq_true rfl) ⟨(by show _ ≤ 603072; omega), (by show _ ≤ 7194729; omega)⟩ dL_law_2214) (fun r a1 b1 o1 hF => ?_)
  obtain ⟨h1, rfl, h3, h4⟩ := hF
  refine V_istore_6 C dL_law_2217 (by decide) ?_
  refine V_aload_n C dL_law_2219 rfl ?_
  refine V_callF (R_V C (c_X4_takenShare hfl hJ.W hJ.I hJ.R) mi_X4_takenShare mk_L_247 rfl (by decide) rfl (rfl : vwCl[6]? = some (RX4, TX4, 24)) ⟨(by decide), (by decide)⟩ rfl (Nat.le_of_ble_eq_true rfl) ⟨(by show _ ≤ 603072; omega), (by show _ ≤ 7194729; omega)⟩ dL_law_2220) (fun r7 a2 b2 hG => ?_)
  obtain ⟨rfl, rfl, rfl⟩ := hG
  refine V_fstore C dL_law_2223 (by decide) rfl ?_
  refine V_thr C hfl ⟨(by show _ ≤ 603072; omega), (by show _ ≤ 7194729; omega)⟩ rfl rfl (by rw [h1]; exact if_pos ⟨rfl, rfl⟩) dL_law_2225 dL_law_2226 dL_law_2229 dL_law_2231 ?_
  have hend : a2 = q → VV p l e room_1 s m args below meth c Q x 9 a2 (up2 b1 70 0 (cd [eR] (gzero (q 0 10)))) o1 (89 + 5 * t + 1) (2808 + 30 * t + 6) 2274 [some (.ref bA), some (.ref (x.2.1 0)), some (.ref (x.2.1 70)), some (.ref (x.2.1 87)), some (.ref (x.2.1 88)), some (.int (nI (6 * t))), some (.int r), some (.float (rdF (gzero (q 0 10)) (shF (nI (sumK (nTaken q) (nO q))) (nI (sumK (stN q) (nO q)))))), none] [] := fun z => by
      refine V_goto C 2355 dL_law_2274 (by decide) ?_
      rw [z]
      exact V_widen (by omega) (by omega) (V_forget (lvLe.same (lvLe.same (lvLe.same (lvLe.same (lvLe.same (lvLe.same (lvLe.drop (lvLe.drop (lvLe.same lvLe.nil))))))))) (K q _ o1 (hJ.mo (Nat.le_succ t)).th))
  refine V_iload C dL_law_2236 rfl ?_
  refine V_if_ne C 2274 dL_law_2238 (by decide) (fun h => ?_) (fun h => ?_)
  · exact hend (h4 (fun z => h (by rw [h1, z]; rfl))).1
  · have hg : gzero (q 0 10) = none := cd_0 (L := [eR]) (by rw [← h1]; exact h) (by decide)
    obtain ⟨e1, e2⟩ := h3 hg
    refine V_aload C dL_law_2241 rfl ?_
    refine V_iconst (v := 0) C dL_law_2243 (by decide) ?_
    refine V_dald C rfl dL_law_2244 ?_
    refine V_fload C dL_law_2245 rfl ?_
    have e3 : rdF (gzero (q 0 10)) (shF (nI (sumK (nTaken q) (nO q))) (nI (sumK (stN q) (nO q)))) = shF (nI (sumK (nTaken q) (nO q))) (nI (sumK (stN q) (nO q))) := by rw [hg]; rfl
    refine V_f2d C dL_law_2247 (by rw [e3]; exact hnn hg) ?_
    refine V_dcmp C dL_law_2248 ?_
    refine V_topi (w := 0) (by rw [e3, e2]; exact dcS (hnn hg)) ?_
    exact V_if_eq C 2274 dL_law_2249 (by decide) (fun _ => hend e1) (fun z => absurd rfl z)
set_option maxHeartbeats 4000000 in
set_option maxRecDepth 100000 in
theorem k_meanPoints {p : Program} {l : Launch} {e : Env} {s : State} {m : MethodId} {args : Array Value} {below : List Frame} {meth : Method} {c : Code} {Q : State → Prop} {x : Sh} {q b : Mem} {o : Out} {bA L t : Nat} {xs : Nat → Int32} (C : CX p l s m meth c x cL_law RL 9) (hfl : l.stackTraces = false) (hX : LX s x bA L xs t) (hJ : JJ q b t) (K : ∀ q' b' o', JJ q' b' (t + 1) → VV p l e room_1 s m args below meth c Q x 9 q' b' o' (89 + 5 * (t + 1)) (2808 + 30 * (t + 1)) 2355 [some (.ref bA), some (.ref (x.2.1 0)), some (.ref (x.2.1 70)), some (.ref (x.2.1 87)), some (.ref (x.2.1 88)), some (.int (nI (6 * t))), none, none, none] []) : VV p l e room_1 s m args below meth c Q x 9 q b o (89 + 5 * t) (2808 + 30 * t) 2277 [some (.ref bA), some (.ref (x.2.1 0)), some (.ref (x.2.1 70)), some (.ref (x.2.1 87)), some (.ref (x.2.1 88)), some (.int (nI (6 * t))), none, none, none] [] := by
  have ht : t < 512 := by obtain ⟨_, _, _, h4, h5⟩ := hX; omega
  have hnn : gzero (q 0 9) = none → vf_n64 (mnF (sumN (q 67) (nP q)) (q 0 9)) := fun hg => by
      have hol := hJ.W.pl
      have hn0 : nP q ≠ 0 := by
        intro z
        unfold gzero at hg
        rw [hJ.W.pe, z] at hg
        cases hg
      unfold mnF
      rw [hJ.W.pe]
      exact ddiv_nn _ (by omega) hn0
  refine V_aload_n C dL_law_2277 rfl ?_
  refine V_aload C dL_law_2278 rfl ?_
  refine V_calll (R_L C (c_L_meanPoints hfl hJ.W) hw_L_meanPoints mk_L_248 rfl ⟨(by decide), (by decide)⟩ rfl (Nat.le_of_ble_eq_true rfl) ⟨(by show _ ≤ 603072; omega), (by show _ ≤ 7194729; omega)⟩ dL_law_2280) (fun r a1 b1 o1 hF => ?_)
  obtain ⟨h1, rfl, h3, h4⟩ := hF
  refine V_istore_6 C dL_law_2283 (by decide) ?_
  refine V_aload_n C dL_law_2285 rfl ?_
  refine V_callD (R_V C (c_X4_meanPoints hfl hJ.W hJ.I hJ.R) mi_X4_meanPoints mk_L_250 rfl (by decide) rfl (rfl : vwCl[6]? = some (RX4, TX4, 24)) ⟨(by decide), (by decide)⟩ rfl (Nat.le_of_ble_eq_true rfl) ⟨(by show _ ≤ 603072; omega), (by show _ ≤ 7194729; omega)⟩ dL_law_2286) (fun r7 a2 b2 hG => ?_)
  obtain ⟨rfl, rfl, rfl⟩ := hG
  generalize hy : rdD (gzero (q 0 9)) (mnF (sumN (q 67) (nP q)) (q 0 9)) = y
  intro H locs ls hP hS hL
  have hl : lv_has ls 9 [(0, .ref bA), (1, .ref (x.2.1 0)), (2, .ref (x.2.1 70)), (3, .ref (x.2.1 87)), (4, .ref (x.2.1 88)), (5, .int (nI (6 * t))), (6, .int r)] := ⟨hL.1, hL.2.1, fun z hz => by
    simp only [List.mem_cons, List.not_mem_nil, or_false] at hz
    rcases hz with rfl | rfl | rfl | rfl | rfl | rfl | rfl
    · exact (hL.2.2.2 0 _ rfl).1
    · exact (hL.2.2.2 1 _ rfl).1
    · exact (hL.2.2.2 2 _ rfl).1
    · exact (hL.2.2.2 3 _ rfl).1
    · exact (hL.2.2.2 4 _ rfl).1
    · exact (hL.2.2.2 5 _ rfl).1
    · exact (hL.2.2.2 6 _ rfl).1⟩
  refine lv_dstore C.1 C.2.1 dL_law_2289 hl (by decide) rfl (fun ls2 hl2 => ?_)
  have hl2 : lv_has ls2 9 [(7, .double y), (0, .ref bA), (1, .ref (x.2.1 0)), (2, .ref (x.2.1 70)), (3, .ref (x.2.1 87)), (4, .ref (x.2.1 88)), (5, .int (nI (6 * t))), (6, .int r)] := hl2
  have hL2 : LV 9 ls2 [some (.ref bA), some (.ref (x.2.1 0)), some (.ref (x.2.1 70)), some (.ref (x.2.1 87)), some (.ref (x.2.1 88)), some (.int (nI (6 * t))), none, none, none] := by
    refine ⟨hl2.1, hl2.2.1, rfl, fun i v hi => ?_⟩
    match i, hi with
    | 0, hi => cases hi; exact ⟨hl2.2.2 (0, _) (by simp), rfl⟩
    | 1, hi => cases hi; exact ⟨hl2.2.2 (1, _) (by simp), rfl⟩
    | 2, hi => cases hi; exact ⟨hl2.2.2 (2, _) (by simp), rfl⟩
    | 3, hi => cases hi; exact ⟨hl2.2.2 (3, _) (by simp), rfl⟩
    | 4, hi => cases hi; exact ⟨hl2.2.2 (4, _) (by simp), rfl⟩
    | 5, hi => cases hi; exact ⟨hl2.2.2 (5, _) (by simp), rfl⟩
    | 6, hi => cases hi
    | 7, hi => cases hi
    | 8, hi => cases hi
    | n + 9, hi => simp at hi
  refine lv_aload_n C.1 C.2.1 dL_law_2291 rfl (lv_at hl2 3 rfl) ?_
  refine va_calli (R_V (b := up2 b1 70 0 (cd [eR] (gzero (q 0 9)))) C (c_X4_thrown hfl) mi_X4_thrown mk_L_135 rfl (by omega) rfl (rfl : vwCl[6]? = some (RX4, TX4, 24)) ⟨(by decide), (by decide)⟩ rfl (Nat.le_of_ble_eq_true rfl) ⟨(by show _ ≤ 603072; omega), (by show _ ≤ 7194729; omega)⟩ dL_law_2292 H locs ls2 hP hS hl2.1) hS (fun q _ h => AW_A hS q h) (AW_A hS) (fun r9 u t9 H1 locs1 ht9 _ hp hB _ _ hS1 => ?_)
  obtain ⟨g1, g2, g3⟩ := hp
  have hP1 : va_P x.1 vwCl (wd x a2 (up2 b1 70 0 (cd [eR] (gzero (q 0 9)))) o1) H1 := by
    rw [ht9, g2, g3] at hB
    exact hB
  have hr9 : r9 = r := by rw [g1, h1]; exact if_pos ⟨rfl, rfl⟩
  rw [hr9]
  have hend : a2 = q → W p l e room_1 s m args below meth c H1 locs1 (89 + 5 * t + 1) (2808 + 30 * t + 6) Q (F0 m 2339 ls2 []) := fun z => by
    have hv : VV p l e room_1 s m args below meth c Q x 9 q (up2 b1 70 0 (cd [eR] (gzero (q 0 9)))) o1 (89 + 5 * t + 1) (2808 + 30 * t + 6) 2339 [some (.ref bA), some (.ref (x.2.1 0)), some (.ref (x.2.1 70)), some (.ref (x.2.1 87)), some (.ref (x.2.1 88)), some (.int (nI (6 * t))), none, none, none] [] := V_goto C 2355 dL_law_2339 (by decide) (V_widen (by omega) (by omega) (K q _ o1 (hJ.mo (Nat.le_succ t)).th))
    rw [z] at hP1
    exact hv H1 locs1 ls2 hP1 hS1 hL2
  refine lv_iload C.1 C.2.1 dL_law_2295 (lv_at hl2 7 rfl) ?_
  refine lv_icmp_eq (tgt := 2302) C.1 C.2.1 dL_law_2297 (by decide) (fun _ => ?_) (fun z => absurd rfl z)
  refine lv_iload C.1 C.2.1 dL_law_2302 (lv_at hl2 7 rfl) ?_
  refine lv_if_ne (tgt := 2339) C.1 C.2.1 dL_law_2304 (by decide) (fun h => ?_) (fun h => ?_)
  · exact hend (h4 (fun z => h (by rw [h1, z]; rfl))).1
  · have hg : gzero (q 0 9) = none := cd_0 (L := [eR]) (by rw [← h1]; exact h) (by decide)
    obtain ⟨e1, e2⟩ := h3 hg
    have e3 : y = mnF (sumN (q 67) (nP q)) (q 0 9) := by rw [← hy, hg]; rfl
    have h88 : (wd x a2 (up2 b1 70 0 (cd [eR] (gzero (q 0 9)))) o1)[88]? = some (x.2.1 88, .inl (x.2.2 5, 1, .inr (.inr (.inr (.inl (fun j => if j = 0 then o1.2 else 0)))))) := wd_at (by decide)
    refine lv_aload C.1 C.2.1 dL_law_2307 (lv_at hl2 5 rfl) ?_
    refine lv_iconst (v := 0) C.1 C.2.1 dL_law_2309 (by decide) ?_
    refine va_dald C.1 C.2.1 C.K hP1 88 5 h88 rfl (vp_in_le (i := 0) (n := 1) (by decide) (by decide)) dL_law_2310 ?_
    refine lv_dload C.1 C.2.1 dL_law_2311 (lv_at hl2 0 rfl) ?_
    refine lv_dcmp C.1 C.2.1 dL_law_2313 ?_
    refine lv_topi (fun w0 ew0 => ?_)
    have hw0 : w0 = 0 := by
      rw [ew0, e3, e2]
      exact dcS (hnn hg)
    subst hw0
    exact lv_if_eq (tgt := 2339) C.1 C.2.1 dL_law_2314 (by decide) (fun _ => hend e1) (fun z => absurd rfl z)
