/-! the law's loop -/
section LTB
variable {p : Program} {l : Launch} {e : Env} {R : Room} {s : State} {m : MethodId} {args : Array Value} {below : List Frame} {meth : Method} {c : Code} {Q : State → Prop} {x : Sh} {nL : Nat} {a b : Mem} {o : Out} {cells slots pc : Nat} {lv : List (Option Value)} {st : List Value} {cc : ByteArray} {own : String}
theorem V_tabOut (C : CX p l s m meth c x cc own nL) {dflt lo hi : Int} {offs : Array Int} {len : Nat} {y : Int32} (tgt : Nat) (hd : decode cc pc = .ok (.tableswitch dflt lo hi offs, len)) (h : y.toInt < lo ∨ hi < y.toInt) (ht : (pc : Int) + dflt = (tgt : Int)) (kk : VV p l e R s m args below meth c Q x nL a b o cells slots tgt lv st) : VV p l e R s m args below meth c Q x nL a b o cells slots pc lv (.int y :: st) := fun H locs ls hP hS hL => lv_tableOut C.1 C.2.1 hd h ht (kk H locs ls hP hS hL)
theorem V_tabIn (C : CX p l s m meth c x cc own nL) {dflt lo hi : Int} {offs : Array Int} {len : Nat} {y : Int32} {off : Int} (tgt : Nat) (hd : decode cc pc = .ok (.tableswitch dflt lo hi offs, len)) (h1 : ¬ y.toInt < lo) (h2 : ¬ hi < y.toInt) (ho : offs[(y.toInt - lo).toNat]? = some off) (ht : (pc : Int) + off = (tgt : Int)) (kk : VV p l e R s m args below meth c Q x nL a b o cells slots tgt lv st) : VV p l e R s m args below meth c Q x nL a b o cells slots pc lv (.int y :: st) := fun H locs ls hP hS hL => lv_tableIn C.1 C.2.1 hd h1 h2 ho ht (kk H locs ls hP hS hL)
end LTB
set_option maxHeartbeats 4000000 in
set_option maxRecDepth 100000 in
theorem law_loop {p : Program} {l : Launch} {e : Env} {s : State} {m : MethodId} {args : Array Value} {below : List Frame} {meth : Method} {c : Code} {Q : State → Prop} {x : Sh} {bA L : Nat} {xs : Nat → Int32} (C : CX p l s m meth c x cL_law RL 9) (hfl : l.stackTraces = false) (hX1 : va_X bA L xs s s.heap) (hX2 : bA < s.heap.size) (hX3 : ∀ k, k < 89 → bA ≠ x.2.1 k) (hX4 : L ≤ 3072)
    (E : ∀ (t : Nat) (q b : Mem) (o : Out), t ≤ 512 → VV p l e room_1 s m args below meth c Q x 9 q b o (89 + 5 * t) (2808 + 30 * t) 2361 [some (.ref bA), some (.ref (x.2.1 0)), some (.ref (x.2.1 70)), some (.ref (x.2.1 87)), some (.ref (x.2.1 88)), some (.int (nI (6 * t))), none, none, none] []) :
    ∀ (fuel t : Nat) (q b : Mem) (o : Out), JJ q b t → 6 * t ≤ L → L < 6 * t + fuel → VV p l e room_1 s m args below meth c Q x 9 q b o (89 + 5 * t) (2808 + 30 * t) 28 [some (.ref bA), some (.ref (x.2.1 0)), some (.ref (x.2.1 70)), some (.ref (x.2.1 87)), some (.ref (x.2.1 88)), some (.int (nI (6 * t))), none, none, none] [] := by
  intro fuel
  induction fuel with
  | zero => intro t q b o hJ h1 h2; omega
  | succ fuel ih =>
    intro t q b o hJ h1 h2
    refine V_iload C dL_law_28 rfl ?_
    refine V_aload_n C dL_law_30 rfl ?_
    refine V_slen C hX1 hX2 hX3 dL_law_31 ?_
    refine V_bipush (v := 6) C dL_law_32 (by decide) ?_
    refine V_isub C dL_law_34 ?_
    refine V_icmp_gt C 2361 dL_law_35 (by decide) (fun h => E t q b o (by omega)) (fun h => ?_)
    have hL6 : 6 * t + 6 ≤ L := by
      rcases Nat.lt_or_ge L (6 * t + 6) with z | z
      · exact absurd ((six_go hX4 (by omega)).mpr z) h
      · exact z
    have hX : LX s x bA L xs t := ⟨hX1, hX2, hX3, hX4, hL6⟩
    have K : ∀ q' b' o', JJ q' b' (t + 1) → VV p l e room_1 s m args below meth c Q x 9 q' b' o' (89 + 5 * (t + 1)) (2808 + 30 * (t + 1)) 2355 [some (.ref bA), some (.ref (x.2.1 0)), some (.ref (x.2.1 70)), some (.ref (x.2.1 87)), some (.ref (x.2.1 88)), some (.int (nI (6 * t))), none, none, none] [] := fun q' b' o' hJ' => by
      refine V_iinc_5 C (nI (6 * (t + 1))) dL_law_2355 (nI_add (6 * t) 6) (by decide) ?_
      refine V_goto C 28 dL_law_2358 (by decide) ?_
      exact ih (t + 1) q' b' o' hJ' (by omega) (by omega)
    refine V_aload_n C dL_law_38 rfl ?_
    refine V_iload C dL_law_39 rfl ?_
    refine V_scr C hX1 hX2 hX3 (6 * t) (by omega) hX4 rfl dL_law_41 ?_
    refine V_bipush (v := 63) C dL_law_42 (by decide) ?_
    refine V_iand C dL_law_44 ?_
    generalize xs (6 * t) &&& 63 = y
    by_cases hy : y.toInt < 0 ∨ 34 < y.toInt
    · exact V_tabOut C 2355 dL_law_45 hy (by decide) (V_widen (by omega) (by omega) (K q b o (hJ.mo (Nat.le_succ t))))
    · obtain ⟨n, hn, hyn⟩ : ∃ n : Nat, n < 35 ∧ y.toInt = (n : Int) := ⟨y.toInt.toNat, by omega, by omega⟩
      have h1y : ¬ y.toInt < 0 := fun z => hy (Or.inl z)
      have h2y : ¬ 34 < y.toInt := fun z => hy (Or.inr z)
      match n, hn, hyn with
      | 0, _, hyn => exact V_tabIn C 200 dL_law_45 h1y h2y (off := 155) (by rw [hyn]; rfl) (by decide) (k_room C hfl hX hJ K)
      | 1, _, hyn => exact V_tabIn C 256 dL_law_45 h1y h2y (off := 211) (by rw [hyn]; rfl) (by decide) (k_exam C hfl hX hJ K)
      | 2, _, hyn => exact V_tabIn C 300 dL_law_45 h1y h2y (off := 255) (by rw [hyn]; rfl) (by decide) (k_pupil C hfl hX hJ K)
      | 3, _, hyn => exact V_tabIn C 344 dL_law_45 h1y h2y (off := 299) (by rw [hyn]; rfl) (by decide) (k_offer C hfl hX hJ K)
      | 4, _, hyn => exact V_tabIn C 452 dL_law_45 h1y h2y (off := 407) (by rw [hyn]; rfl) (by decide) (k_bid C hfl hX hJ K)
      | 5, _, hyn => exact V_tabIn C 532 dL_law_45 h1y h2y (off := 487) (by rw [hyn]; rfl) (by decide) (k_unbid C hfl hX hJ K)
      | 6, _, hyn => exact V_tabIn C 600 dL_law_45 h1y h2y (off := 555) (by rw [hyn]; rfl) (by decide) (k_bids C hfl hX hJ K)
      | 7, _, hyn => exact V_tabIn C 613 dL_law_45 h1y h2y (off := 568) (by rw [hyn]; rfl) (by decide) (k_settle C hfl hX hJ K)
      | 8, _, hyn => exact V_tabIn C 626 dL_law_45 h1y h2y (off := 581) (by rw [hyn]; rfl) (by decide) (k_rounds C hfl hX hJ K)
      | 9, _, hyn => exact V_tabIn C 639 dL_law_45 h1y h2y (off := 594) (by rw [hyn]; rfl) (by decide) (k_points C hfl hX hJ K)
      | 10, _, hyn => exact V_tabIn C 695 dL_law_45 h1y h2y (off := 650) (by rw [hyn]; rfl) (by decide) (k_seat C hfl hX hJ K)
      | 11, _, hyn => exact V_tabIn C 791 dL_law_45 h1y h2y (off := 746) (by rw [hyn]; rfl) (by decide) (k_at C hfl hX hJ K)
      | 12, _, hyn => exact V_tabIn C 859 dL_law_45 h1y h2y (off := 814) (by rw [hyn]; rfl) (by decide) (k_holders C hfl hX hJ K)
      | 13, _, hyn => exact V_tabIn C 915 dL_law_45 h1y h2y (off := 870) (by rw [hyn]; rfl) (by decide) (k_holder C hfl hX hJ K)
      | 14, _, hyn => exact V_tabIn C 983 dL_law_45 h1y h2y (off := 938) (by rw [hyn]; rfl) (by decide) (k_paid C hfl hX hJ K)
      | 15, _, hyn => exact V_tabIn C 1051 dL_law_45 h1y h2y (off := 1006) (by rw [hyn]; rfl) (by decide) (k_waiting C hfl hX hJ K)
      | 16, _, hyn => exact V_tabIn C 1107 dL_law_45 h1y h2y (off := 1062) (by rw [hyn]; rfl) (by decide) (k_waiter C hfl hX hJ K)
      | 17, _, hyn => exact V_tabIn C 1175 dL_law_45 h1y h2y (off := 1130) (by rw [hyn]; rfl) (by decide) (k_giveUp C hfl hX hJ K)
      | 18, _, hyn => exact V_tabIn C 1243 dL_law_45 h1y h2y (off := 1198) (by rw [hyn]; rfl) (by decide) (k_move C hfl hX hJ K)
      | 19, _, hyn => exact V_tabIn C 1311 dL_law_45 h1y h2y (off := 1266) (by rw [hyn]; rfl) (by decide) (k_slotOf C hfl hX hJ K)
      | 20, _, hyn => exact V_tabIn C 1367 dL_law_45 h1y h2y (off := 1322) (by rw [hyn]; rfl) (by decide) (k_refunds C hfl hX hJ K)
      | 21, _, hyn => exact V_tabIn C 1380 dL_law_45 h1y h2y (off := 1335) (by rw [hyn]; rfl) (by decide) (k_write C hfl hX hJ K)
      | 22, _, hyn => exact V_tabIn C 1486 dL_law_45 h1y h2y (off := 1441) (by rw [hyn]; rfl) (by decide) (k_read C hfl hX hJ K)
      | 23, _, hyn => exact V_tabIn C 1580 dL_law_45 h1y h2y (off := 1535) (by rw [hyn]; rfl) (by decide) (k_sync C hfl hX hJ K)
      | 24, _, hyn => exact V_tabIn C 1648 dL_law_45 h1y h2y (off := 1603) (by rw [hyn]; rfl) (by decide) (k_owner C hfl hX hJ K)
      | 25, _, hyn => exact V_tabIn C 1706 dL_law_45 h1y h2y (off := 1661) (by rw [hyn]; rfl) (by decide) (k_setOwner C hfl hX hJ K)
      | 26, _, hyn => exact V_tabIn C 1776 dL_law_45 h1y h2y (off := 1731) (by rw [hyn]; rfl) (by decide) (k_apart C hfl hX hJ K)
      | 27, _, hyn => exact V_tabIn C 1834 dL_law_45 h1y h2y (off := 1789) (by rw [hyn]; rfl) (by decide) (k_maySit C hfl hX hJ K)
      | 28, _, hyn => exact V_tabIn C 1909 dL_law_45 h1y h2y (off := 1864) (by rw [hyn]; rfl) (by decide) (k_isOpen C hfl hX hJ K)
      | 29, _, hyn => exact V_tabIn C 1984 dL_law_45 h1y h2y (off := 1939) (by rw [hyn]; rfl) (by decide) (k_sit C hfl hX hJ K)
      | 30, _, hyn => exact V_tabIn C 2040 dL_law_45 h1y h2y (off := 1995) (by rw [hyn]; rfl) (by decide) (k_hasSat C hfl hX hJ K)
      | 31, _, hyn => exact V_tabIn C 2143 dL_law_45 h1y h2y (off := 2098) (by rw [hyn]; rfl) (by decide) (k_more C hfl hX hJ K)
      | 32, _, hyn => exact V_tabIn C 2211 dL_law_45 h1y h2y (off := 2166) (by rw [hyn]; rfl) (by decide) (k_takenShare C hfl hX hJ K)
      | 33, _, hyn => exact V_tabIn C 2277 dL_law_45 h1y h2y (off := 2232) (by rw [hyn]; rfl) (by decide) (k_meanPoints C hfl hX hJ K)
      | 34, _, hyn => exact V_tabIn C 2342 dL_law_45 h1y h2y (off := 2297) (by rw [hyn]; rfl) (by decide) (k_isTrue C hfl hX hJ K)
      | n + 35, hn, _ => omega
