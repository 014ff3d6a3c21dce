/-! what holds at the entry -/
set_option maxRecDepth 100000 in
theorem la_int : Cond.arrayClass .int ∈ lw_tbl := List.mem_of_getElem? (i := 90) rfl
set_option maxRecDepth 100000 in
theorem la_boolean : Cond.arrayClass .boolean ∈ lw_tbl := List.mem_of_getElem? (i := 198) rfl
set_option maxRecDepth 100000 in
theorem lo_O : Cond.arrayOver (.object "Classfederation$Offer") ∈ lw_tbl := List.mem_of_getElem? (i := 115) rfl
set_option maxRecDepth 100000 in
theorem lo_A : Cond.arrayOver (.array .int) ∈ lw_tbl := List.mem_of_getElem? (i := 78) rfl
set_option maxRecDepth 100000 in
theorem ln_J0 : Cond.instantiable RJ0 4 ∈ lw_tbl := List.mem_of_getElem? (i := 393) rfl
set_option maxRecDepth 100000 in
theorem ln_J1 : Cond.instantiable RJx00060 6 ∈ lw_tbl := List.mem_of_getElem? (i := 320) rfl
set_option maxRecDepth 100000 in
theorem ls_U : Cond.laysStatic Bundle.tN "UNASSIGNED_STACK" Bundle.steD ∈ lw_tbl := List.mem_of_getElem? (i := 337) rfl
set_option maxRecDepth 100000 in
theorem ls_S : Cond.laysStatic Bundle.tN "SUPPRESSED_SENTINEL" Bundle.listD ∈ lw_tbl := List.mem_of_getElem? (i := 339) rfl
set_option maxRecDepth 100000 in
theorem li_T : Cond.initialized Bundle.tN ∈ lw_tbl := List.mem_of_getElem? (i := 51) rfl
theorem iw_J0 : ∀ w ∈ u_ws RJ0 TJ0 2, w ∈ lw_tbl := by decide +kernel
theorem iw_J1 : ∀ w ∈ u_ws RJx00060 TJx00060 6, w ∈ lw_tbl := by decide +kernel
abbrev gvC : Cond := Jvm.Cond.and given_1 narrow_1
theorem st_str : ∀ q ∈ strL, Cond.stringRef q.1 q.2.1 q.2.2 ∈ lw_tbl ∧ Cond.exactly (.string q.1 q.2.1) "java/lang/String" ∈ flatC gvC := by decide +kernel
theorem st_pairs : ∀ E ∈ exL, ∀ N ∈ exL, E ≠ N → Cond.not (.castable E N) ∈ flatC gvC := by decide +kernel
theorem st_sU : Cond.isRef (.static Bundle.tN "UNASSIGNED_STACK" Bundle.steD) ∈ flatC gvC := by decide +kernel
theorem st_sS : Cond.isRef (.static Bundle.tN "SUPPRESSED_SENTINEL" Bundle.listD) ∈ flatC gvC := by decide +kernel
section STT
variable {s : State} {A : Array Value}
theorem st_NW (hts : ∀ w ∈ lw_tbl, w.before A s = true) : NW s := fun w hw => by
  have h1 := List.mem_filter.mp hw
  have hg := h1.2
  simp only [wb_g, Bool.and_eq_true] at hg
  exact va_tabs hg.1 rfl (hts w h1.1)
theorem nw_tbl {ws : List Cond} (h : ∀ w ∈ ws, w ∈ nwL) : ∀ w ∈ ws, w ∈ lw_tbl := fun w hw => (List.mem_filter.mp (h w hw)).1
theorem st_D (hts : ∀ w ∈ lw_tbl, w.before A s = true) : ∃ D : va_G, ∀ (k : Nat) (q : vw_C), vwCl[k]? = some q → u_Kn s q.1 q.2.1 q.2.2 (D.1 k) (D.2 k) := by
  obtain ⟨c0, i0, h0⟩ := u_known (C := RJ0) (T := TJ0) (N := 2) (n := 4) hts iw_J0 (hts _ ln_J0)
  obtain ⟨c1, i1, h1⟩ := u_known (C := RJx00060) (T := TJx00060) (N := 6) (n := 6) hts iw_J1 (hts _ ln_J1)
  obtain ⟨c2, i2, h2⟩ := u_known (C := RX0) (T := TX0) (N := 9) (n := 9) hts (nw_tbl iw_X0) (hts _ (List.mem_filter.mp wn_X0).1)
  obtain ⟨c3, i3, h3⟩ := u_known (C := RX1) (T := TX1) (N := 2) (n := 2) hts (nw_tbl iw_X1) (hts _ (List.mem_filter.mp wn_X1).1)
  obtain ⟨c4, i4, h4⟩ := u_known (C := RX2) (T := TX2) (N := 4) (n := 4) hts (nw_tbl iw_X2) (hts _ (List.mem_filter.mp wn_X2).1)
  obtain ⟨c5, i5, h5⟩ := u_known (C := RX3) (T := TX3) (N := 13) (n := 13) hts (nw_tbl iw_X3) (hts _ (List.mem_filter.mp wn_X3).1)
  refine ⟨(fun k => match k with | 0 => c0 | 1 => c1 | 2 => c2 | 3 => c3 | 4 => c4 | _ => c5, fun k => match k with | 0 => i0 | 1 => i1 | 2 => i2 | 3 => i3 | 4 => i4 | _ => i5), fun k q hq => ?_⟩
  match k, hq with
  | 0, hq => cases hq; exact h0
  | 1, hq => cases hq; exact h1
  | 2, hq => cases hq; exact h2
  | 3, hq => cases hq; exact h3
  | 4, hq => cases hq; exact h4
  | 5, hq => cases hq; exact h5
  | n + 6, hq => simp [vwCl] at hq
theorem st_arr {ty : FieldType} (h : (Cond.arrayClass ty).before A s = true) : ∃ cA : ClassId, ArrOfT s cA ty ∧ s.vm.findClass ("[" ++ ty.toString) = some cA := by
  obtain ⟨cA, k, comp, h1, h2, h3⟩ := Cond.arrayClass_spec h
  exact ⟨cA, fun n z => ⟨fun q e => (by cases e), k, h2, comp, h3⟩, h1⟩
theorem st_T (hts : ∀ w ∈ lw_tbl, w.before A s = true) : ∃ T : Nat → ClassId, ∀ (k : Nat) (q : ClassId × FieldType), (tyT T)[k]? = some q → ArrOfT s q.1 q.2 ∧ va_RA s q.1 q.2 := by
  obtain ⟨c0, a0, b0⟩ := st_arr (hts _ la_int)
  obtain ⟨c1, a1, b1⟩ := st_arr (hts _ la_boolean)
  obtain ⟨p2, c2, k2, e1, e2, e3, e4, e5⟩ := Cond.arrayOver_spec (hts _ lo_O)
  obtain ⟨p3, c3, k3, g1, g2, g3, g4, g5⟩ := arrayOverA_spec (hts _ lo_A)
  refine ⟨fun k => match k with | 0 => c0 | 1 => c1 | 2 => c2 | _ => c3, fun k q hq => ?_⟩
  match k, hq with
  | 0, hq => cases hq; exact ⟨a0, b0⟩
  | 1, hq => cases hq; exact ⟨a1, b1⟩
  | 2, hq => cases hq; exact ⟨fun n z => ⟨fun q e => (by cases e), k2, e3, p2, e4⟩, k2, p2, e3, e4, e1, e5⟩
  | 3, hq => cases hq; exact ⟨fun n z => ⟨fun q e => (by cases e), k3, g3, p3, g4⟩, g5⟩
  | n + 4, hq => simp [tyT] at hq
theorem st_AO (hts : ∀ w ∈ lw_tbl, w.before A s = true) : AO s := ⟨va_AO.of (hts _ lo_O), hts _ lo_A⟩
theorem st_TH {D : va_G} {T : Nat → ClassId} (hts : ∀ w ∈ lw_tbl, w.before A s = true) (hgv : gvC.before A s = true) : TH (sh D s.heap.size T) s.heap.size s s.heap := by
  have hA : ∀ a : Nat, a < s.heap.size → ¬ AW (sh D s.heap.size T) s.heap.size a := fun a ha h => by
    rcases h with ⟨k, hk, e⟩ | h
    · have e' : a = s.heap.size + k := e
      omega
    · omega
  refine ⟨vx_Zqof (hts _ ls_U) (hts _ li_T) (flat_of_before _ hgv _ st_sU) hA, vx_Zqof (hts _ ls_S) (hts _ li_T) (flat_of_before _ hgv _ st_sS) hA, fun q hq => ?_⟩
  obtain ⟨h1, h2⟩ := st_str q hq
  obtain ⟨a, c, cell, k, e1, -⟩ := Cond.exactly_spec (flat_of_before _ hgv _ h2)
  exact ⟨a, vk_R.of (hts _ h1) e1⟩
theorem st_NC (hgv : gvC.before A s = true) : NC s := fun E hE N hN hne => va_Nc.of (flat_of_before _ hgv _ (st_pairs E hE N hN hne))
end STT
/-! the law's own body -/
def aL : Mem := a3_settle a00
theorem aL_W : WC aL := WC_00.settle
theorem aL_0 : nP aL = 0 ∧ nO aL = 0 ∧ aL 0 11 = 1 ∧ aL 0 12 = 0 ∧ nI (stC a00 (bW a00)) = 0 ∧ a00 13 3 = 0 := by decide +kernel
theorem aL_o : gn (gF 114) = 0 ∧ aL 12 (fNat 114) = 0 ∧ gn (gF 109) = 0 ∧ aL 12 (fNat 109) = 1 ∧ gn (gF 120) = 0 ∧ aL 12 (fNat 120) = 2 := by decide +kernel
theorem aL_70 : gn (g3_room aL 0) = -2000000002 := by decide +kernel
theorem aL_89 : gn (g3_room aL 7) = -2000000002 := by decide +kernel
theorem aL_120 : gn (g3_offer aL 0 9 0) = -2000000001 := by decide +kernel
theorem aL_146 : gn (g3_bid aL 0 0 0) = -2000000001 := by decide +kernel
theorem aL_168 : gn (g3_unbid aL 0 0) = -2000000001 := by decide +kernel
theorem aL_186 : gn (gP aL 0) = -2000000001 := by decide +kernel
theorem aL_212 : gn (g3_seat aL 0 0 0) = -2000000001 := by decide +kernel
theorem aL_235 : gn (g3_at aL 0 9) = -2000000001 := by decide +kernel
theorem aL_253 : gn (gQ aL 0) = -2000000001 := by decide +kernel
theorem aL_275 : gn (g3_holder aL 0 0) = -2000000001 := by decide +kernel
theorem aL_297 : gn (g3_paid aL 0 0) = -2000000001 := by decide +kernel
theorem aL_315 : gn (gQ aL 0) = -2000000001 := by decide +kernel
theorem aL_337 : gn (g3_waiter aL 0 0) = -2000000001 := by decide +kernel
theorem aL_359 : gn (g3_giveUp aL 0 0) = -2000000001 := by decide +kernel
theorem aL_382 : gn (g3_move aL 0 9) = -2000000001 := by decide +kernel
theorem aL_400 : gn (gQ aL 0) = -2000000001 := by decide +kernel
theorem aL_435 : gn (g3_write aL 0 0 0 122 0) = -2000000001 := by decide +kernel
theorem aL_466 : gn (g3_read aL 3 0 0 122) = -2000000001 := by decide +kernel
theorem aL_488 : gn (g3_sync 0 3) = -2000000001 := by decide +kernel
theorem aL_510 : gn (g3_maySit aL 0 0) = -2000000001 := by decide +kernel
theorem aL_532 : gn (g3_maySit aL 0 0) = -2000000001 := by decide +kernel
theorem aL_551 : gn (g3_sit aL 6) = -2000000002 := by decide +kernel
theorem aL_569 : gn (g3_sit aL (-1)) = -2000000002 := by decide +kernel
theorem aL_595 : gn (g3_maySit aL 0 0) = -2000000001 := by decide +kernel
theorem aL_618 : gn (g3_at aL 0 9) = -2000000001 := by decide +kernel
theorem ZS_of {p : Program} {l : Launch} {s : State} {m : MethodId} {meth : Method} {c : Code} {x : Sh} {cc : ByteArray} {own : String} {nL : Nat} {bA LL : Nat} {xs : Nat → Int32} (C : CX p l s m meth c x cc own nL) (hX : va_X bA LL xs s s.heap) (hbl : bA < s.heap.size) (hbA : ∀ k, k < 70 → bA ≠ x.2.1 k) (hL2 : LL ≤ 260) (H : Heap) (locs : List Loc) (U : State) (hS : va_S (AW x s.heap.size) s.heap H locs) (hU : U.heap = H) (hW : s.WarmedH U.vm) : ZS bA LL xs U := by
  refine ⟨?_, by rw [hU]; exact Nat.lt_of_lt_of_le hbl hS.1, hL2⟩
  have h2 := va_X.moved (U := U) hW.alike (hX.kept (hS.2.1 bA hbl (AW_n hbl hbA)))
  rw [hU]
  exact h2
set_option maxHeartbeats 8000000 in
set_option maxRecDepth 100000 in
theorem law_body {pP : Program} {l : Launch} {eE : Env} {sS : State} {mM : MethodId} {argsA : Array Value} {belowB : List Frame} {methM : Method} {cC : Code} {Q : State → Prop} {x : Sh} {bA LL : Nat} {xs : Nat → Int32} (hfl : l.stackTraces = false) (C : CX pP l sS mM methM cC x cL_law RL 2) (hAO : AO sS) (hxB : ∀ k, k < 70 → sS.heap.size ≤ x.2.1 k) (hX : va_X bA LL xs sS sS.heap) (hbl : bA < sS.heap.size) (hL2 : LL ≤ 260) (kk : ∀ cells slots, cells ≤ 710075 → slots ≤ 6963325 → SS pP l eE room_1 sS mM argsA belowB methM cC Q x 2 aL [] cells slots 706 [some (.ref bA), some (.ref (x.2.1 0))] [.int 1]) : SS pP l eE room_1 sS mM argsA belowB methM cC Q x 2 a00 [] 70 1440 8 [some (.ref bA), some (.ref (x.2.1 0))] [] := by
  have hbA : ∀ k, k < 70 → bA ≠ x.2.1 k := fun k hk => by have := hxB k hk; omega
  refine S_aload_n C dL_law_8 rfl ?_
  refine S_iconst (v := (bI true)) C dL_law_9 (by decide) ?_
  refine S_callh C (k_hasNone hfl WC_00 true rfl rfl) hw_L_hasNone mk_L_133 rfl ⟨by decide, by decide⟩ rfl (Nat.le_of_ble_eq_true rfl) ⟨(by decide), (by decide)⟩ dL_law_10 ?_
  refine S_cs (k := 71) (n := 1446) (by decide) (by decide) ?_
  refine S_if_eq C 679 dL_law_13 (by decide) (fun h => absurd h (by decide)) (fun _ => ?_)
  refine S_aload_n C dL_law_16 rfl ?_
  refine S_iconst (v := (bI false)) C dL_law_17 (by decide) ?_
  refine S_callh C (k_hasNone hfl WC_00 false rfl rfl) hw_L_hasNone mk_L_133 rfl ⟨by decide, by decide⟩ rfl (Nat.le_of_ble_eq_true rfl) ⟨(by decide), (by decide)⟩ dL_law_18 ?_
  refine S_cs (k := 72) (n := 1452) (by decide) (by decide) ?_
  refine S_if_eq C 679 dL_law_21 (by decide) (fun h => absurd h (by decide)) (fun _ => ?_)
  refine S_aload_n C dL_law_24 rfl ?_
  refine S_callf (R_V C (c_X3_bids hfl) mi_X3_bids mk_L_137 rfl (by decide) rfl (rfl : vwCl[5]? = some (RX3, TX3, 13)) (by decide) rfl (Nat.le_of_ble_eq_true rfl) ⟨(by decide), (by decide)⟩ dL_law_25) ?_
  refine S_topi (w := 0) aL_0.2.2.2.2.2 ?_
  refine S_if_ne C 679 dL_law_28 (by decide) (fun h => absurd rfl h) (fun _ => ?_)
  refine S_aload_n C dL_law_31 rfl ?_
  refine S_callf (R_V C (c_X3_settle hfl WC_00) mi_X3_settle mk_L_140 rfl (by decide) rfl (rfl : vwCl[5]? = some (RX3, TX3, 13)) (by decide) rfl (Nat.le_of_ble_eq_true rfl) ⟨(by decide), (by decide)⟩ dL_law_32) ?_
  refine S_mem (show a3_settle a00 = aL from rfl) ?_
  refine S_topi (w := 0) aL_0.2.2.2.2.1 ?_
  refine S_if_ne C 679 dL_law_35 (by decide) (fun h => absurd rfl h) (fun _ => ?_)
  refine S_aload_n C dL_law_38 rfl ?_
  refine S_callf (R_V C (c_X3_rounds hfl) mi_X3_rounds mk_L_143 rfl (by decide) rfl (rfl : vwCl[5]? = some (RX3, TX3, 13)) (by decide) rfl (Nat.le_of_ble_eq_true rfl) ⟨(by decide), (by decide)⟩ dL_law_39) ?_
  refine S_topi (w := 1) aL_0.2.2.1 ?_
  refine S_iconst (v := 1) C dL_law_42 (by decide) ?_
  refine S_icmp_ne C 679 dL_law_43 (by decide) (fun h => absurd rfl h) (fun _ => ?_)
  refine S_aload_n C dL_law_46 rfl ?_
  refine S_callf (R_V C (c_X3_refunds hfl) mi_X3_refunds mk_L_146 rfl (by decide) rfl (rfl : vwCl[5]? = some (RX3, TX3, 13)) (by decide) rfl (Nat.le_of_ble_eq_true rfl) ⟨(by decide), (by decide)⟩ dL_law_47) ?_
  refine S_topi (w := 0) aL_0.2.2.2.1 ?_
  refine S_if_ne C 679 dL_law_50 (by decide) (fun h => absurd rfl h) (fun _ => ?_)
  refine S_aload_n C dL_law_53 rfl ?_
  refine S_callf (R_V C (c_X3_isTrue hfl aL_W (fun p hp => by rw [aL_0.1] at hp; omega) (fun p hp => by rw [aL_0.1] at hp; omega) (fun i hi => by rw [aL_0.2.1] at hi; omega) (fun i hi => by rw [aL_0.2.1] at hi; omega) (fun i hi => by rw [aL_0.2.1] at hi; omega)) mi_X3_isTrue mk_L_149 rfl (by decide) rfl (rfl : vwCl[5]? = some (RX3, TX3, 13)) (by decide) rfl (Nat.le_of_ble_eq_true rfl) ⟨(by decide), (by decide)⟩ dL_law_54) ?_
  refine S_if_eq C 679 dL_law_57 (by decide) (fun h => absurd h (by decide)) (fun _ => ?_)
  refine S_aload_n C dL_law_60 rfl ?_
  refine S_bipush (v := 82) C dL_law_61 (by decide) ?_
  refine S_iconst (v := 1) C dL_law_63 (by decide) ?_
  refine S_newa C (at0 := .int) (c0 := 0) (ty := .int) (N := 1) rfl rfl (fun h => h) (fun cA => rfl) (by decide) (by decide) (by decide) (by decide) (by decide) dL_law_64 (fun q64 => ?_)
  refine S_dup C dL_law_66 rfl ?_
  refine S_iconst (v := 0) C dL_law_67 (by decide) ?_
  refine S_iconst (v := 0) C dL_law_68 (by decide) ?_
  refine S_iast C 0 rfl 0 (by decide) (by decide) rfl (ar' := [(q64, 0, 1, (upd (fun _ => 0) 0 0))]) rfl dL_law_69 ?_
  refine S_askX C (k_room hfl aL_W (n := 1) (g := (upd (fun _ => 0) 0 0)) (by decide) (by decide)) hw_L_ask mk_L_153 ⟨by decide, by decide⟩ (Nat.le_of_ble_eq_true rfl) ⟨(by decide), (by decide)⟩ dL_law_70 (v := (-2000000002)) aL_70 (by decide) ?_
  refine S_cs (k := 74) (n := 1459) (by decide) (by decide) ?_
  refine S_ldc (v := (-2000000002)) C kc_L_112 dL_law_73 ?_
  refine S_icmp_ne C 679 dL_law_75 (by decide) (fun h => absurd rfl h) (fun _ => ?_)
  refine S_aload_n C dL_law_78 rfl ?_
  refine S_bipush (v := 82) C dL_law_79 (by decide) ?_
  refine S_iconst (v := 1) C dL_law_81 (by decide) ?_
  refine S_newa C (at0 := .int) (c0 := 0) (ty := .int) (N := 1) rfl rfl (fun h => h) (fun cA => rfl) (by decide) (by decide) (by decide) (by decide) (by decide) dL_law_82 (fun q82 => ?_)
  refine S_dup C dL_law_84 rfl ?_
  refine S_iconst (v := 0) C dL_law_85 (by decide) ?_
  refine S_bipush (v := 7) C dL_law_86 (by decide) ?_
  refine S_iast C 0 rfl 0 (by decide) (by decide) rfl (ar' := [(q82, 0, 1, (upd (fun _ => 0) 0 7))]) rfl dL_law_88 ?_
  refine S_askX C (k_room hfl aL_W (n := 1) (g := (upd (fun _ => 0) 0 7)) (by decide) (by decide)) hw_L_ask mk_L_153 ⟨by decide, by decide⟩ (Nat.le_of_ble_eq_true rfl) ⟨(by decide), (by decide)⟩ dL_law_89 (v := (-2000000002)) aL_89 (by decide) ?_
  refine S_cs (k := 76) (n := 1466) (by decide) (by decide) ?_
  refine S_ldc (v := (-2000000002)) C kc_L_112 dL_law_92 ?_
  refine S_icmp_ne C 679 dL_law_94 (by decide) (fun h => absurd rfl h) (fun _ => ?_)
  refine S_aload_n C dL_law_97 rfl ?_
  refine S_bipush (v := 79) C dL_law_98 (by decide) ?_
  refine S_iconst (v := 4) C dL_law_100 (by decide) ?_
  refine S_newa C (at0 := .int) (c0 := 0) (ty := .int) (N := 4) rfl rfl (fun h => h) (fun cA => rfl) (by decide) (by decide) (by decide) (by decide) (by decide) dL_law_101 (fun q101 => ?_)
  refine S_dup C dL_law_103 rfl ?_
  refine S_iconst (v := 0) C dL_law_104 (by decide) ?_
  refine S_iconst (v := 0) C dL_law_105 (by decide) ?_
  refine S_iast C 0 rfl 0 (by decide) (by decide) rfl (ar' := [(q101, 0, 4, (upd (fun _ => 0) 0 0))]) rfl dL_law_106 ?_
  refine S_dup C dL_law_107 rfl ?_
  refine S_iconst (v := 1) C dL_law_108 (by decide) ?_
  refine S_bipush (v := 9) C dL_law_109 (by decide) ?_
  refine S_iast C 0 rfl 1 (by decide) (by decide) rfl (ar' := [(q101, 0, 4, (upd (upd (fun _ => 0) 0 0) 1 9))]) rfl dL_law_111 ?_
  refine S_dup C dL_law_112 rfl ?_
  refine S_iconst (v := 2) C dL_law_113 (by decide) ?_
  refine S_iconst (v := 0) C dL_law_114 (by decide) ?_
  refine S_iast C 0 rfl 2 (by decide) (by decide) rfl (ar' := [(q101, 0, 4, (upd (upd (upd (fun _ => 0) 0 0) 1 9) 2 0))]) rfl dL_law_115 ?_
  refine S_dup C dL_law_116 rfl ?_
  refine S_iconst (v := 3) C dL_law_117 (by decide) ?_
  refine S_iconst (v := 0) C dL_law_118 (by decide) ?_
  refine S_iast C 0 rfl 3 (by decide) (by decide) rfl (ar' := [(q101, 0, 4, (upd (upd (upd (upd (fun _ => 0) 0 0) 1 9) 2 0) 3 0))]) rfl dL_law_119 ?_
  refine S_askX C (k_offer hfl aL_W (n := 4) (g := (upd (upd (upd (upd (fun _ => 0) 0 0) 1 9) 2 0) 3 0)) (by decide) (by decide)) hw_L_ask mk_L_153 ⟨by decide, by decide⟩ (Nat.le_of_ble_eq_true rfl) ⟨(by decide), (by decide)⟩ dL_law_120 (v := (-2000000001)) aL_120 (by decide) ?_
  refine S_cs (k := 82) (n := 1500) (by decide) (by decide) ?_
  refine S_ldc (v := (-2000000001)) C kc_L_109 dL_law_123 ?_
  refine S_icmp_ne C 679 dL_law_125 (by decide) (fun h => absurd rfl h) (fun _ => ?_)
  refine S_aload_n C dL_law_128 rfl ?_
  refine S_bipush (v := 98) C dL_law_129 (by decide) ?_
  refine S_iconst (v := 3) C dL_law_131 (by decide) ?_
  refine S_newa C (at0 := .int) (c0 := 0) (ty := .int) (N := 3) rfl rfl (fun h => h) (fun cA => rfl) (by decide) (by decide) (by decide) (by decide) (by decide) dL_law_132 (fun q132 => ?_)
  refine S_dup C dL_law_134 rfl ?_
  refine S_iconst (v := 0) C dL_law_135 (by decide) ?_
  refine S_iconst (v := 0) C dL_law_136 (by decide) ?_
  refine S_iast C 0 rfl 0 (by decide) (by decide) rfl (ar' := [(q132, 0, 3, (upd (fun _ => 0) 0 0))]) rfl dL_law_137 ?_
  refine S_dup C dL_law_138 rfl ?_
  refine S_iconst (v := 1) C dL_law_139 (by decide) ?_
  refine S_iconst (v := 0) C dL_law_140 (by decide) ?_
  refine S_iast C 0 rfl 1 (by decide) (by decide) rfl (ar' := [(q132, 0, 3, (upd (upd (fun _ => 0) 0 0) 1 0))]) rfl dL_law_141 ?_
  refine S_dup C dL_law_142 rfl ?_
  refine S_iconst (v := 2) C dL_law_143 (by decide) ?_
  refine S_iconst (v := 0) C dL_law_144 (by decide) ?_
  refine S_iast C 0 rfl 2 (by decide) (by decide) rfl (ar' := [(q132, 0, 3, (upd (upd (upd (fun _ => 0) 0 0) 1 0) 2 0))]) rfl dL_law_145 ?_
  refine S_askX C (k_bid hfl aL_W (n := 3) (g := (upd (upd (upd (fun _ => 0) 0 0) 1 0) 2 0)) (by decide) (by decide)) hw_L_ask mk_L_153 ⟨by decide, by decide⟩ (Nat.le_of_ble_eq_true rfl) ⟨(by decide), (by decide)⟩ dL_law_146 (v := (-2000000001)) aL_146 (by decide) ?_
  refine S_cs (k := 86) (n := 1521) (by decide) (by decide) ?_
  refine S_ldc (v := (-2000000001)) C kc_L_109 dL_law_149 ?_
  refine S_icmp_ne C 679 dL_law_151 (by decide) (fun h => absurd rfl h) (fun _ => ?_)
  refine S_aload_n C dL_law_154 rfl ?_
  refine S_bipush (v := 117) C dL_law_155 (by decide) ?_
  refine S_iconst (v := 2) C dL_law_157 (by decide) ?_
  refine S_newa C (at0 := .int) (c0 := 0) (ty := .int) (N := 2) rfl rfl (fun h => h) (fun cA => rfl) (by decide) (by decide) (by decide) (by decide) (by decide) dL_law_158 (fun q158 => ?_)
  refine S_dup C dL_law_160 rfl ?_
  refine S_iconst (v := 0) C dL_law_161 (by decide) ?_
  refine S_iconst (v := 0) C dL_law_162 (by decide) ?_
  refine S_iast C 0 rfl 0 (by decide) (by decide) rfl (ar' := [(q158, 0, 2, (upd (fun _ => 0) 0 0))]) rfl dL_law_163 ?_
  refine S_dup C dL_law_164 rfl ?_
  refine S_iconst (v := 1) C dL_law_165 (by decide) ?_
  refine S_iconst (v := 0) C dL_law_166 (by decide) ?_
  refine S_iast C 0 rfl 1 (by decide) (by decide) rfl (ar' := [(q158, 0, 2, (upd (upd (fun _ => 0) 0 0) 1 0))]) rfl dL_law_167 ?_
  refine S_askX C (k_unbid hfl aL_W (n := 2) (g := (upd (upd (fun _ => 0) 0 0) 1 0)) (by decide) (by decide)) hw_L_ask mk_L_153 ⟨by decide, by decide⟩ (Nat.le_of_ble_eq_true rfl) ⟨(by decide), (by decide)⟩ dL_law_168 (v := (-2000000001)) aL_168 (by decide) ?_
  refine S_cs (k := 90) (n := 1541) (by decide) (by decide) ?_
  refine S_ldc (v := (-2000000001)) C kc_L_109 dL_law_171 ?_
  refine S_icmp_ne C 679 dL_law_173 (by decide) (fun h => absurd rfl h) (fun _ => ?_)
  refine S_aload_n C dL_law_176 rfl ?_
  refine S_bipush (v := 112) C dL_law_177 (by decide) ?_
  refine S_iconst (v := 1) C dL_law_179 (by decide) ?_
  refine S_newa C (at0 := .int) (c0 := 0) (ty := .int) (N := 1) rfl rfl (fun h => h) (fun cA => rfl) (by decide) (by decide) (by decide) (by decide) (by decide) dL_law_180 (fun q180 => ?_)
  refine S_dup C dL_law_182 rfl ?_
  refine S_iconst (v := 0) C dL_law_183 (by decide) ?_
  refine S_iconst (v := 0) C dL_law_184 (by decide) ?_
  refine S_iast C 0 rfl 0 (by decide) (by decide) rfl (ar' := [(q180, 0, 1, (upd (fun _ => 0) 0 0))]) rfl dL_law_185 ?_
  refine S_askX C (k_points hfl aL_W (n := 1) (g := (upd (fun _ => 0) 0 0)) (by decide) (by decide)) hw_L_ask mk_L_153 ⟨by decide, by decide⟩ (Nat.le_of_ble_eq_true rfl) ⟨(by decide), (by decide)⟩ dL_law_186 (v := (-2000000001)) aL_186 (by decide) ?_
  refine S_cs (k := 92) (n := 1548) (by decide) (by decide) ?_
  refine S_ldc (v := (-2000000001)) C kc_L_109 dL_law_189 ?_
  refine S_icmp_ne C 679 dL_law_191 (by decide) (fun h => absurd rfl h) (fun _ => ?_)
  refine S_aload_n C dL_law_194 rfl ?_
  refine S_bipush (v := 115) C dL_law_195 (by decide) ?_
  refine S_iconst (v := 3) C dL_law_197 (by decide) ?_
  refine S_newa C (at0 := .int) (c0 := 0) (ty := .int) (N := 3) rfl rfl (fun h => h) (fun cA => rfl) (by decide) (by decide) (by decide) (by decide) (by decide) dL_law_198 (fun q198 => ?_)
  refine S_dup C dL_law_200 rfl ?_
  refine S_iconst (v := 0) C dL_law_201 (by decide) ?_
  refine S_iconst (v := 0) C dL_law_202 (by decide) ?_
  refine S_iast C 0 rfl 0 (by decide) (by decide) rfl (ar' := [(q198, 0, 3, (upd (fun _ => 0) 0 0))]) rfl dL_law_203 ?_
  refine S_dup C dL_law_204 rfl ?_
  refine S_iconst (v := 1) C dL_law_205 (by decide) ?_
  refine S_iconst (v := 0) C dL_law_206 (by decide) ?_
  refine S_iast C 0 rfl 1 (by decide) (by decide) rfl (ar' := [(q198, 0, 3, (upd (upd (fun _ => 0) 0 0) 1 0))]) rfl dL_law_207 ?_
  refine S_dup C dL_law_208 rfl ?_
  refine S_iconst (v := 2) C dL_law_209 (by decide) ?_
  refine S_iconst (v := 0) C dL_law_210 (by decide) ?_
  refine S_iast C 0 rfl 2 (by decide) (by decide) rfl (ar' := [(q198, 0, 3, (upd (upd (upd (fun _ => 0) 0 0) 1 0) 2 0))]) rfl dL_law_211 ?_
  refine S_askX C (k_seat hfl aL_W (n := 3) (g := (upd (upd (upd (fun _ => 0) 0 0) 1 0) 2 0)) (by decide) (by decide)) hw_L_ask mk_L_153 ⟨by decide, by decide⟩ (Nat.le_of_ble_eq_true rfl) ⟨(by decide), (by decide)⟩ dL_law_212 (v := (-2000000001)) aL_212 (by decide) ?_
  refine S_cs (k := 96) (n := 1569) (by decide) (by decide) ?_
  refine S_ldc (v := (-2000000001)) C kc_L_109 dL_law_215 ?_
  refine S_icmp_ne C 679 dL_law_217 (by decide) (fun h => absurd rfl h) (fun _ => ?_)
  refine S_aload_n C dL_law_220 rfl ?_
  refine S_bipush (v := 97) C dL_law_221 (by decide) ?_
  refine S_iconst (v := 2) C dL_law_223 (by decide) ?_
  refine S_newa C (at0 := .int) (c0 := 0) (ty := .int) (N := 2) rfl rfl (fun h => h) (fun cA => rfl) (by decide) (by decide) (by decide) (by decide) (by decide) dL_law_224 (fun q224 => ?_)
  refine S_dup C dL_law_226 rfl ?_
  refine S_iconst (v := 0) C dL_law_227 (by decide) ?_
  refine S_iconst (v := 0) C dL_law_228 (by decide) ?_
  refine S_iast C 0 rfl 0 (by decide) (by decide) rfl (ar' := [(q224, 0, 2, (upd (fun _ => 0) 0 0))]) rfl dL_law_229 ?_
  refine S_dup C dL_law_230 rfl ?_
  refine S_iconst (v := 1) C dL_law_231 (by decide) ?_
  refine S_bipush (v := 9) C dL_law_232 (by decide) ?_
  refine S_iast C 0 rfl 1 (by decide) (by decide) rfl (ar' := [(q224, 0, 2, (upd (upd (fun _ => 0) 0 0) 1 9))]) rfl dL_law_234 ?_
  refine S_askX C (k_at hfl aL_W (n := 2) (g := (upd (upd (fun _ => 0) 0 0) 1 9)) (by decide) (by decide)) hw_L_ask mk_L_153 ⟨by decide, by decide⟩ (Nat.le_of_ble_eq_true rfl) ⟨(by decide), (by decide)⟩ dL_law_235 (v := (-2000000001)) aL_235 (by decide) ?_
  refine S_cs (k := 100) (n := 1589) (by decide) (by decide) ?_
  refine S_ldc (v := (-2000000001)) C kc_L_109 dL_law_238 ?_
  refine S_icmp_ne C 679 dL_law_240 (by decide) (fun h => absurd rfl h) (fun _ => ?_)
  refine S_aload_n C dL_law_243 rfl ?_
  refine S_bipush (v := 104) C dL_law_244 (by decide) ?_
  refine S_iconst (v := 1) C dL_law_246 (by decide) ?_
  refine S_newa C (at0 := .int) (c0 := 0) (ty := .int) (N := 1) rfl rfl (fun h => h) (fun cA => rfl) (by decide) (by decide) (by decide) (by decide) (by decide) dL_law_247 (fun q247 => ?_)
  refine S_dup C dL_law_249 rfl ?_
  refine S_iconst (v := 0) C dL_law_250 (by decide) ?_
  refine S_iconst (v := 0) C dL_law_251 (by decide) ?_
  refine S_iast C 0 rfl 0 (by decide) (by decide) rfl (ar' := [(q247, 0, 1, (upd (fun _ => 0) 0 0))]) rfl dL_law_252 ?_
  refine S_askX C (k_holders hfl aL_W (n := 1) (g := (upd (fun _ => 0) 0 0)) (by decide) (by decide)) hw_L_ask mk_L_153 ⟨by decide, by decide⟩ (Nat.le_of_ble_eq_true rfl) ⟨(by decide), (by decide)⟩ dL_law_253 (v := (-2000000001)) aL_253 (by decide) ?_
  refine S_cs (k := 102) (n := 1596) (by decide) (by decide) ?_
  refine S_ldc (v := (-2000000001)) C kc_L_109 dL_law_256 ?_
  refine S_icmp_ne C 679 dL_law_258 (by decide) (fun h => absurd rfl h) (fun _ => ?_)
  refine S_aload_n C dL_law_261 rfl ?_
  refine S_bipush (v := 72) C dL_law_262 (by decide) ?_
  refine S_iconst (v := 2) C dL_law_264 (by decide) ?_
  refine S_newa C (at0 := .int) (c0 := 0) (ty := .int) (N := 2) rfl rfl (fun h => h) (fun cA => rfl) (by decide) (by decide) (by decide) (by decide) (by decide) dL_law_265 (fun q265 => ?_)
  refine S_dup C dL_law_267 rfl ?_
  refine S_iconst (v := 0) C dL_law_268 (by decide) ?_
  refine S_iconst (v := 0) C dL_law_269 (by decide) ?_
  refine S_iast C 0 rfl 0 (by decide) (by decide) rfl (ar' := [(q265, 0, 2, (upd (fun _ => 0) 0 0))]) rfl dL_law_270 ?_
  refine S_dup C dL_law_271 rfl ?_
  refine S_iconst (v := 1) C dL_law_272 (by decide) ?_
  refine S_iconst (v := 0) C dL_law_273 (by decide) ?_
  refine S_iast C 0 rfl 1 (by decide) (by decide) rfl (ar' := [(q265, 0, 2, (upd (upd (fun _ => 0) 0 0) 1 0))]) rfl dL_law_274 ?_
  refine S_askX C (k_holder hfl aL_W (n := 2) (g := (upd (upd (fun _ => 0) 0 0) 1 0)) (by decide) (by decide)) hw_L_ask mk_L_153 ⟨by decide, by decide⟩ (Nat.le_of_ble_eq_true rfl) ⟨(by decide), (by decide)⟩ dL_law_275 (v := (-2000000001)) aL_275 (by decide) ?_
  refine S_cs (k := 105) (n := 1610) (by decide) (by decide) ?_
  refine S_ldc (v := (-2000000001)) C kc_L_109 dL_law_278 ?_
  refine S_icmp_ne C 679 dL_law_280 (by decide) (fun h => absurd rfl h) (fun _ => ?_)
  refine S_aload_n C dL_law_283 rfl ?_
  refine S_bipush (v := 100) C dL_law_284 (by decide) ?_
  refine S_iconst (v := 2) C dL_law_286 (by decide) ?_
  refine S_newa C (at0 := .int) (c0 := 0) (ty := .int) (N := 2) rfl rfl (fun h => h) (fun cA => rfl) (by decide) (by decide) (by decide) (by decide) (by decide) dL_law_287 (fun q287 => ?_)
  refine S_dup C dL_law_289 rfl ?_
  refine S_iconst (v := 0) C dL_law_290 (by decide) ?_
  refine S_iconst (v := 0) C dL_law_291 (by decide) ?_
  refine S_iast C 0 rfl 0 (by decide) (by decide) rfl (ar' := [(q287, 0, 2, (upd (fun _ => 0) 0 0))]) rfl dL_law_292 ?_
  refine S_dup C dL_law_293 rfl ?_
  refine S_iconst (v := 1) C dL_law_294 (by decide) ?_
  refine S_iconst (v := 0) C dL_law_295 (by decide) ?_
  refine S_iast C 0 rfl 1 (by decide) (by decide) rfl (ar' := [(q287, 0, 2, (upd (upd (fun _ => 0) 0 0) 1 0))]) rfl dL_law_296 ?_
  refine S_askX C (k_paid hfl aL_W (n := 2) (g := (upd (upd (fun _ => 0) 0 0) 1 0)) (by decide) (by decide)) hw_L_ask mk_L_153 ⟨by decide, by decide⟩ (Nat.le_of_ble_eq_true rfl) ⟨(by decide), (by decide)⟩ dL_law_297 (v := (-2000000001)) aL_297 (by decide) ?_
  refine S_cs (k := 109) (n := 1630) (by decide) (by decide) ?_
  refine S_ldc (v := (-2000000001)) C kc_L_109 dL_law_300 ?_
  refine S_icmp_ne C 679 dL_law_302 (by decide) (fun h => absurd rfl h) (fun _ => ?_)
  refine S_aload_n C dL_law_305 rfl ?_
  refine S_bipush (v := 119) C dL_law_306 (by decide) ?_
  refine S_iconst (v := 1) C dL_law_308 (by decide) ?_
  refine S_newa C (at0 := .int) (c0 := 0) (ty := .int) (N := 1) rfl rfl (fun h => h) (fun cA => rfl) (by decide) (by decide) (by decide) (by decide) (by decide) dL_law_309 (fun q309 => ?_)
  refine S_dup C dL_law_311 rfl ?_
  refine S_iconst (v := 0) C dL_law_312 (by decide) ?_
  refine S_iconst (v := 0) C dL_law_313 (by decide) ?_
  refine S_iast C 0 rfl 0 (by decide) (by decide) rfl (ar' := [(q309, 0, 1, (upd (fun _ => 0) 0 0))]) rfl dL_law_314 ?_
  refine S_askX C (k_waiting hfl aL_W (n := 1) (g := (upd (fun _ => 0) 0 0)) (by decide) (by decide)) hw_L_ask mk_L_153 ⟨by decide, by decide⟩ (Nat.le_of_ble_eq_true rfl) ⟨(by decide), (by decide)⟩ dL_law_315 (v := (-2000000001)) aL_315 (by decide) ?_
  refine S_cs (k := 111) (n := 1637) (by decide) (by decide) ?_
  refine S_ldc (v := (-2000000001)) C kc_L_109 dL_law_318 ?_
  refine S_icmp_ne C 679 dL_law_320 (by decide) (fun h => absurd rfl h) (fun _ => ?_)
  refine S_aload_n C dL_law_323 rfl ?_
  refine S_bipush (v := 87) C dL_law_324 (by decide) ?_
  refine S_iconst (v := 2) C dL_law_326 (by decide) ?_
  refine S_newa C (at0 := .int) (c0 := 0) (ty := .int) (N := 2) rfl rfl (fun h => h) (fun cA => rfl) (by decide) (by decide) (by decide) (by decide) (by decide) dL_law_327 (fun q327 => ?_)
  refine S_dup C dL_law_329 rfl ?_
  refine S_iconst (v := 0) C dL_law_330 (by decide) ?_
  refine S_iconst (v := 0) C dL_law_331 (by decide) ?_
  refine S_iast C 0 rfl 0 (by decide) (by decide) rfl (ar' := [(q327, 0, 2, (upd (fun _ => 0) 0 0))]) rfl dL_law_332 ?_
  refine S_dup C dL_law_333 rfl ?_
  refine S_iconst (v := 1) C dL_law_334 (by decide) ?_
  refine S_iconst (v := 0) C dL_law_335 (by decide) ?_
  refine S_iast C 0 rfl 1 (by decide) (by decide) rfl (ar' := [(q327, 0, 2, (upd (upd (fun _ => 0) 0 0) 1 0))]) rfl dL_law_336 ?_
  refine S_askX C (k_waiter hfl aL_W (n := 2) (g := (upd (upd (fun _ => 0) 0 0) 1 0)) (by decide) (by decide)) hw_L_ask mk_L_153 ⟨by decide, by decide⟩ (Nat.le_of_ble_eq_true rfl) ⟨(by decide), (by decide)⟩ dL_law_337 (v := (-2000000001)) aL_337 (by decide) ?_
  refine S_cs (k := 114) (n := 1651) (by decide) (by decide) ?_
  refine S_ldc (v := (-2000000001)) C kc_L_109 dL_law_340 ?_
  refine S_icmp_ne C 679 dL_law_342 (by decide) (fun h => absurd rfl h) (fun _ => ?_)
  refine S_aload_n C dL_law_345 rfl ?_
  refine S_bipush (v := 103) C dL_law_346 (by decide) ?_
  refine S_iconst (v := 2) C dL_law_348 (by decide) ?_
  refine S_newa C (at0 := .int) (c0 := 0) (ty := .int) (N := 2) rfl rfl (fun h => h) (fun cA => rfl) (by decide) (by decide) (by decide) (by decide) (by decide) dL_law_349 (fun q349 => ?_)
  refine S_dup C dL_law_351 rfl ?_
  refine S_iconst (v := 0) C dL_law_352 (by decide) ?_
  refine S_iconst (v := 0) C dL_law_353 (by decide) ?_
  refine S_iast C 0 rfl 0 (by decide) (by decide) rfl (ar' := [(q349, 0, 2, (upd (fun _ => 0) 0 0))]) rfl dL_law_354 ?_
  refine S_dup C dL_law_355 rfl ?_
  refine S_iconst (v := 1) C dL_law_356 (by decide) ?_
  refine S_iconst (v := 0) C dL_law_357 (by decide) ?_
  refine S_iast C 0 rfl 1 (by decide) (by decide) rfl (ar' := [(q349, 0, 2, (upd (upd (fun _ => 0) 0 0) 1 0))]) rfl dL_law_358 ?_
  refine S_askX C (k_giveUp hfl aL_W (n := 2) (g := (upd (upd (fun _ => 0) 0 0) 1 0)) (by decide) (by decide)) hw_L_ask mk_L_153 ⟨by decide, by decide⟩ (Nat.le_of_ble_eq_true rfl) ⟨(by decide), (by decide)⟩ dL_law_359 (v := (-2000000001)) aL_359 (by decide) ?_
  refine S_cs (k := 118) (n := 1671) (by decide) (by decide) ?_
  refine S_ldc (v := (-2000000001)) C kc_L_109 dL_law_362 ?_
  refine S_icmp_ne C 679 dL_law_364 (by decide) (fun h => absurd rfl h) (fun _ => ?_)
  refine S_aload_n C dL_law_367 rfl ?_
  refine S_bipush (v := 109) C dL_law_368 (by decide) ?_
  refine S_iconst (v := 2) C dL_law_370 (by decide) ?_
  refine S_newa C (at0 := .int) (c0 := 0) (ty := .int) (N := 2) rfl rfl (fun h => h) (fun cA => rfl) (by decide) (by decide) (by decide) (by decide) (by decide) dL_law_371 (fun q371 => ?_)
  refine S_dup C dL_law_373 rfl ?_
  refine S_iconst (v := 0) C dL_law_374 (by decide) ?_
  refine S_iconst (v := 0) C dL_law_375 (by decide) ?_
  refine S_iast C 0 rfl 0 (by decide) (by decide) rfl (ar' := [(q371, 0, 2, (upd (fun _ => 0) 0 0))]) rfl dL_law_376 ?_
  refine S_dup C dL_law_377 rfl ?_
  refine S_iconst (v := 1) C dL_law_378 (by decide) ?_
  refine S_bipush (v := 9) C dL_law_379 (by decide) ?_
  refine S_iast C 0 rfl 1 (by decide) (by decide) rfl (ar' := [(q371, 0, 2, (upd (upd (fun _ => 0) 0 0) 1 9))]) rfl dL_law_381 ?_
  refine S_askX C (k_move hfl aL_W (n := 2) (g := (upd (upd (fun _ => 0) 0 0) 1 9)) (by decide) (by decide)) hw_L_ask mk_L_153 ⟨by decide, by decide⟩ (Nat.le_of_ble_eq_true rfl) ⟨(by decide), (by decide)⟩ dL_law_382 (v := (-2000000001)) aL_382 (by decide) ?_
  refine S_cs (k := 122) (n := 1691) (by decide) (by decide) ?_
  refine S_ldc (v := (-2000000001)) C kc_L_109 dL_law_385 ?_
  refine S_icmp_ne C 679 dL_law_387 (by decide) (fun h => absurd rfl h) (fun _ => ?_)
  refine S_aload_n C dL_law_390 rfl ?_
  refine S_bipush (v := 108) C dL_law_391 (by decide) ?_
  refine S_iconst (v := 1) C dL_law_393 (by decide) ?_
  refine S_newa C (at0 := .int) (c0 := 0) (ty := .int) (N := 1) rfl rfl (fun h => h) (fun cA => rfl) (by decide) (by decide) (by decide) (by decide) (by decide) dL_law_394 (fun q394 => ?_)
  refine S_dup C dL_law_396 rfl ?_
  refine S_iconst (v := 0) C dL_law_397 (by decide) ?_
  refine S_iconst (v := 0) C dL_law_398 (by decide) ?_
  refine S_iast C 0 rfl 0 (by decide) (by decide) rfl (ar' := [(q394, 0, 1, (upd (fun _ => 0) 0 0))]) rfl dL_law_399 ?_
  refine S_askX C (k_slotOf hfl aL_W (n := 1) (g := (upd (fun _ => 0) 0 0)) (by decide) (by decide)) hw_L_ask mk_L_153 ⟨by decide, by decide⟩ (Nat.le_of_ble_eq_true rfl) ⟨(by decide), (by decide)⟩ dL_law_400 (v := (-2000000001)) aL_400 (by decide) ?_
  refine S_cs (k := 124) (n := 1698) (by decide) (by decide) ?_
  refine S_ldc (v := (-2000000001)) C kc_L_109 dL_law_403 ?_
  refine S_icmp_ne C 679 dL_law_405 (by decide) (fun h => absurd rfl h) (fun _ => ?_)
  refine S_aload_n C dL_law_408 rfl ?_
  refine S_bipush (v := 120) C dL_law_409 (by decide) ?_
  refine S_iconst (v := 5) C dL_law_411 (by decide) ?_
  refine S_newa C (at0 := .int) (c0 := 0) (ty := .int) (N := 5) rfl rfl (fun h => h) (fun cA => rfl) (by decide) (by decide) (by decide) (by decide) (by decide) dL_law_412 (fun q412 => ?_)
  refine S_dup C dL_law_414 rfl ?_
  refine S_iconst (v := 0) C dL_law_415 (by decide) ?_
  refine S_iconst (v := 0) C dL_law_416 (by decide) ?_
  refine S_iast C 0 rfl 0 (by decide) (by decide) rfl (ar' := [(q412, 0, 5, (upd (fun _ => 0) 0 0))]) rfl dL_law_417 ?_
  refine S_dup C dL_law_418 rfl ?_
  refine S_iconst (v := 1) C dL_law_419 (by decide) ?_
  refine S_iconst (v := 0) C dL_law_420 (by decide) ?_
  refine S_iast C 0 rfl 1 (by decide) (by decide) rfl (ar' := [(q412, 0, 5, (upd (upd (fun _ => 0) 0 0) 1 0))]) rfl dL_law_421 ?_
  refine S_dup C dL_law_422 rfl ?_
  refine S_iconst (v := 2) C dL_law_423 (by decide) ?_
  refine S_iconst (v := 0) C dL_law_424 (by decide) ?_
  refine S_iast C 0 rfl 2 (by decide) (by decide) rfl (ar' := [(q412, 0, 5, (upd (upd (upd (fun _ => 0) 0 0) 1 0) 2 0))]) rfl dL_law_425 ?_
  refine S_dup C dL_law_426 rfl ?_
  refine S_iconst (v := 3) C dL_law_427 (by decide) ?_
  refine S_bipush (v := 122) C dL_law_428 (by decide) ?_
  refine S_iast C 0 rfl 3 (by decide) (by decide) rfl (ar' := [(q412, 0, 5, (upd (upd (upd (upd (fun _ => 0) 0 0) 1 0) 2 0) 3 122))]) rfl dL_law_430 ?_
  refine S_dup C dL_law_431 rfl ?_
  refine S_iconst (v := 4) C dL_law_432 (by decide) ?_
  refine S_iconst (v := 0) C dL_law_433 (by decide) ?_
  refine S_iast C 0 rfl 4 (by decide) (by decide) rfl (ar' := [(q412, 0, 5, (upd (upd (upd (upd (upd (fun _ => 0) 0 0) 1 0) 2 0) 3 122) 4 0))]) rfl dL_law_434 ?_
  refine S_askX C (k_write hfl aL_W (n := 5) (g := (upd (upd (upd (upd (upd (fun _ => 0) 0 0) 1 0) 2 0) 3 122) 4 0)) (by decide) (by decide) (f3 := 122) (by show ((122 : Int32).toUInt32 % 65536).toInt32 = 122; decide)) hw_L_ask mk_L_153 ⟨by decide, by decide⟩ (Nat.le_of_ble_eq_true rfl) ⟨(by decide), (by decide)⟩ dL_law_435 (v := (-2000000001)) aL_435 (by decide) ?_
  refine S_cs (k := 130) (n := 1733) (by decide) (by decide) ?_
  refine S_ldc (v := (-2000000001)) C kc_L_109 dL_law_438 ?_
  refine S_icmp_ne C 679 dL_law_440 (by decide) (fun h => absurd rfl h) (fun _ => ?_)
  refine S_aload_n C dL_law_443 rfl ?_
  refine S_bipush (v := 114) C dL_law_444 (by decide) ?_
  refine S_iconst (v := 4) C dL_law_446 (by decide) ?_
  refine S_newa C (at0 := .int) (c0 := 0) (ty := .int) (N := 4) rfl rfl (fun h => h) (fun cA => rfl) (by decide) (by decide) (by decide) (by decide) (by decide) dL_law_447 (fun q447 => ?_)
  refine S_dup C dL_law_449 rfl ?_
  refine S_iconst (v := 0) C dL_law_450 (by decide) ?_
  refine S_iconst (v := 3) C dL_law_451 (by decide) ?_
  refine S_iast C 0 rfl 0 (by decide) (by decide) rfl (ar' := [(q447, 0, 4, (upd (fun _ => 0) 0 3))]) rfl dL_law_452 ?_
  refine S_dup C dL_law_453 rfl ?_
  refine S_iconst (v := 1) C dL_law_454 (by decide) ?_
  refine S_iconst (v := 0) C dL_law_455 (by decide) ?_
  refine S_iast C 0 rfl 1 (by decide) (by decide) rfl (ar' := [(q447, 0, 4, (upd (upd (fun _ => 0) 0 3) 1 0))]) rfl dL_law_456 ?_
  refine S_dup C dL_law_457 rfl ?_
  refine S_iconst (v := 2) C dL_law_458 (by decide) ?_
  refine S_iconst (v := 0) C dL_law_459 (by decide) ?_
  refine S_iast C 0 rfl 2 (by decide) (by decide) rfl (ar' := [(q447, 0, 4, (upd (upd (upd (fun _ => 0) 0 3) 1 0) 2 0))]) rfl dL_law_460 ?_
  refine S_dup C dL_law_461 rfl ?_
  refine S_iconst (v := 3) C dL_law_462 (by decide) ?_
  refine S_bipush (v := 122) C dL_law_463 (by decide) ?_
  refine S_iast C 0 rfl 3 (by decide) (by decide) rfl (ar' := [(q447, 0, 4, (upd (upd (upd (upd (fun _ => 0) 0 3) 1 0) 2 0) 3 122))]) rfl dL_law_465 ?_
  refine S_askX C (k_read hfl aL_W (n := 4) (g := (upd (upd (upd (upd (fun _ => 0) 0 3) 1 0) 2 0) 3 122)) (by decide) (by decide) (f3 := 122) (by show ((122 : Int32).toUInt32 % 65536).toInt32 = 122; decide)) hw_L_ask mk_L_153 ⟨by decide, by decide⟩ (Nat.le_of_ble_eq_true rfl) ⟨(by decide), (by decide)⟩ dL_law_466 (v := (-2000000001)) aL_466 (by decide) ?_
  refine S_cs (k := 135) (n := 1761) (by decide) (by decide) ?_
  refine S_ldc (v := (-2000000001)) C kc_L_109 dL_law_469 ?_
  refine S_icmp_ne C 679 dL_law_471 (by decide) (fun h => absurd rfl h) (fun _ => ?_)
  refine S_aload_n C dL_law_474 rfl ?_
  refine S_bipush (v := 121) C dL_law_475 (by decide) ?_
  refine S_iconst (v := 2) C dL_law_477 (by decide) ?_
  refine S_newa C (at0 := .int) (c0 := 0) (ty := .int) (N := 2) rfl rfl (fun h => h) (fun cA => rfl) (by decide) (by decide) (by decide) (by decide) (by decide) dL_law_478 (fun q478 => ?_)
  refine S_dup C dL_law_480 rfl ?_
  refine S_iconst (v := 0) C dL_law_481 (by decide) ?_
  refine S_iconst (v := 0) C dL_law_482 (by decide) ?_
  refine S_iast C 0 rfl 0 (by decide) (by decide) rfl (ar' := [(q478, 0, 2, (upd (fun _ => 0) 0 0))]) rfl dL_law_483 ?_
  refine S_dup C dL_law_484 rfl ?_
  refine S_iconst (v := 1) C dL_law_485 (by decide) ?_
  refine S_iconst (v := 3) C dL_law_486 (by decide) ?_
  refine S_iast C 0 rfl 1 (by decide) (by decide) rfl (ar' := [(q478, 0, 2, (upd (upd (fun _ => 0) 0 0) 1 3))]) rfl dL_law_487 ?_
  refine S_askX C (k_sync hfl aL_W (n := 2) (g := (upd (upd (fun _ => 0) 0 0) 1 3)) (by decide) (by decide)) hw_L_ask mk_L_153 ⟨by decide, by decide⟩ (Nat.le_of_ble_eq_true rfl) ⟨(by decide), (by decide)⟩ dL_law_488 (v := (-2000000001)) aL_488 (by decide) ?_
  refine S_cs (k := 139) (n := 1781) (by decide) (by decide) ?_
  refine S_ldc (v := (-2000000001)) C kc_L_109 dL_law_491 ?_
  refine S_icmp_ne C 679 dL_law_493 (by decide) (fun h => absurd rfl h) (fun _ => ?_)
  refine S_aload_n C dL_law_496 rfl ?_
  refine S_bipush (v := 77) C dL_law_497 (by decide) ?_
  refine S_iconst (v := 2) C dL_law_499 (by decide) ?_
  refine S_newa C (at0 := .int) (c0 := 0) (ty := .int) (N := 2) rfl rfl (fun h => h) (fun cA => rfl) (by decide) (by decide) (by decide) (by decide) (by decide) dL_law_500 (fun q500 => ?_)
  refine S_dup C dL_law_502 rfl ?_
  refine S_iconst (v := 0) C dL_law_503 (by decide) ?_
  refine S_iconst (v := 0) C dL_law_504 (by decide) ?_
  refine S_iast C 0 rfl 0 (by decide) (by decide) rfl (ar' := [(q500, 0, 2, (upd (fun _ => 0) 0 0))]) rfl dL_law_505 ?_
  refine S_dup C dL_law_506 rfl ?_
  refine S_iconst (v := 1) C dL_law_507 (by decide) ?_
  refine S_iconst (v := 0) C dL_law_508 (by decide) ?_
  refine S_iast C 0 rfl 1 (by decide) (by decide) rfl (ar' := [(q500, 0, 2, (upd (upd (fun _ => 0) 0 0) 1 0))]) rfl dL_law_509 ?_
  refine S_askX C (k_maySit hfl aL_W (n := 2) (g := (upd (upd (fun _ => 0) 0 0) 1 0)) (by decide) (by decide)) hw_L_ask mk_L_153 ⟨by decide, by decide⟩ (Nat.le_of_ble_eq_true rfl) ⟨(by decide), (by decide)⟩ dL_law_510 (v := (-2000000001)) aL_510 (by decide) ?_
  refine S_cs (k := 142) (n := 1795) (by decide) (by decide) ?_
  refine S_ldc (v := (-2000000001)) C kc_L_109 dL_law_513 ?_
  refine S_icmp_ne C 679 dL_law_515 (by decide) (fun h => absurd rfl h) (fun _ => ?_)
  refine S_aload_n C dL_law_518 rfl ?_
  refine S_bipush (v := 78) C dL_law_519 (by decide) ?_
  refine S_iconst (v := 2) C dL_law_521 (by decide) ?_
  refine S_newa C (at0 := .int) (c0 := 0) (ty := .int) (N := 2) rfl rfl (fun h => h) (fun cA => rfl) (by decide) (by decide) (by decide) (by decide) (by decide) dL_law_522 (fun q522 => ?_)
  refine S_dup C dL_law_524 rfl ?_
  refine S_iconst (v := 0) C dL_law_525 (by decide) ?_
  refine S_iconst (v := 0) C dL_law_526 (by decide) ?_
  refine S_iast C 0 rfl 0 (by decide) (by decide) rfl (ar' := [(q522, 0, 2, (upd (fun _ => 0) 0 0))]) rfl dL_law_527 ?_
  refine S_dup C dL_law_528 rfl ?_
  refine S_iconst (v := 1) C dL_law_529 (by decide) ?_
  refine S_iconst (v := 0) C dL_law_530 (by decide) ?_
  refine S_iast C 0 rfl 1 (by decide) (by decide) rfl (ar' := [(q522, 0, 2, (upd (upd (fun _ => 0) 0 0) 1 0))]) rfl dL_law_531 ?_
  refine S_askX C (k_isOpen hfl aL_W (n := 2) (g := (upd (upd (fun _ => 0) 0 0) 1 0)) (by decide) (by decide)) hw_L_ask mk_L_153 ⟨by decide, by decide⟩ (Nat.le_of_ble_eq_true rfl) ⟨(by decide), (by decide)⟩ dL_law_532 (v := (-2000000001)) aL_532 (by decide) ?_
  refine S_cs (k := 145) (n := 1809) (by decide) (by decide) ?_
  refine S_ldc (v := (-2000000001)) C kc_L_109 dL_law_535 ?_
  refine S_icmp_ne C 679 dL_law_537 (by decide) (fun h => absurd rfl h) (fun _ => ?_)
  refine S_aload_n C dL_law_540 rfl ?_
  refine S_bipush (v := 99) C dL_law_541 (by decide) ?_
  refine S_iconst (v := 1) C dL_law_543 (by decide) ?_
  refine S_newa C (at0 := .int) (c0 := 0) (ty := .int) (N := 1) rfl rfl (fun h => h) (fun cA => rfl) (by decide) (by decide) (by decide) (by decide) (by decide) dL_law_544 (fun q544 => ?_)
  refine S_dup C dL_law_546 rfl ?_
  refine S_iconst (v := 0) C dL_law_547 (by decide) ?_
  refine S_bipush (v := 6) C dL_law_548 (by decide) ?_
  refine S_iast C 0 rfl 0 (by decide) (by decide) rfl (ar' := [(q544, 0, 1, (upd (fun _ => 0) 0 6))]) rfl dL_law_550 ?_
  refine S_askX C (k_sit hfl aL_W (n := 1) (g := (upd (fun _ => 0) 0 6)) (by decide) (by decide)) hw_L_ask mk_L_153 ⟨by decide, by decide⟩ (Nat.le_of_ble_eq_true rfl) ⟨(by decide), (by decide)⟩ dL_law_551 (v := (-2000000002)) aL_551 (by decide) ?_
  refine S_cs (k := 148) (n := 1822) (by decide) (by decide) ?_
  refine S_ldc (v := (-2000000002)) C kc_L_112 dL_law_554 ?_
  refine S_icmp_ne C 679 dL_law_556 (by decide) (fun h => absurd rfl h) (fun _ => ?_)
  refine S_aload_n C dL_law_559 rfl ?_
  refine S_bipush (v := 99) C dL_law_560 (by decide) ?_
  refine S_iconst (v := 1) C dL_law_562 (by decide) ?_
  refine S_newa C (at0 := .int) (c0 := 0) (ty := .int) (N := 1) rfl rfl (fun h => h) (fun cA => rfl) (by decide) (by decide) (by decide) (by decide) (by decide) dL_law_563 (fun q563 => ?_)
  refine S_dup C dL_law_565 rfl ?_
  refine S_iconst (v := 0) C dL_law_566 (by decide) ?_
  refine S_iconst (v := (-1)) C dL_law_567 (by decide) ?_
  refine S_iast C 0 rfl 0 (by decide) (by decide) rfl (ar' := [(q563, 0, 1, (upd (fun _ => 0) 0 (-1)))]) rfl dL_law_568 ?_
  refine S_askX C (k_sit hfl aL_W (n := 1) (g := (upd (fun _ => 0) 0 (-1))) (by decide) (by decide)) hw_L_ask mk_L_153 ⟨by decide, by decide⟩ (Nat.le_of_ble_eq_true rfl) ⟨(by decide), (by decide)⟩ dL_law_569 (v := (-2000000002)) aL_569 (by decide) ?_
  refine S_cs (k := 151) (n := 1835) (by decide) (by decide) ?_
  refine S_ldc (v := (-2000000002)) C kc_L_112 dL_law_572 ?_
  refine S_icmp_ne C 679 dL_law_574 (by decide) (fun h => absurd rfl h) (fun _ => ?_)
  refine S_aload_n C dL_law_577 rfl ?_
  refine S_bipush (v := 107) C dL_law_578 (by decide) ?_
  refine S_iconst (v := 3) C dL_law_580 (by decide) ?_
  refine S_newa C (at0 := .int) (c0 := 0) (ty := .int) (N := 3) rfl rfl (fun h => h) (fun cA => rfl) (by decide) (by decide) (by decide) (by decide) (by decide) dL_law_581 (fun q581 => ?_)
  refine S_dup C dL_law_583 rfl ?_
  refine S_iconst (v := 0) C dL_law_584 (by decide) ?_
  refine S_iconst (v := 0) C dL_law_585 (by decide) ?_
  refine S_iast C 0 rfl 0 (by decide) (by decide) rfl (ar' := [(q581, 0, 3, (upd (fun _ => 0) 0 0))]) rfl dL_law_586 ?_
  refine S_dup C dL_law_587 rfl ?_
  refine S_iconst (v := 1) C dL_law_588 (by decide) ?_
  refine S_iconst (v := 0) C dL_law_589 (by decide) ?_
  refine S_iast C 0 rfl 1 (by decide) (by decide) rfl (ar' := [(q581, 0, 3, (upd (upd (fun _ => 0) 0 0) 1 0))]) rfl dL_law_590 ?_
  refine S_dup C dL_law_591 rfl ?_
  refine S_iconst (v := 2) C dL_law_592 (by decide) ?_
  refine S_iconst (v := 0) C dL_law_593 (by decide) ?_
  refine S_iast C 0 rfl 2 (by decide) (by decide) rfl (ar' := [(q581, 0, 3, (upd (upd (upd (fun _ => 0) 0 0) 1 0) 2 0))]) rfl dL_law_594 ?_
  refine S_askX C (k_hasSat hfl aL_W (n := 3) (g := (upd (upd (upd (fun _ => 0) 0 0) 1 0) 2 0)) (by decide) (by decide)) hw_L_ask mk_L_153 ⟨by decide, by decide⟩ (Nat.le_of_ble_eq_true rfl) ⟨(by decide), (by decide)⟩ dL_law_595 (v := (-2000000001)) aL_595 (by decide) ?_
  refine S_cs (k := 154) (n := 1850) (by decide) (by decide) ?_
  refine S_ldc (v := (-2000000001)) C kc_L_109 dL_law_598 ?_
  refine S_icmp_ne C 679 dL_law_600 (by decide) (fun h => absurd rfl h) (fun _ => ?_)
  refine S_aload_n C dL_law_603 rfl ?_
  refine S_bipush (v := 110) C dL_law_604 (by decide) ?_
  refine S_iconst (v := 2) C dL_law_606 (by decide) ?_
  refine S_newa C (at0 := .int) (c0 := 0) (ty := .int) (N := 2) rfl rfl (fun h => h) (fun cA => rfl) (by decide) (by decide) (by decide) (by decide) (by decide) dL_law_607 (fun q607 => ?_)
  refine S_dup C dL_law_609 rfl ?_
  refine S_iconst (v := 0) C dL_law_610 (by decide) ?_
  refine S_iconst (v := 0) C dL_law_611 (by decide) ?_
  refine S_iast C 0 rfl 0 (by decide) (by decide) rfl (ar' := [(q607, 0, 2, (upd (fun _ => 0) 0 0))]) rfl dL_law_612 ?_
  refine S_dup C dL_law_613 rfl ?_
  refine S_iconst (v := 1) C dL_law_614 (by decide) ?_
  refine S_bipush (v := 9) C dL_law_615 (by decide) ?_
  refine S_iast C 0 rfl 1 (by decide) (by decide) rfl (ar' := [(q607, 0, 2, (upd (upd (fun _ => 0) 0 0) 1 9))]) rfl dL_law_617 ?_
  refine S_askX C (k_more hfl aL_W (n := 2) (g := (upd (upd (fun _ => 0) 0 0) 1 9)) (by decide) (by decide)) hw_L_ask mk_L_153 ⟨by decide, by decide⟩ (Nat.le_of_ble_eq_true rfl) ⟨(by decide), (by decide)⟩ dL_law_618 (v := (-2000000001)) aL_618 (by decide) ?_
  refine S_cs (k := 158) (n := 1870) (by decide) (by decide) ?_
  refine S_ldc (v := (-2000000001)) C kc_L_109 dL_law_621 ?_
  refine S_icmp_ne C 679 dL_law_623 (by decide) (fun h => absurd rfl h) (fun _ => ?_)
  refine S_aload_n C dL_law_626 rfl ?_
  refine S_bipush (v := 111) C dL_law_627 (by decide) ?_
  refine S_iconst (v := 1) C dL_law_629 (by decide) ?_
  refine S_newa C (at0 := .int) (c0 := 0) (ty := .int) (N := 1) rfl rfl (fun h => h) (fun cA => rfl) (by decide) (by decide) (by decide) (by decide) (by decide) dL_law_630 (fun q630 => ?_)
  refine S_dup C dL_law_632 rfl ?_
  refine S_iconst (v := 0) C dL_law_633 (by decide) ?_
  refine S_bipush (v := 114) C dL_law_634 (by decide) ?_
  refine S_iast C 0 rfl 0 (by decide) (by decide) rfl (ar' := [(q630, 0, 1, (upd (fun _ => 0) 0 114))]) rfl dL_law_636 ?_
  refine S_askN C (k_owner hfl aL_W (n := 1) (g := (upd (fun _ => 0) 0 114)) (by decide) (by decide) (f0 := 114) (by show ((114 : Int32).toUInt32 % 65536).toInt32 = 114; decide)) hw_L_ask mk_L_153 ⟨by decide, by decide⟩ (Nat.le_of_ble_eq_true rfl) ⟨(by decide), (by decide)⟩ dL_law_637 aL_o.1 (v := 0) aL_o.2.1 rfl ?_
  refine S_cs (k := 160) (n := 1877) (by decide) (by decide) ?_
  refine S_if_ne C 679 dL_law_640 (by decide) (fun h => absurd rfl h) (fun _ => ?_)
  refine S_aload_n C dL_law_643 rfl ?_
  refine S_bipush (v := 111) C dL_law_644 (by decide) ?_
  refine S_iconst (v := 1) C dL_law_646 (by decide) ?_
  refine S_newa C (at0 := .int) (c0 := 0) (ty := .int) (N := 1) rfl rfl (fun h => h) (fun cA => rfl) (by decide) (by decide) (by decide) (by decide) (by decide) dL_law_647 (fun q647 => ?_)
  refine S_dup C dL_law_649 rfl ?_
  refine S_iconst (v := 0) C dL_law_650 (by decide) ?_
  refine S_bipush (v := 109) C dL_law_651 (by decide) ?_
  refine S_iast C 0 rfl 0 (by decide) (by decide) rfl (ar' := [(q647, 0, 1, (upd (fun _ => 0) 0 109))]) rfl dL_law_653 ?_
  refine S_askN C (k_owner hfl aL_W (n := 1) (g := (upd (fun _ => 0) 0 109)) (by decide) (by decide) (f0 := 109) (by show ((109 : Int32).toUInt32 % 65536).toInt32 = 109; decide)) hw_L_ask mk_L_153 ⟨by decide, by decide⟩ (Nat.le_of_ble_eq_true rfl) ⟨(by decide), (by decide)⟩ dL_law_654 aL_o.2.2.1 (v := 1) aL_o.2.2.2.1 rfl ?_
  refine S_cs (k := 162) (n := 1884) (by decide) (by decide) ?_
  refine S_iconst (v := 1) C dL_law_657 (by decide) ?_
  refine S_icmp_ne C 679 dL_law_658 (by decide) (fun h => absurd rfl h) (fun _ => ?_)
  refine S_aload_n C dL_law_661 rfl ?_
  refine S_bipush (v := 111) C dL_law_662 (by decide) ?_
  refine S_iconst (v := 1) C dL_law_664 (by decide) ?_
  refine S_newa C (at0 := .int) (c0 := 0) (ty := .int) (N := 1) rfl rfl (fun h => h) (fun cA => rfl) (by decide) (by decide) (by decide) (by decide) (by decide) dL_law_665 (fun q665 => ?_)
  refine S_dup C dL_law_667 rfl ?_
  refine S_iconst (v := 0) C dL_law_668 (by decide) ?_
  refine S_bipush (v := 120) C dL_law_669 (by decide) ?_
  refine S_iast C 0 rfl 0 (by decide) (by decide) rfl (ar' := [(q665, 0, 1, (upd (fun _ => 0) 0 120))]) rfl dL_law_671 ?_
  refine S_askN C (k_owner hfl aL_W (n := 1) (g := (upd (fun _ => 0) 0 120)) (by decide) (by decide) (f0 := 120) (by show ((120 : Int32).toUInt32 % 65536).toInt32 = 120; decide)) hw_L_ask mk_L_153 ⟨by decide, by decide⟩ (Nat.le_of_ble_eq_true rfl) ⟨(by decide), (by decide)⟩ dL_law_672 aL_o.2.2.2.2.1 (v := 2) aL_o.2.2.2.2.2 rfl ?_
  refine S_cs (k := 164) (n := 1891) (by decide) (by decide) ?_
  refine S_iconst (v := 2) C dL_law_675 (by decide) ?_
  refine S_icmp_eq C 681 dL_law_676 (by decide) (fun _ => ?_) (fun h => absurd rfl h)
  refine S_callL C hAO (m_full hfl) (fun _ _ _ _ _ => trivial) (fun _ _ _ _ _ _ => trivial) mi_L_full mk_L_157 rfl ⟨by decide, by decide⟩ rfl (Nat.le_of_ble_eq_true rfl) ⟨(by decide), (by decide)⟩ dL_law_681 ?_
  refine S_cs (k := 1164) (n := 7891) (by decide) (by decide) ?_
  refine S_if_eq C 705 dL_law_684 (by decide) (fun h => absurd h (by decide)) (fun _ => ?_)
  refine S_aload_n C dL_law_687 rfl ?_
  refine S_callL C hAO (m_rights hfl) ZS.blind (ZS_of C hX hbl hbA hL2) mi_L_rights mk_L_160 rfl ⟨by decide, by decide⟩ rfl (Nat.le_of_ble_eq_true rfl) ⟨(by decide), (by decide)⟩ dL_law_688 ?_
  refine S_cs (k := 4164) (n := 37891) (by decide) (by decide) ?_
  refine S_if_eq C 705 dL_law_691 (by decide) (fun h => absurd h (by decide)) (fun _ => ?_)
  refine S_aload_n C dL_law_694 rfl ?_
  refine S_callL C hAO (m_closed hfl) ZS.blind (ZS_of C hX hbl hbA hL2) mi_L_closed mk_L_164 rfl ⟨by decide, by decide⟩ rfl (Nat.le_of_ble_eq_true rfl) ⟨(by decide), (by decide)⟩ dL_law_695 ?_
  refine S_cs (k := 5164) (n := 43891) (by decide) (by decide) ?_
  refine S_if_eq C 705 dL_law_698 (by decide) (fun h => absurd h (by decide)) (fun _ => ?_)
  refine S_iconst (v := 1) C dL_law_701 (by decide) ?_
  refine S_goto C 706 dL_law_702 (by decide) ?_
  exact kk _ _ (by decide) (by decide)
