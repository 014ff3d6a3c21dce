/-! what holds at the entry -/
set_option maxRecDepth 100000 in
theorem la_int : Cond.arrayClass .int ∈ lw_tbl := List.mem_of_getElem? (i := 112) rfl
set_option maxRecDepth 100000 in
theorem la_boolean : Cond.arrayClass .boolean ∈ lw_tbl := List.mem_of_getElem? (i := 220) rfl
set_option maxRecDepth 100000 in
theorem la_long : Cond.arrayClass .long ∈ lw_tbl := List.mem_of_getElem? (i := 1185) rfl
set_option maxRecDepth 100000 in
theorem la_double : Cond.arrayClass .double ∈ lw_tbl := List.mem_of_getElem? (i := 1186) rfl
set_option maxRecDepth 100000 in
theorem lo_O : Cond.arrayOver (.object "Classfederation$Offer") ∈ lw_tbl := List.mem_of_getElem? (i := 137) rfl
set_option maxRecDepth 100000 in
theorem lo_A : Cond.arrayOver (.array .int) ∈ lw_tbl := List.mem_of_getElem? (i := 100) rfl
set_option maxRecDepth 100000 in
theorem ln_J0 : Cond.instantiable RJ0 4 ∈ lw_tbl := List.mem_of_getElem? (i := 473) rfl
set_option maxRecDepth 100000 in
theorem ln_J1 : Cond.instantiable RJx00060 6 ∈ lw_tbl := List.mem_of_getElem? (i := 455) rfl
set_option maxRecDepth 100000 in
theorem ls_U : Cond.laysStatic Bundle.tN "UNASSIGNED_STACK" Bundle.steD ∈ lw_tbl := List.mem_of_getElem? (i := 374) rfl
set_option maxRecDepth 100000 in
theorem ls_S : Cond.laysStatic Bundle.tN "SUPPRESSED_SENTINEL" Bundle.listD ∈ lw_tbl := List.mem_of_getElem? (i := 376) rfl
set_option maxRecDepth 100000 in
theorem li_T : Cond.initialized Bundle.tN ∈ lw_tbl := List.mem_of_getElem? (i := 74) rfl
theorem iw_J0 : ∀ w ∈ u_ws RJ0 TJ0 2, w ∈ lw_tbl := by decide +kernel
theorem iw_J1 : ∀ w ∈ u_ws RJx00060 TJx00060 6, w ∈ lw_tbl := by decide +kernel
abbrev gvC : Cond := Jvm.Cond.and given_1 narrow_1
theorem st_str : ∀ q ∈ strL, Cond.stringRef q.1 q.2.1 q.2.2 ∈ lw_tbl ∧ Cond.exactly (.string q.1 q.2.1) "java/lang/String" ∈ flatC gvC := by decide +kernel
theorem st_pairs : ∀ E ∈ exL, ∀ N ∈ exL, E ≠ N → Cond.not (.castable E N) ∈ flatC gvC := by decide +kernel
theorem st_sU : Cond.isRef (.static Bundle.tN "UNASSIGNED_STACK" Bundle.steD) ∈ flatC gvC := by decide +kernel
theorem st_sS : Cond.isRef (.static Bundle.tN "SUPPRESSED_SENTINEL" Bundle.listD) ∈ flatC gvC := by decide +kernel
section STT
variable {s : State} {A : Array Value}
theorem st_NW (hts : ∀ w ∈ lw_tbl, w.before A s = true) : NW s := fun w hw => by
  have h1 := List.mem_filter.mp hw
  have hg := h1.2
  simp only [wb_g, Bool.and_eq_true] at hg
  exact va_tabs hg.1 rfl (hts w h1.1)
theorem nw_tbl {ws : List Cond} (h : ∀ w ∈ ws, w ∈ nwL) : ∀ w ∈ ws, w ∈ lw_tbl := fun w hw => (List.mem_filter.mp (h w hw)).1
theorem st_D (hts : ∀ w ∈ lw_tbl, w.before A s = true) : ∃ D : va_G, ∀ (k : Nat) (q : vw_C), vwCl[k]? = some q → u_Kn s q.1 q.2.1 q.2.2 (D.1 k) (D.2 k) := by
  obtain ⟨c0, i0, h0⟩ := u_known (C := RJ0) (T := TJ0) (N := 2) (n := 4) hts iw_J0 (hts _ ln_J0)
  obtain ⟨c1, i1, h1⟩ := u_known (C := RJx00060) (T := TJx00060) (N := 6) (n := 6) hts iw_J1 (hts _ ln_J1)
  obtain ⟨c2, i2, h2⟩ := u_known (C := RX0) (T := TX0) (N := 9) (n := 9) hts (nw_tbl iw_X0) (hts _ (List.mem_filter.mp wn_X0).1)
  obtain ⟨c3, i3, h3⟩ := u_known (C := RX1) (T := TX1) (N := 2) (n := 2) hts (nw_tbl iw_X1) (hts _ (List.mem_filter.mp wn_X1).1)
  obtain ⟨c4, i4, h4⟩ := u_known (C := RX2) (T := TX2) (N := 4) (n := 4) hts (nw_tbl iw_X2) (hts _ (List.mem_filter.mp wn_X2).1)
  obtain ⟨c5, i5, h5⟩ := u_known (C := RX3) (T := TX3) (N := 13) (n := 13) hts (nw_tbl iw_X3) (hts _ (List.mem_filter.mp wn_X3).1)
  obtain ⟨c6, i6, h6⟩ := u_known (C := RX4) (T := TX4) (N := 24) (n := 24) hts (nw_tbl iw_X4) (hts _ (List.mem_filter.mp wn_X4).1)
  refine ⟨(fun k => match k with | 0 => c0 | 1 => c1 | 2 => c2 | 3 => c3 | 4 => c4 | 5 => c5 | _ => c6, fun k => match k with | 0 => i0 | 1 => i1 | 2 => i2 | 3 => i3 | 4 => i4 | 5 => i5 | _ => i6), fun k q hq => ?_⟩
  match k, hq with
  | 0, hq => cases hq; exact h0
  | 1, hq => cases hq; exact h1
  | 2, hq => cases hq; exact h2
  | 3, hq => cases hq; exact h3
  | 4, hq => cases hq; exact h4
  | 5, hq => cases hq; exact h5
  | 6, hq => cases hq; exact h6
  | n + 7, hq => simp [vwCl] at hq
theorem st_arr {ty : FieldType} (h : (Cond.arrayClass ty).before A s = true) : ∃ cA : ClassId, ArrOfT s cA ty ∧ s.vm.findClass ("[" ++ ty.toString) = some cA := by
  obtain ⟨cA, k, comp, h1, h2, h3⟩ := Cond.arrayClass_spec h
  exact ⟨cA, fun n z => ⟨fun q e => (by cases e), k, h2, comp, h3⟩, h1⟩
theorem st_T (hts : ∀ w ∈ lw_tbl, w.before A s = true) : ∃ T : Nat → ClassId, ∀ (k : Nat) (q : ClassId × FieldType), (tyT T)[k]? = some q → ArrOfT s q.1 q.2 ∧ va_RA s q.1 q.2 := by
  obtain ⟨c0, a0, b0⟩ := st_arr (hts _ la_int)
  obtain ⟨c1, a1, b1⟩ := st_arr (hts _ la_boolean)
  obtain ⟨c4, a4, b4⟩ := st_arr (hts _ la_long)
  obtain ⟨c5, a5, b5⟩ := st_arr (hts _ la_double)
  obtain ⟨p2, c2, k2, e1, e2, e3, e4, e5⟩ := Cond.arrayOver_spec (hts _ lo_O)
  obtain ⟨p3, c3, k3, g1, g2, g3, g4, g5⟩ := arrayOverA_spec (hts _ lo_A)
  refine ⟨fun k => match k with | 0 => c0 | 1 => c1 | 2 => c2 | 3 => c3 | 4 => c4 | _ => c5, fun k q hq => ?_⟩
  match k, hq with
  | 0, hq => cases hq; exact ⟨a0, b0⟩
  | 1, hq => cases hq; exact ⟨a1, b1⟩
  | 2, hq => cases hq; exact ⟨fun n z => ⟨fun q e => (by cases e), k2, e3, p2, e4⟩, k2, p2, e3, e4, e1, e5⟩
  | 3, hq => cases hq; exact ⟨fun n z => ⟨fun q e => (by cases e), k3, g3, p3, g4⟩, g5⟩
  | 4, hq => cases hq; exact ⟨a4, b4⟩
  | 5, hq => cases hq; exact ⟨a5, b5⟩
  | n + 6, hq => simp [tyT] at hq
theorem st_AO (hts : ∀ w ∈ lw_tbl, w.before A s = true) : AO s := ⟨va_AO.of (hts _ lo_O), hts _ lo_A⟩
theorem st_TH {D : va_G} {T : Nat → ClassId} (hts : ∀ w ∈ lw_tbl, w.before A s = true) (hgv : gvC.before A s = true) : TH (sh D s.heap.size T) s.heap.size s s.heap := by
  have hA : ∀ a : Nat, a < s.heap.size → ¬ AW (sh D s.heap.size T) s.heap.size a := fun a ha h => by
    rcases h with ⟨k, hk, e⟩ | h
    · have e' : a = s.heap.size + k := e
      omega
    · omega
  refine ⟨vx_Zqof (hts _ ls_U) (hts _ li_T) (flat_of_before _ hgv _ st_sU) hA, vx_Zqof (hts _ ls_S) (hts _ li_T) (flat_of_before _ hgv _ st_sS) hA, fun q hq => ?_⟩
  obtain ⟨h1, h2⟩ := st_str q hq
  obtain ⟨a, c, cell, k, e1, -⟩ := Cond.exactly_spec (flat_of_before _ hgv _ h2)
  exact ⟨a, vk_R.of (hts _ h1) e1⟩
theorem st_NC (hgv : gvC.before A s = true) : NC s := fun E hE N hN hne => va_Nc.of (flat_of_before _ hgv _ (st_pairs E hE N hN hne))
theorem st_IN {D : va_G} {T : Nat → ClassId} {B : Nat} : IN (sh D B T) := fun i j hi hj h => by
  have h' : B + i = B + j := h
  omega
end STT
theorem U_toV {p : Program} {l : Launch} {e : Env} {R : Room} {s : State} {m : MethodId} {args : Array Value} {below : List Frame} {meth : Method} {c : Code} {Q : State → Prop} {D : va_G} {T : Nat → ClassId} {a b : Mem} {o : Out} {nL cells slots pc : Nat} {lv : List (Option Value)} {st : List Value} (kk : VV p l e R s m args below meth c Q (sh D s.heap.size T) nL a b o cells slots pc lv st) : UU p l e R s m args below meth c Q D s.heap.size 0 89 (GE (sh D s.heap.size T) a b o) nL cells slots pc lv st :=
  fun H locs ls hz hP hS hL => kk H locs ls (fun k q hq => by
    obtain ⟨hk, rfl⟩ := wd_get hq
    exact hP k (Nat.zero_le k) hk) ⟨hS.1, fun q h1 h2 => hS.2.1 q h1 (fun z => h2 (Or.inr z)), fun z hz => Or.inr (hS.2.2 z hz)⟩ hL
theorem eLong {cA : ClassId} : vp_cell cA (1, .inr (.inl (fun j => if j = 0 then ((0, 0) : Out).1 else 0))) = arrV cA 1 (fun _ => defaultValue .long) := by
  rw [vp_cell_l]
  refine congrArg (arrV cA 1) (funext fun j => ?_)
  by_cases h : j = 0
  · rw [if_pos h]; rfl
  · rw [if_neg h]; rfl
theorem eDbl {cA : ClassId} : vp_cell cA (1, .inr (.inr (.inr (.inl (fun j => if j = 0 then ((0, 0) : Out).2 else 0))))) = arrV cA 1 (fun _ => defaultValue .double) := by
  rw [vp_cell_d]
  refine congrArg (arrV cA 1) (funext fun j => ?_)
  by_cases h : j = 0
  · rw [if_pos h]; rfl
  · rw [if_neg h]; rfl
set_option maxHeartbeats 4000000 in
set_option maxRecDepth 100000 in
/-- from the entry to the loop -/
theorem law_begin {p : Program} {l : Launch} {e : Env} {s : State} {m : MethodId} {args : Array Value} {below : List Frame} {meth : Method} {c : Code} {Q : State → Prop} {D : va_G} {T : Nat → ClassId} {bA : Nat} {f : Nat → va_E} (C : CI p s m meth c D T cL_law RL 9) (kk : VV p l e room_1 s m args below meth c Q (sh D s.heap.size T) 9 a00 b00 (0, 0) 89 2808 28 [some (.ref bA), some (.ref (s.heap.size + 0)), some (.ref (s.heap.size + 70)), some (.ref (s.heap.size + 87)), some (.ref (s.heap.size + 88)), some (.int (nI 0)), none, none, none] []) : UU p l e room_1 s m args below meth c Q D s.heap.size 0 0 f 9 0 0 0 [some (.ref bA), none, none, none, none, none, none, none, none] [] := by
  refine U_like (fun k => GC (sh D s.heap.size T) k (a00 k)) (fun k h1 h2 => absurd h2 (Nat.not_lt_zero k)) ?_
  refine U_new C (ci := 5) (N := 13) (Rn := RX3) (TT := TX3) (fs := vX0) iw_X3 tyX3 tyX3_ok wk_L_8 wn_X3 wi_X3 rfl (fun j hj => by rcases (show j = 0 ∨ j = 1 ∨ j = 2 ∨ j = 3 ∨ j = 4 ∨ j = 5 ∨ j = 6 ∨ j = 7 ∨ j = 8 ∨ j = 9 ∨ j = 10 ∨ j = 11 ∨ j = 12 by omega) with rfl | rfl | rfl | rfl | rfl | rfl | rfl | rfl | rfl | rfl | rfl | rfl | rfl <;> rfl) (by decide) (by decide) (fup (fun k => GC (sh D s.heap.size T) k (a00 k)) (0) (.inr (5, vX0))) (if_pos rfl) (fun i h1 h2 => if_neg (by omega)) dL_law_0 ?_
  refine U_dup C dL_law_3 rfl ?_
  refine U_callI C (k := 0) (hi := 70) (by omega) (by omega) (u_X3_init (B := s.heap.size) (if_pos rfl)) wl_L_125 wi_X3 wm_X3 wc_X3 rfl wy_X3 ⟨(by decide), (by decide)⟩ (Nat.le_of_ble_eq_true rfl) ⟨(by decide), (by decide)⟩ dL_law_4 (fun k => GC (sh D s.heap.size T) k (a00 k)) (fun i h1 h2 => absurd h2 (Nat.not_lt_zero i)) (fun i h1 h2 => rfl) ?_
  refine U_astore_n C dL_law_7 (by decide) rfl ?_
  refine U_new C (ci := 6) (N := 24) (Rn := RX4) (TT := TX4) (fs := vM0) iw_X4 tyX4 tyX4_ok wk_L_126 wn_X4 wi_X4 rfl (fun j hj => by rcases (show j = 0 ∨ j = 1 ∨ j = 2 ∨ j = 3 ∨ j = 4 ∨ j = 5 ∨ j = 6 ∨ j = 7 ∨ j = 8 ∨ j = 9 ∨ j = 10 ∨ j = 11 ∨ j = 12 ∨ j = 13 ∨ j = 14 ∨ j = 15 ∨ j = 16 ∨ j = 17 ∨ j = 18 ∨ j = 19 ∨ j = 20 ∨ j = 21 ∨ j = 22 ∨ j = 23 by omega) with rfl | rfl | rfl | rfl | rfl | rfl | rfl | rfl | rfl | rfl | rfl | rfl | rfl | rfl | rfl | rfl | rfl | rfl | rfl | rfl | rfl | rfl | rfl | rfl <;> rfl) (by decide) (by decide) (fup (fun k => GC (sh D s.heap.size T) k (a00 k)) (70) (.inr (6, vM0))) (if_pos rfl) (fun i h1 h2 => if_neg (by omega)) dL_law_8 ?_
  refine U_dup C dL_law_11 rfl ?_
  refine U_callI C (k := 70) (hi := 87) (by omega) (by omega) (u_X4_init (B := s.heap.size) (if_pos rfl)) wl_L_128 wi_X4 wm_X4 wc_X4 rfl wy_X4 ⟨(by decide), (by decide)⟩ (Nat.le_of_ble_eq_true rfl) ⟨(by decide), (by decide)⟩ dL_law_12 (GE (sh D s.heap.size T) a00 b00 (0, 0)) (fun i h1 h2 => (GE_C h2).trans (if_neg (Nat.ne_of_lt h2)).symm) (fun i h1 h2 => GE_M h1 h2) ?_
  refine U_astore_n C dL_law_15 (by decide) rfl ?_
  refine U_iconst (v := 1) C dL_law_16 (by decide) ?_
  refine U_newa C (at0 := .long) (c0 := 4) (ty := .long) (N := 1) rfl rfl (fun h => h) (fun cA => eLong) (by decide) (by decide) (by decide) (by decide) (by decide) (GE (sh D s.heap.size T) a00 b00 (0, 0)) rfl (fun i h1 h2 => rfl) dL_law_17 ?_
  refine U_astore_n C dL_law_19 (by decide) rfl ?_
  refine U_iconst (v := 1) C dL_law_20 (by decide) ?_
  refine U_newa C (at0 := .double) (c0 := 5) (ty := .double) (N := 1) rfl rfl (fun h => h) (fun cA => eDbl) (by decide) (by decide) (by decide) (by decide) (by decide) (GE (sh D s.heap.size T) a00 b00 (0, 0)) rfl (fun i h1 h2 => rfl) dL_law_21 ?_
  refine U_astore C dL_law_23 (by decide) rfl ?_
  refine U_iconst (v := nI 0) C dL_law_25 (by decide) ?_
  refine U_istore C dL_law_26 (by decide) rfl ?_
  exact U_toV kk
