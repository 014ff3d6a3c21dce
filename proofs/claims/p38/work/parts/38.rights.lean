/-! rights that change behind a seat: the walk -/
def brF (xs : Nat → Int32) (L : Nat) : Nat → Bool := fun q => decide (soF (atF xs L (20 + q)) (nI 3) = 0)
theorem min_nI {N S : Nat} (h1 : N < 2 ^ 31) (h2 : S < 2 ^ 31) : (if nI N < nI S then nI N else nI S) = nI (min N S) := by
  by_cases g : N < S
  · rw [if_pos (nI_lt g h2), show min N S = N by omega]
  · rw [if_neg (nI_nlt (by omega) h1), show min N S = S by omega]
theorem BST.nn {rk bd : Nat → Nat} {k j : Nat} {v : Int32} (h : BST rk bd k j v) (hv : ¬ v < 0) : ∃ b, v = nI b ∧ b < j := by
  rcases h with ⟨h1, -⟩ | ⟨b, h1, h2, -⟩
  · rw [h1] at hv
    exact absurd (by decide) hv
  · exact ⟨b, h1, h2⟩
theorem PT1_t {N p : Nat} {bd : Nat → Nat} {hh : Nat → Bool} (hp : p < N) (h : hh p = true) : PT1 N bd hh p = 100 - nI (bd p) := by
  unfold PT1
  rw [if_pos hp, if_pos h]
theorem PT1_f {N p : Nat} {bd : Nat → Nat} {hh : Nat → Bool} (hp : p < N) (h : hh p = false) : PT1 N bd hh p = 100 - 0 := by
  unfold PT1
  rw [if_pos hp, if_neg (by rw [h]; decide)]
  decide
section OCS
variable {rk bd : Nat → Nat} {G p : Nat} {br : Nat → Bool}
theorem oc_1 (h1 : hG rk G p = true) (h2 : br p = true) : nI (ocF rk G br p) + 1 = nI (ocF rk G br (p + 1)) := by
  rw [ocF_s, h1, h2]
  exact nI_1 _
theorem oc_0 (h : (hG rk G p && br p) = false) : nI (ocF rk G br p) + 0 = nI (ocF rk G br (p + 1)) := by
  rw [ocF_s, h]
  simp
theorem rc_1 (h1 : hG rk G p = true) (h2 : br p = true) : nI (rcF bd rk G br p) + nI (bd p) = nI (rcF bd rk G br (p + 1)) := by
  rw [rcF_s, h1, h2]
  exact nI_add _ _
theorem rc_0 (h : (hG rk G p && br p) = false) : nI (rcF bd rk G br p) + 0 = nI (rcF bd rk G br (p + 1)) := by
  rw [rcF_s, h]
  simp
end OCS
set_option maxHeartbeats 8000000 in
set_option maxRecDepth 100000 in
theorem m_rights {l : Launch} {D : va_G} {T : Nat → ClassId} {bA LL : Nat} {xs : Nat → Int32} (hfl : l.stackTraces = false) : LM l yL_rights cL_rights 11 13 700 3000 30000 [.ref bA] D T (ZS bA LL xs) := by
  refine LM.of hfl rfl (by decide) [some (.ref bA), none, none, none, none, none, none, none, none, none, none] rfl rfl (Nat.le_of_ble_eq_true rfl) (k := 1) dL_rights_0 dL_rights_3 dL_rights_4 dL_rights_7 (by decide) (by decide) (by decide) (by decide) (fun q => [some (.ref bA), some (.ref q), none, none, none, none, none, none, none, none, none]) (fun q => rfl) ?_
  intro pP eE sS mM argsA belowB methM cC x C hAW hxB hr hZ
  obtain ⟨hX, hbl, hL2⟩ := hZ
  have hbA : ∀ k, k < 70 → bA ≠ x.2.1 k := fun k hk => by have := hxB k hk; omega
  refine S_iconst (v := 1) C dL_rights_8 (by decide) ?_
  refine S_aload_n C dL_rights_9 rfl ?_
  refine S_iconst (v := (nI 0)) C dL_rights_10 (by decide) ?_
  refine S_at C hX hbl hbA hL2 (by omega) mi_L_at mk_L_169 ⟨by decide, by decide⟩ (Nat.le_of_ble_eq_true rfl) ⟨(by decide), (by decide)⟩ dL_rights_11 ?_
  refine S_iconst (v := (nI 4)) C dL_rights_14 (by decide) ?_
  obtain ⟨S1, hS1, eS1⟩ := soF_lt (v := atF xs LL 0) (m := 4) (by decide) (by decide)
  refine S_some C (by decide) mi_L_some mk_L_172 ⟨by decide, by decide⟩ (Nat.le_of_ble_eq_true rfl) ⟨(by decide), (by decide)⟩ dL_rights_15 ?_
  refine S_topi (w := (nI S1)) eS1 ?_
  obtain ⟨S, hS, hS0, hS5⟩ : ∃ S, 1 + S1 = S ∧ 0 < S ∧ S < 5 := ⟨_, rfl, by omega, by omega⟩
  refine S_iadd C dL_rights_18 ?_
  refine S_topi (w := (nI (1 + S1))) (show (1 : Int32) + nI S1 = nI (1 + S1) from nI_add 1 S1) ?_
  refine S_topi (w := (nI S)) (congrArg nI hS) ?_
  refine S_istore_n C dL_rights_19 (by decide) (lv' := [some (.ref bA), some (.ref (x.2.1 0)), some (.int (nI S)), none, none, none, none, none, none, none, none]) rfl ?_
  refine S_iconst (v := 2) C dL_rights_20 (by decide) ?_
  refine S_aload_n C dL_rights_21 rfl ?_
  refine S_iconst (v := (nI 1)) C dL_rights_22 (by decide) ?_
  refine S_at C hX hbl hbA hL2 (by omega) mi_L_at mk_L_169 ⟨by decide, by decide⟩ (Nat.le_of_ble_eq_true rfl) ⟨(by decide), (by decide)⟩ dL_rights_23 ?_
  refine S_bipush (v := (nI 6)) C dL_rights_26 (by decide) ?_
  obtain ⟨N1, hN1, eN1⟩ := soF_lt (v := atF xs LL 1) (m := 6) (by decide) (by decide)
  refine S_some C (by decide) mi_L_some mk_L_172 ⟨by decide, by decide⟩ (Nat.le_of_ble_eq_true rfl) ⟨(by decide), (by decide)⟩ dL_rights_28 ?_
  refine S_topi (w := (nI N1)) eN1 ?_
  obtain ⟨N, hN, hN0, hN8⟩ : ∃ N, 2 + N1 = N ∧ 0 < N ∧ N < 8 := ⟨_, rfl, by omega, by omega⟩
  refine S_iadd C dL_rights_31 ?_
  refine S_topi (w := (nI (2 + N1))) (show (2 : Int32) + nI N1 = nI (2 + N1) from nI_add 2 N1) ?_
  refine S_topi (w := (nI N)) (congrArg nI hN) ?_
  refine S_istore_n C dL_rights_32 (by decide) (lv' := [some (.ref bA), some (.ref (x.2.1 0)), some (.int (nI S)), some (.int (nI N)), none, none, none, none, none, none, none]) rfl ?_
  refine S_aload_n C dL_rights_33 rfl ?_
  refine S_bipush (v := 82) C dL_rights_34 (by decide) ?_
  refine S_iconst (v := 1) C dL_rights_36 (by decide) ?_
  refine S_newa C (at0 := .int) (c0 := 0) (ty := .int) (N := 1) rfl rfl (fun h => h) (fun cA => rfl) (by decide) (by decide) (by decide) (by decide) (by decide) dL_rights_37 (fun q37 => ?_)
  refine S_dup C dL_rights_39 rfl ?_
  refine S_iconst (v := 0) C dL_rights_40 (by decide) ?_
  refine S_iload_n C dL_rights_41 rfl ?_
  refine S_iast C 0 rfl 0 (by decide) (by decide) rfl (ar' := [(q37, 0, 1, (upd (fun _ => 0) 0 (nI S)))]) rfl dL_rights_42 ?_
  refine S_askN C (k_room hfl WC_00 (n := 1) (g := (upd (fun _ => 0) 0 (nI S))) (by decide) (by decide)) hw_L_ask mk_L_153 ⟨by decide, by decide⟩ (Nat.le_of_ble_eq_true rfl) ⟨(by decide), (by decide)⟩ dL_rights_43 (z_0 S hS5 hS0).1 (v := 0) (z_0 S hS5 hS0).2.1 (a2 := (z1 S)) rfl ?_
  refine S_cs (k := 72) (n := 1447) (by decide) (by decide) ?_
  refine S_if_ne C 89 dL_rights_46 (by decide) (fun h => absurd rfl h) (fun _ => ?_)
  refine S_aload_n C dL_rights_49 rfl ?_
  refine S_bipush (v := 69) C dL_rights_50 (by decide) ?_
  refine S_iconst (v := 0) C dL_rights_52 (by decide) ?_
  refine S_newa C (at0 := .int) (c0 := 0) (ty := .int) (N := 0) rfl rfl (fun h => h) (fun cA => rfl) (by decide) (by decide) (by decide) (by decide) (by decide) dL_rights_53 (fun q53 => ?_)
  refine S_askN C (k_exam hfl (z1_W hS5 hS0) (n := 0) (g := (fun _ => 0)) (by decide)) hw_L_ask mk_L_153 ⟨by decide, by decide⟩ (Nat.le_of_ble_eq_true rfl) ⟨(by decide), (by decide)⟩ dL_rights_55 (z_0 S hS5 hS0).2.2.2.1 (v := 0) (z_0 S hS5 hS0).2.2.2.2.1 (a2 := (z2 S)) rfl ?_
  refine S_cs (k := 74) (n := 1453) (by decide) (by decide) ?_
  refine S_if_ne C 89 dL_rights_58 (by decide) (fun h => absurd rfl h) (fun _ => ?_)
  refine S_aload_n C dL_rights_61 rfl ?_
  refine S_bipush (v := 79) C dL_rights_62 (by decide) ?_
  refine S_iconst (v := 4) C dL_rights_64 (by decide) ?_
  refine S_newa C (at0 := .int) (c0 := 0) (ty := .int) (N := 4) rfl rfl (fun h => h) (fun cA => rfl) (by decide) (by decide) (by decide) (by decide) (by decide) dL_rights_65 (fun q65 => ?_)
  refine S_dup C dL_rights_67 rfl ?_
  refine S_iconst (v := 0) C dL_rights_68 (by decide) ?_
  refine S_iconst (v := 0) C dL_rights_69 (by decide) ?_
  refine S_iast C 0 rfl 0 (by decide) (by decide) rfl (ar' := [(q65, 0, 4, (upd (fun _ => 0) 0 0))]) rfl dL_rights_70 ?_
  refine S_dup C dL_rights_71 rfl ?_
  refine S_iconst (v := 1) C dL_rights_72 (by decide) ?_
  refine S_iconst (v := 2) C dL_rights_73 (by decide) ?_
  refine S_iast C 0 rfl 1 (by decide) (by decide) rfl (ar' := [(q65, 0, 4, (upd (upd (fun _ => 0) 0 0) 1 2))]) rfl dL_rights_74 ?_
  refine S_dup C dL_rights_75 rfl ?_
  refine S_iconst (v := 2) C dL_rights_76 (by decide) ?_
  refine S_iconst (v := 0) C dL_rights_77 (by decide) ?_
  refine S_iast C 0 rfl 2 (by decide) (by decide) rfl (ar' := [(q65, 0, 4, (upd (upd (upd (fun _ => 0) 0 0) 1 2) 2 0))]) rfl dL_rights_78 ?_
  refine S_dup C dL_rights_79 rfl ?_
  refine S_iconst (v := 3) C dL_rights_80 (by decide) ?_
  refine S_iconst (v := 0) C dL_rights_81 (by decide) ?_
  refine S_iast C 0 rfl 3 (by decide) (by decide) rfl (ar' := [(q65, 0, 4, (upd (upd (upd (upd (fun _ => 0) 0 0) 1 2) 2 0) 3 0))]) rfl dL_rights_82 ?_
  refine S_askN C (k_offer hfl (z2_W hS5 hS0) (n := 4) (g := (upd (upd (upd (upd (fun _ => 0) 0 0) 1 2) 2 0) 3 0)) (by decide) (by decide)) hw_L_ask mk_L_153 ⟨by decide, by decide⟩ (Nat.le_of_ble_eq_true rfl) ⟨(by decide), (by decide)⟩ dL_rights_83 (z_0 S hS5 hS0).2.2.2.2.2.2.1 (v := 0) (z_0 S hS5 hS0).2.2.2.2.2.2.2.1 (a2 := (z3 S)) rfl ?_
  refine S_cs (k := 80) (n := 1487) (by decide) (by decide) ?_
  refine S_if_eq C 91 dL_rights_86 (by decide) (fun _ => ?_) (fun h => absurd rfl h)
  refine S_iload_n C dL_rights_91 rfl ?_
  refine S_newa C (at0 := .int) (c0 := 0) (ty := .int) (N := N) rfl rfl (fun h => h) (fun cA => rfl) (nI_pos (by omega)) (nI_clamp (by omega)) (by show N * 4 ≤ 536870912; omega) (by decide) (by show _ ≤ 30000; omega) dL_rights_92 (fun q92 => ?_)
  refine S_astore C dL_rights_94 (by decide) (lv' := [some (.ref bA), some (.ref (x.2.1 0)), some (.int (nI S)), some (.int (nI N)), some (.ref q92), none, none, none, none, none, none]) rfl ?_
  refine S_iconst (v := 0) C dL_rights_96 (by decide) ?_
  refine S_istore C dL_rights_97 (by decide) (lv' := [some (.ref bA), some (.ref (x.2.1 0)), some (.int (nI S)), some (.int (nI N)), some (.ref q92), some (.int 0), none, none, none, none, none]) rfl ?_
  have L99 : ∀ (fuel : Nat) (p : Nat) (b : Mem), p ≤ N → PB S p 0 p (bdn xs LL) b → N - p < fuel → SS pP l eE ({ frames := 13, cells := 3000, slots := 30000, locals := 700 } : Room) sS mM argsA belowB methM cC (MQ belowB (Q1 sS.heap.size) argsA sS 3000 30000 (fun q => sS.heap.size ≤ q)) x 11 b [(q92, 0, N, (bdA xs LL p))] (81 + 34 * p) (1487 + N + 188 * p) 99 [some (.ref bA), some (.ref (x.2.1 0)), some (.int (nI S)), some (.int (nI N)), some (.ref q92), some (.int (nI p)), none, none, none, none, none] [] := by
    intro fuel
    induction fuel with
    | zero => intro p b hp hb hm; exact absurd hm (Nat.not_lt_zero _)
    | succ fuel ih99 =>
      intro p b hp hb hm
      refine S_iload C dL_rights_99 rfl ?_
      refine S_iload_n C dL_rights_101 rfl ?_
      refine S_lt C 298 dL_rights_102 (by decide) (by omega) (by omega) (fun h102 => ?_) (fun h102 => ?_)
      · have ep : p = N := by omega
        rw [ep] at hb ⊢
        refine S_iload_n C dL_rights_298 rfl ?_
        refine S_iload_n C dL_rights_299 rfl ?_
        refine S_min C wx_mlk wx_mst wx_min wx_mco ⟨by decide, Nat.le_of_ble_eq_true rfl⟩ ⟨(by show _ ≤ 3000; omega), (by show _ ≤ 30000; omega)⟩ dL_rights_300 ?_
        refine S_topi (w := (nI (min N S))) (min_nI (by omega) (by omega)) ?_
        refine S_istore C dL_rights_303 (by decide) (lv' := [some (.ref bA), some (.ref (x.2.1 0)), some (.int (nI S)), some (.int (nI N)), some (.ref q92), some (.int (nI (min N S))), none, none, none, none, none]) rfl ?_
        obtain ⟨ord, rk, R⟩ := id hb.2.2
        have hbd : ∀ q, bdn xs LL q ≤ 100 := fun q => by have := bd_all xs LL q; omega
        obtain ⟨E0, T0, K0, C0⟩ := PE_0 (br := (brF xs LL)) (by omega) (by omega) hb R hbd
        have hO : ∀ k, k < N → rk (ord k) = k ∧ ord k < N := fun k hk => ⟨(R.2.1 k hk).2.2.2.2, (R.2.1 k hk).2.2.2.1⟩
        refine S_aload_n C dL_rights_305 rfl ?_
        refine S_callf (R_V C (c_X3_settle hfl hb.1) mi_X3_settle mk_L_140 rfl (by decide) rfl (rfl : vwCl[5]? = some (RX3, TX3, 13)) (by decide) rfl (Nat.le_of_ble_eq_true rfl) ⟨(by show _ ≤ 3000; omega), (by show _ ≤ 30000; omega)⟩ dL_rights_306) ?_
        refine S_topi (w := (nI (min N S))) (congrArg nI K0) ?_
        generalize a3_settle b = c at E0 T0 ⊢
        refine S_iload C dL_rights_309 rfl ?_
        refine S_icmp_ne C 352 dL_rights_311 (by decide) (fun h => absurd rfl h) (fun _ => ?_)
        refine S_aload_n C dL_rights_314 rfl ?_
        refine S_bipush (v := 104) C dL_rights_315 (by decide) ?_
        refine S_iconst (v := 1) C dL_rights_317 (by decide) ?_
        refine S_newa C (at0 := .int) (c0 := 0) (ty := .int) (N := 1) rfl rfl (fun h => h) (fun cA => rfl) (by decide) (by decide) (by decide) (by show _ ≤ 3000; omega) (by show _ ≤ 30000; omega) dL_rights_318 (fun q318 => ?_)
        refine S_dup C dL_rights_320 rfl ?_
        refine S_iconst (v := 0) C dL_rights_321 (by decide) ?_
        refine S_iconst (v := 0) C dL_rights_322 (by decide) ?_
        refine S_iast C 0 rfl 0 (by decide) (by decide) rfl (ar' := [(q318, 0, 1, (upd (fun _ => 0) 0 0)), (q92, 0, N, (bdA xs LL N))]) rfl dL_rights_323 ?_
        refine S_askN C (k_holders hfl E0.1 (n := 1) (g := (upd (fun _ => 0) 0 0)) (by decide) (by decide)) hw_L_ask mk_L_153 ⟨by decide, by decide⟩ (Nat.le_of_ble_eq_true rfl) ⟨(by show _ ≤ 3000; omega), (by show _ ≤ 30000; omega)⟩ dL_rights_324 E0.2.1.kgQ (v := (nI (min N S))) (congrArg nI T0) rfl ?_
        refine S_iload C dL_rights_327 rfl ?_
        refine S_icmp_ne C 352 dL_rights_329 (by decide) (fun h => absurd rfl h) (fun _ => ?_)
        refine S_aload_n C dL_rights_332 rfl ?_
        refine S_bipush (v := 119) C dL_rights_333 (by decide) ?_
        refine S_iconst (v := 1) C dL_rights_335 (by decide) ?_
        refine S_newa C (at0 := .int) (c0 := 0) (ty := .int) (N := 1) rfl rfl (fun h => h) (fun cA => rfl) (by decide) (by decide) (by decide) (by show _ ≤ 3000; omega) (by show _ ≤ 30000; omega) dL_rights_336 (fun q336 => ?_)
        refine S_dup C dL_rights_338 rfl ?_
        refine S_iconst (v := 0) C dL_rights_339 (by decide) ?_
        refine S_iconst (v := 0) C dL_rights_340 (by decide) ?_
        refine S_iast C 0 rfl 0 (by decide) (by decide) rfl (ar' := [(q336, 0, 1, (upd (fun _ => 0) 0 0)), (q92, 0, N, (bdA xs LL N))]) rfl dL_rights_341 ?_
        refine S_askN C (k_waiting hfl E0.1 (n := 1) (g := (upd (fun _ => 0) 0 0)) (by decide) (by decide)) hw_L_ask mk_L_153 ⟨by decide, by decide⟩ (Nat.le_of_ble_eq_true rfl) ⟨(by show _ ≤ 3000; omega), (by show _ ≤ 30000; omega)⟩ dL_rights_342 E0.2.1.kgQ (v := (nI (N - S))) E0.2.1.kq rfl ?_
        refine S_iload_n C dL_rights_345 rfl ?_
        refine S_iload C dL_rights_346 rfl ?_
        refine S_isub C dL_rights_348 ?_
        refine S_topi (w := (nI (N - S))) ((pk_sub (by omega)).trans (congrArg nI (show N - min N S = N - S by omega))) ?_
        refine S_icmp_eq C 354 dL_rights_349 (by decide) (fun _ => ?_) (fun h => absurd rfl h)
        refine S_iload_n C dL_rights_354 rfl ?_
        refine S_newa C (at0 := .boolean) (c0 := 1) (ty := .boolean) (N := N) rfl rfl (fun h => h) (fun cA => rfl) (nI_pos (by omega)) (nI_clamp (by omega)) (by show N * 1 ≤ 536870912; omega) (by show _ ≤ 3000; omega) (by show _ ≤ 30000; omega) dL_rights_355 (fun q355 => ?_)
        refine S_astore C dL_rights_357 (by decide) (lv' := [some (.ref bA), some (.ref (x.2.1 0)), some (.int (nI S)), some (.int (nI N)), some (.ref q92), some (.int (nI (min N S))), some (.ref q355), none, none, none, none]) rfl ?_
        refine S_iconst (v := 0) C dL_rights_359 (by decide) ?_
        refine S_istore C dL_rights_360 (by decide) (lv' := [some (.ref bA), some (.ref (x.2.1 0)), some (.int (nI S)), some (.int (nI N)), some (.ref q92), some (.int (nI (min N S))), some (.ref q355), some (.int 0), none, none, none]) rfl ?_
        have L362 : ∀ (fuel : Nat) (k : Nat), k ≤ min N S → min N S - k < fuel → SS pP l eE ({ frames := 13, cells := 3000, slots := 30000, locals := 700 } : Room) sS mM argsA belowB methM cC (MQ belowB (Q1 sS.heap.size) argsA sS 3000 30000 (fun q => sS.heap.size ≤ q)) x 11 c [(q355, 1, N, (hK rk k)), (q92, 0, N, (bdA xs LL N))] 358 3021 362 [some (.ref bA), some (.ref (x.2.1 0)), some (.int (nI S)), some (.int (nI N)), some (.ref q92), some (.int (nI (min N S))), some (.ref q355), some (.int (nI k)), none, none, none] [] := by
          intro fuel
          induction fuel with
          | zero => intro k hk hm; exact absurd hm (Nat.not_lt_zero _)
          | succ fuel ih362 =>
            intro k hk hm
            refine S_iload C dL_rights_362 rfl ?_
            refine S_iload C dL_rights_364 rfl ?_
            refine S_lt C 434 dL_rights_366 (by decide) (by omega) (by omega) (fun h366 => ?_) (fun h366 => ?_)
            · have ek : k = min N S := by omega
              rw [ek]
              refine S_iconst (v := 0) C dL_rights_434 (by decide) ?_
              refine S_topi (w := (nI (ocF rk (min N S) (brF xs LL) 0))) (show (0 : Int32) = nI (ocF rk (min N S) (brF xs LL) 0) from rfl) ?_
              refine S_istore C dL_rights_435 (by decide) (lv' := [some (.ref bA), some (.ref (x.2.1 0)), some (.int (nI S)), some (.int (nI N)), some (.ref q92), some (.int (nI (min N S))), some (.ref q355), some (.int (nI (ocF rk (min N S) (brF xs LL) 0))), none, none, none]) rfl ?_
              refine S_iconst (v := 0) C dL_rights_437 (by decide) ?_
              refine S_topi (w := (nI (rcF (bdn xs LL) rk (min N S) (brF xs LL) 0))) (show (0 : Int32) = nI (rcF (bdn xs LL) rk (min N S) (brF xs LL) 0) from rfl) ?_
              refine S_istore C dL_rights_438 (by decide) (lv' := [some (.ref bA), some (.ref (x.2.1 0)), some (.int (nI S)), some (.int (nI N)), some (.ref q92), some (.int (nI (min N S))), some (.ref q355), some (.int (nI (ocF rk (min N S) (brF xs LL) 0))), some (.int (nI (rcF (bdn xs LL) rk (min N S) (brF xs LL) 0))), none, none]) rfl ?_
              refine S_iconst (v := 0) C dL_rights_440 (by decide) ?_
              refine S_istore C dL_rights_441 (by decide) (lv' := [some (.ref bA), some (.ref (x.2.1 0)), some (.int (nI S)), some (.int (nI N)), some (.ref q92), some (.int (nI (min N S))), some (.ref q355), some (.int (nI (ocF rk (min N S) (brF xs LL) 0))), some (.int (nI (rcF (bdn xs LL) rk (min N S) (brF xs LL) 0))), some (.int 0), none]) rfl ?_
              have L443 : ∀ (fuel : Nat) (p : Nat) (d : Mem), p ≤ N → PE S N (bdn xs LL) rk ord (brF xs LL) p d → N - p < fuel → SS pP l eE ({ frames := 13, cells := 3000, slots := 30000, locals := 700 } : Room) sS mM argsA belowB methM cC (MQ belowB (Q1 sS.heap.size) argsA sS 3000 30000 (fun q => sS.heap.size ≤ q)) x 11 d [(q355, 1, N, (hE rk (min N S) (brF xs LL) p)), (q92, 0, N, (bdA xs LL N))] (358 + 20 * p) (3021 + 103 * p) 443 [some (.ref bA), some (.ref (x.2.1 0)), some (.int (nI S)), some (.int (nI N)), some (.ref q92), some (.int (nI (min N S))), some (.ref q355), some (.int (nI (ocF rk (min N S) (brF xs LL) p))), some (.int (nI (rcF (bdn xs LL) rk (min N S) (brF xs LL) p))), some (.int (nI p)), none] [] := by
                intro fuel
                induction fuel with
                | zero => intro p d hp hd hm; exact absurd hm (Nat.not_lt_zero _)
                | succ fuel ih443 =>
                  intro p d hp hd hm
                  refine S_iload C dL_rights_443 rfl ?_
                  refine S_iload_n C dL_rights_445 rfl ?_
                  refine S_lt C 731 dL_rights_446 (by decide) (by omega) (by omega) (fun h446 => ?_) (fun h446 => ?_)
                  · have ep : p = N := by omega
                    rw [ep] at hd ⊢
                    refine S_aload_n C dL_rights_731 rfl ?_
                    refine S_bipush (v := 99) C dL_rights_732 (by decide) ?_
                    refine S_iconst (v := 1) C dL_rights_734 (by decide) ?_
                    refine S_newa C (at0 := .int) (c0 := 0) (ty := .int) (N := 1) rfl rfl (fun h => h) (fun cA => rfl) (by decide) (by decide) (by decide) (by show _ ≤ 3000; omega) (by show _ ≤ 30000; omega) dL_rights_735 (fun q735 => ?_)
                    refine S_dup C dL_rights_737 rfl ?_
                    refine S_iconst (v := 0) C dL_rights_738 (by decide) ?_
                    refine S_iconst (v := 2) C dL_rights_739 (by decide) ?_
                    refine S_iast C 0 rfl 0 (by decide) (by decide) rfl (ar' := [(q735, 0, 1, (upd (fun _ => 0) 0 2)), (q355, 1, N, (hE rk (min N S) (brF xs LL) N)), (q92, 0, N, (bdA xs LL N))]) rfl dL_rights_740 ?_
                    obtain ⟨⟨f1, f2, f3⟩, W9, M9, T9, O9, Q9⟩ := PE_sit (by omega) (by omega) hd (fun q hq => R.2.2.2.1 q hq) hO hbd C0
                    refine S_askN C (k_sit hfl hd.1 (n := 1) (g := (upd (fun _ => 0) 0 2)) (by decide) (by decide)) hw_L_ask mk_L_153 ⟨by decide, by decide⟩ (Nat.le_of_ble_eq_true rfl) ⟨(by show _ ≤ 3000; omega), (by show _ ≤ 30000; omega)⟩ dL_rights_741 f1 (v := (nI (min N S - (ocF rk (min N S) (brF xs LL) N)))) f2 (a2 := (up2 (lsK d 0 N) 69 2 1)) f3 ?_
                    generalize up2 (lsK d 0 N) 69 2 1 = f at W9 M9 T9 Q9 ⊢
                    refine S_iload C dL_rights_744 rfl ?_
                    refine S_iload C dL_rights_746 rfl ?_
                    refine S_isub C dL_rights_748 ?_
                    refine S_topi (w := (nI (min N S - (ocF rk (min N S) (brF xs LL) N)))) (pk_sub O9) ?_
                    refine S_icmp_ne C 802 dL_rights_749 (by decide) (fun h => absurd rfl h) (fun _ => ?_)
                    refine S_aload_n C dL_rights_752 rfl ?_
                    refine S_callf (R_V C (c_X3_refunds hfl) mi_X3_refunds mk_L_146 rfl (by decide) rfl (rfl : vwCl[5]? = some (RX3, TX3, 13)) (by decide) rfl (Nat.le_of_ble_eq_true rfl) ⟨(by show _ ≤ 3000; omega), (by show _ ≤ 30000; omega)⟩ dL_rights_753) ?_
                    refine S_topi (w := (nI (rcF (bdn xs LL) rk (min N S) (brF xs LL) N))) M9.krf ?_
                    refine S_iload C dL_rights_756 rfl ?_
                    refine S_icmp_ne C 802 dL_rights_758 (by decide) (fun h => absurd rfl h) (fun _ => ?_)
                    refine S_aload_n C dL_rights_761 rfl ?_
                    refine S_bipush (v := 104) C dL_rights_762 (by decide) ?_
                    refine S_iconst (v := 1) C dL_rights_764 (by decide) ?_
                    refine S_newa C (at0 := .int) (c0 := 0) (ty := .int) (N := 1) rfl rfl (fun h => h) (fun cA => rfl) (by decide) (by decide) (by decide) (by show _ ≤ 3000; omega) (by show _ ≤ 30000; omega) dL_rights_765 (fun q765 => ?_)
                    refine S_dup C dL_rights_767 rfl ?_
                    refine S_iconst (v := 0) C dL_rights_768 (by decide) ?_
                    refine S_iconst (v := 0) C dL_rights_769 (by decide) ?_
                    refine S_iast C 0 rfl 0 (by decide) (by decide) rfl (ar' := [(q765, 0, 1, (upd (fun _ => 0) 0 0)), (q355, 1, N, (hE rk (min N S) (brF xs LL) N)), (q92, 0, N, (bdA xs LL N))]) rfl dL_rights_770 ?_
                    refine S_askN C (k_holders hfl W9 (n := 1) (g := (upd (fun _ => 0) 0 0)) (by decide) (by decide)) hw_L_ask mk_L_153 ⟨by decide, by decide⟩ (Nat.le_of_ble_eq_true rfl) ⟨(by show _ ≤ 3000; omega), (by show _ ≤ 30000; omega)⟩ dL_rights_771 M9.kgQ (v := (nI (min N S - (ocF rk (min N S) (brF xs LL) N)))) (congrArg nI T9) rfl ?_
                    refine S_iload C dL_rights_774 rfl ?_
                    refine S_iload C dL_rights_776 rfl ?_
                    refine S_isub C dL_rights_778 ?_
                    refine S_topi (w := (nI (min N S - (ocF rk (min N S) (brF xs LL) N)))) (pk_sub O9) ?_
                    refine S_icmp_ne C 802 dL_rights_779 (by decide) (fun h => absurd rfl h) (fun _ => ?_)
                    refine S_aload_n C dL_rights_782 rfl ?_
                    refine S_bipush (v := 119) C dL_rights_783 (by decide) ?_
                    refine S_iconst (v := 1) C dL_rights_785 (by decide) ?_
                    refine S_newa C (at0 := .int) (c0 := 0) (ty := .int) (N := 1) rfl rfl (fun h => h) (fun cA => rfl) (by decide) (by decide) (by decide) (by show _ ≤ 3000; omega) (by show _ ≤ 30000; omega) dL_rights_786 (fun q786 => ?_)
                    refine S_dup C dL_rights_788 rfl ?_
                    refine S_iconst (v := 0) C dL_rights_789 (by decide) ?_
                    refine S_iconst (v := 0) C dL_rights_790 (by decide) ?_
                    refine S_iast C 0 rfl 0 (by decide) (by decide) rfl (ar' := [(q786, 0, 1, (upd (fun _ => 0) 0 0)), (q355, 1, N, (hE rk (min N S) (brF xs LL) N)), (q92, 0, N, (bdA xs LL N))]) rfl dL_rights_791 ?_
                    refine S_askN C (k_waiting hfl W9 (n := 1) (g := (upd (fun _ => 0) 0 0)) (by decide) (by decide)) hw_L_ask mk_L_153 ⟨by decide, by decide⟩ (Nat.le_of_ble_eq_true rfl) ⟨(by show _ ≤ 3000; omega), (by show _ ≤ 30000; omega)⟩ dL_rights_792 M9.kgQ (v := (nI (N - S))) M9.kq rfl ?_
                    refine S_iload_n C dL_rights_795 rfl ?_
                    refine S_iload C dL_rights_796 rfl ?_
                    refine S_isub C dL_rights_798 ?_
                    refine S_topi (w := (nI (N - S))) ((pk_sub (by omega)).trans (congrArg nI (show N - min N S = N - S by omega))) ?_
                    refine S_icmp_eq C 804 dL_rights_799 (by decide) (fun _ => ?_) (fun h => absurd rfl h)
                    refine S_iconst (v := 0) C dL_rights_804 (by decide) ?_
                    refine S_istore C dL_rights_805 (by decide) (lv' := [some (.ref bA), some (.ref (x.2.1 0)), some (.int (nI S)), some (.int (nI N)), some (.ref q92), some (.int (nI (min N S))), some (.ref q355), some (.int (nI (ocF rk (min N S) (brF xs LL) N))), some (.int (nI (rcF (bdn xs LL) rk (min N S) (brF xs LL) N))), some (.int 0), none]) rfl ?_
                    have L807 : ∀ (fuel : Nat) (p : Nat), p ≤ N → N - p < fuel → SS pP l eE ({ frames := 13, cells := 3000, slots := 30000, locals := 700 } : Room) sS mM argsA belowB methM cC (MQ belowB (Q1 sS.heap.size) argsA sS 3000 30000 (fun q => sS.heap.size ≤ q)) x 11 f [(q355, 1, N, (hE rk (min N S) (brF xs LL) N)), (q92, 0, N, (bdA xs LL N))] (525 + 5 * p) (3872 + 28 * p) 807 [some (.ref bA), some (.ref (x.2.1 0)), some (.int (nI S)), some (.int (nI N)), some (.ref q92), some (.int (nI (min N S))), some (.ref q355), some (.int (nI (ocF rk (min N S) (brF xs LL) N))), some (.int (nI (rcF (bdn xs LL) rk (min N S) (brF xs LL) N))), some (.int (nI p)), none] [] := by
                      intro fuel
                      induction fuel with
                      | zero => intro p hp hm; exact absurd hm (Nat.not_lt_zero _)
                      | succ fuel ih807 =>
                        intro p hp hm
                        refine S_iload C dL_rights_807 rfl ?_
                        refine S_iload_n C dL_rights_809 rfl ?_
                        refine S_lt C 896 dL_rights_810 (by decide) (by omega) (by omega) (fun h810 => ?_) (fun h810 => ?_)
                        · obtain ⟨t1, t2, t3, t4, t5⟩ := PE_true (by omega) (by omega) M9 T9 Q9 hO hbd
                          refine S_aload_n C dL_rights_896 rfl ?_
                          refine S_callf (R_V C (c_X3_isTrue hfl W9 t1 t2 t3 t4 t5) mi_X3_isTrue mk_L_149 rfl (by decide) rfl (rfl : vwCl[5]? = some (RX3, TX3, 13)) (by decide) rfl (Nat.le_of_ble_eq_true rfl) ⟨(by show _ ≤ 3000; omega), (by show _ ≤ 30000; omega)⟩ dL_rights_897) ?_
                          exact S_one C hAW hr dL_rights_900 ⟨(by show _ ≤ 3000; omega), (by show _ ≤ 30000; omega)⟩
                        · refine S_aload_n C dL_rights_813 rfl ?_
                          refine S_bipush (v := 107) C dL_rights_814 (by decide) ?_
                          refine S_iconst (v := 3) C dL_rights_816 (by decide) ?_
                          refine S_newa C (at0 := .int) (c0 := 0) (ty := .int) (N := 3) rfl rfl (fun h => h) (fun cA => rfl) (by decide) (by decide) (by decide) (by show _ ≤ 3000; omega) (by show _ ≤ 30000; omega) dL_rights_817 (fun q817 => ?_)
                          refine S_dup C dL_rights_819 rfl ?_
                          refine S_iconst (v := 0) C dL_rights_820 (by decide) ?_
                          refine S_iload C dL_rights_821 rfl ?_
                          refine S_iast C 0 rfl 0 (by decide) (by decide) rfl (ar' := [(q817, 0, 3, (upd (fun _ => 0) 0 (nI p))), (q355, 1, N, (hE rk (min N S) (brF xs LL) N)), (q92, 0, N, (bdA xs LL N))]) rfl dL_rights_823 ?_
                          refine S_dup C dL_rights_824 rfl ?_
                          refine S_iconst (v := 1) C dL_rights_825 (by decide) ?_
                          refine S_iconst (v := 0) C dL_rights_826 (by decide) ?_
                          refine S_iast C 0 rfl 1 (by decide) (by decide) rfl (ar' := [(q817, 0, 3, (upd (upd (fun _ => 0) 0 (nI p)) 1 0)), (q355, 1, N, (hE rk (min N S) (brF xs LL) N)), (q92, 0, N, (bdA xs LL N))]) rfl dL_rights_827 ?_
                          refine S_dup C dL_rights_828 rfl ?_
                          refine S_iconst (v := 2) C dL_rights_829 (by decide) ?_
                          refine S_iconst (v := 0) C dL_rights_830 (by decide) ?_
                          refine S_iast C 0 rfl 2 (by decide) (by decide) rfl (ar' := [(q817, 0, 3, (upd (upd (upd (fun _ => 0) 0 (nI p)) 1 0) 2 0)), (q355, 1, N, (hE rk (min N S) (brF xs LL) N)), (q92, 0, N, (bdA xs LL N))]) rfl dL_rights_831 ?_
                          refine S_askN C (k_hasSat hfl W9 (n := 3) (g := (upd (upd (upd (fun _ => 0) 0 (nI p)) 1 0) 2 0)) (by decide) (by decide)) hw_L_ask mk_L_153 ⟨by decide, by decide⟩ (Nat.le_of_ble_eq_true rfl) ⟨(by show _ ≤ 3000; omega), (by show _ ≤ 30000; omega)⟩ dL_rights_832 (ans_sat M9 hbd h810 (by omega)).1 (v := (bI (hG rk (min N S) p && !brF xs LL p))) (ans_sat M9 hbd h810 (by omega)).2 rfl ?_
                          refine S_aload C dL_rights_835 rfl ?_
                          refine S_iload C dL_rights_837 rfl ?_
                          refine S_zald C 0 rfl p (by omega) (by omega) rfl dL_rights_839 ?_
                          refine S_topi (w := (bI (hG rk (min N S) p && !brF xs LL p))) (hE_end h810) ?_
                          refine S_if_eq C 847 dL_rights_840 (by decide) (fun h840 => ?_) (fun h840 => ?_)
                          · have hh : (hG rk (min N S) p && !brF xs LL p) = false := bI_0.mp h840
                            refine S_iconst (v := 0) C dL_rights_847 (by decide) ?_
                            refine S_icmp_ne C 888 dL_rights_848 (by decide) (fun h => absurd (by rw [hh]; rfl) h) (fun _ => ?_)
                            refine S_aload_n C dL_rights_851 rfl ?_
                            refine S_bipush (v := 112) C dL_rights_852 (by decide) ?_
                            refine S_iconst (v := 1) C dL_rights_854 (by decide) ?_
                            refine S_newa C (at0 := .int) (c0 := 0) (ty := .int) (N := 1) rfl rfl (fun h => h) (fun cA => rfl) (by decide) (by decide) (by decide) (by show _ ≤ 3000; omega) (by show _ ≤ 30000; omega) dL_rights_855 (fun q855 => ?_)
                            refine S_dup C dL_rights_857 rfl ?_
                            refine S_iconst (v := 0) C dL_rights_858 (by decide) ?_
                            refine S_iload C dL_rights_859 rfl ?_
                            refine S_iast C 0 rfl 0 (by decide) (by decide) rfl (ar' := [(q855, 0, 1, (upd (fun _ => 0) 0 (nI p))), (q355, 1, N, (hE rk (min N S) (brF xs LL) N)), (q92, 0, N, (bdA xs LL N))]) rfl dL_rights_861 ?_
                            refine S_askN C (k_points hfl W9 (n := 1) (g := (upd (fun _ => 0) 0 (nI p))) (by decide) (by decide)) hw_L_ask mk_L_153 ⟨by decide, by decide⟩ (Nat.le_of_ble_eq_true rfl) ⟨(by show _ ≤ 3000; omega), (by show _ ≤ 30000; omega)⟩ dL_rights_862 (ans_points M9 h810 (by omega)).1 (v := (PT1 N (bdn xs LL) (fun q => hG rk (min N S) q && !brF xs LL q) p)) (ans_points M9 h810 (by omega)).2 rfl ?_
                            refine S_bipush (v := 100) C dL_rights_865 (by decide) ?_
                            refine S_aload C dL_rights_867 rfl ?_
                            refine S_iload C dL_rights_869 rfl ?_
                            refine S_zald C 0 rfl p (by omega) (by omega) rfl dL_rights_871 ?_
                            refine S_topi (w := (bI (hG rk (min N S) p && !brF xs LL p))) (hE_end h810) ?_
                            refine S_if_eq C 883 dL_rights_872 (by decide) (fun _ => ?_) (fun h => absurd (by rw [hh]; rfl) h)
                            refine S_iconst (v := 0) C dL_rights_883 (by decide) ?_
                            refine S_isub C dL_rights_884 ?_
                            refine S_icmp_eq C 890 dL_rights_885 (by decide) (fun _ => ?_) (fun h => absurd (PT1_f (hh := fun q => hG rk (min N S) q && !brF xs LL q) h810 hh) h)
                            refine S_iinc (v := (nI (p + 1))) C dL_rights_890 rfl (nI_1 _) (by decide) (lv' := [some (.ref bA), some (.ref (x.2.1 0)), some (.int (nI S)), some (.int (nI N)), some (.ref q92), some (.int (nI (min N S))), some (.ref q355), some (.int (nI (ocF rk (min N S) (brF xs LL) N))), some (.int (nI (rcF (bdn xs LL) rk (min N S) (brF xs LL) N))), some (.int (nI (p + 1))), none]) rfl ?_
                            refine S_goto C 807 dL_rights_893 (by decide) ?_
                            exact S_cs (k := 525 + 5 * (p + 1)) (n := 3872 + 28 * (p + 1)) (by omega) (by omega) (ih807 (p + 1) (by omega) (by omega))
                          · have hh : (hG rk (min N S) p && !brF xs LL p) = true := bI_n0.mp h840
                            refine S_iconst (v := 1) C dL_rights_843 (by decide) ?_
                            refine S_goto C 848 dL_rights_844 (by decide) ?_
                            refine S_icmp_ne C 888 dL_rights_848 (by decide) (fun h => absurd (by rw [hh]; rfl) h) (fun _ => ?_)
                            refine S_aload_n C dL_rights_851 rfl ?_
                            refine S_bipush (v := 112) C dL_rights_852 (by decide) ?_
                            refine S_iconst (v := 1) C dL_rights_854 (by decide) ?_
                            refine S_newa C (at0 := .int) (c0 := 0) (ty := .int) (N := 1) rfl rfl (fun h => h) (fun cA => rfl) (by decide) (by decide) (by decide) (by show _ ≤ 3000; omega) (by show _ ≤ 30000; omega) dL_rights_855 (fun q855 => ?_)
                            refine S_dup C dL_rights_857 rfl ?_
                            refine S_iconst (v := 0) C dL_rights_858 (by decide) ?_
                            refine S_iload C dL_rights_859 rfl ?_
                            refine S_iast C 0 rfl 0 (by decide) (by decide) rfl (ar' := [(q855, 0, 1, (upd (fun _ => 0) 0 (nI p))), (q355, 1, N, (hE rk (min N S) (brF xs LL) N)), (q92, 0, N, (bdA xs LL N))]) rfl dL_rights_861 ?_
                            refine S_askN C (k_points hfl W9 (n := 1) (g := (upd (fun _ => 0) 0 (nI p))) (by decide) (by decide)) hw_L_ask mk_L_153 ⟨by decide, by decide⟩ (Nat.le_of_ble_eq_true rfl) ⟨(by show _ ≤ 3000; omega), (by show _ ≤ 30000; omega)⟩ dL_rights_862 (ans_points M9 h810 (by omega)).1 (v := (PT1 N (bdn xs LL) (fun q => hG rk (min N S) q && !brF xs LL q) p)) (ans_points M9 h810 (by omega)).2 rfl ?_
                            refine S_bipush (v := 100) C dL_rights_865 (by decide) ?_
                            refine S_aload C dL_rights_867 rfl ?_
                            refine S_iload C dL_rights_869 rfl ?_
                            refine S_zald C 0 rfl p (by omega) (by omega) rfl dL_rights_871 ?_
                            refine S_topi (w := (bI (hG rk (min N S) p && !brF xs LL p))) (hE_end h810) ?_
                            refine S_if_eq C 883 dL_rights_872 (by decide) (fun h => absurd h (by rw [hh]; decide)) (fun _ => ?_)
                            refine S_aload C dL_rights_875 rfl ?_
                            refine S_iload C dL_rights_877 rfl ?_
                            refine S_iald C 1 rfl p (by omega) (by omega) rfl dL_rights_879 ?_
                            refine S_topi (w := (nI (bdn xs LL p))) (bdA_at (by omega)) ?_
                            refine S_goto C 884 dL_rights_880 (by decide) ?_
                            refine S_isub C dL_rights_884 ?_
                            refine S_icmp_eq C 890 dL_rights_885 (by decide) (fun _ => ?_) (fun h => absurd (PT1_t (hh := fun q => hG rk (min N S) q && !brF xs LL q) h810 hh) h)
                            refine S_iinc (v := (nI (p + 1))) C dL_rights_890 rfl (nI_1 _) (by decide) (lv' := [some (.ref bA), some (.ref (x.2.1 0)), some (.int (nI S)), some (.int (nI N)), some (.ref q92), some (.int (nI (min N S))), some (.ref q355), some (.int (nI (ocF rk (min N S) (brF xs LL) N))), some (.int (nI (rcF (bdn xs LL) rk (min N S) (brF xs LL) N))), some (.int (nI (p + 1))), none]) rfl ?_
                            refine S_goto C 807 dL_rights_893 (by decide) ?_
                            exact S_cs (k := 525 + 5 * (p + 1)) (n := 3872 + 28 * (p + 1)) (by omega) (by omega) (ih807 (p + 1) (by omega) (by omega))
                    exact S_cs (k := 525 + 5 * 0) (n := 3872 + 28 * 0) (by omega) (by omega) (L807 _ 0 (Nat.zero_le _) (Nat.lt_succ_self _))
                  · refine S_aload_n C dL_rights_449 rfl ?_
                    refine S_bipush (v := 115) C dL_rights_450 (by decide) ?_
                    refine S_iconst (v := 3) C dL_rights_452 (by decide) ?_
                    refine S_newa C (at0 := .int) (c0 := 0) (ty := .int) (N := 3) rfl rfl (fun h => h) (fun cA => rfl) (by decide) (by decide) (by decide) (by show _ ≤ 3000; omega) (by show _ ≤ 30000; omega) dL_rights_453 (fun q453 => ?_)
                    refine S_dup C dL_rights_455 rfl ?_
                    refine S_iconst (v := 0) C dL_rights_456 (by decide) ?_
                    refine S_iload C dL_rights_457 rfl ?_
                    refine S_iast C 0 rfl 0 (by decide) (by decide) rfl (ar' := [(q453, 0, 3, (upd (fun _ => 0) 0 (nI p))), (q355, 1, N, (hE rk (min N S) (brF xs LL) p)), (q92, 0, N, (bdA xs LL N))]) rfl dL_rights_459 ?_
                    refine S_dup C dL_rights_460 rfl ?_
                    refine S_iconst (v := 1) C dL_rights_461 (by decide) ?_
                    refine S_iconst (v := 0) C dL_rights_462 (by decide) ?_
                    refine S_iast C 0 rfl 1 (by decide) (by decide) rfl (ar' := [(q453, 0, 3, (upd (upd (fun _ => 0) 0 (nI p)) 1 0)), (q355, 1, N, (hE rk (min N S) (brF xs LL) p)), (q92, 0, N, (bdA xs LL N))]) rfl dL_rights_463 ?_
                    refine S_dup C dL_rights_464 rfl ?_
                    refine S_iconst (v := 2) C dL_rights_465 (by decide) ?_
                    refine S_iconst (v := 0) C dL_rights_466 (by decide) ?_
                    refine S_iast C 0 rfl 2 (by decide) (by decide) rfl (ar' := [(q453, 0, 3, (upd (upd (upd (fun _ => 0) 0 (nI p)) 1 0) 2 0)), (q355, 1, N, (hE rk (min N S) (brF xs LL) p)), (q92, 0, N, (bdA xs LL N))]) rfl dL_rights_467 ?_
                    refine S_ask C (k_seat hfl hd.1 (n := 3) (g := (upd (upd (upd (fun _ => 0) 0 (nI p)) 1 0) 2 0)) (by decide) (by decide)) hw_L_ask mk_L_153 ⟨by decide, by decide⟩ (Nat.le_of_ble_eq_true rfl) ⟨(by show _ ≤ 3000; omega), (by show _ ≤ 30000; omega)⟩ dL_rights_468 (v := (if hG rk (min N S) p = true then 0 else -2000000005)) (ans_seat hd.2.1 hbd h446 (by omega)) (a2 := d) (ite_self _) ?_
                    refine S_aload C dL_rights_471 rfl ?_
                    refine S_iload C dL_rights_473 rfl ?_
                    refine S_zald C 0 rfl p (by omega) (by omega) rfl dL_rights_475 ?_
                    refine S_topi (w := (bI (hG rk (min N S) p))) hE_at ?_
                    refine S_if_eq C 483 dL_rights_476 (by decide) (fun h476 => ?_) (fun h476 => ?_)
                    · have hh : hG rk (min N S) p = false := bI_0.mp h476
                      refine S_ldc (v := (-2000000005)) C kc_L_121 dL_rights_483 ?_
                      refine S_icmp_ne C 585 dL_rights_485 (by decide) (fun h => absurd (by rw [hh]; rfl) h) (fun _ => ?_)
                      refine S_aload_n C dL_rights_488 rfl ?_
                      refine S_bipush (v := 112) C dL_rights_489 (by decide) ?_
                      refine S_iconst (v := 1) C dL_rights_491 (by decide) ?_
                      refine S_newa C (at0 := .int) (c0 := 0) (ty := .int) (N := 1) rfl rfl (fun h => h) (fun cA => rfl) (by decide) (by decide) (by decide) (by show _ ≤ 3000; omega) (by show _ ≤ 30000; omega) dL_rights_492 (fun q492 => ?_)
                      refine S_dup C dL_rights_494 rfl ?_
                      refine S_iconst (v := 0) C dL_rights_495 (by decide) ?_
                      refine S_iload C dL_rights_496 rfl ?_
                      refine S_iast C 0 rfl 0 (by decide) (by decide) rfl (ar' := [(q492, 0, 1, (upd (fun _ => 0) 0 (nI p))), (q355, 1, N, (hE rk (min N S) (brF xs LL) p)), (q92, 0, N, (bdA xs LL N))]) rfl dL_rights_498 ?_
                      refine S_askN C (k_points hfl hd.1 (n := 1) (g := (upd (fun _ => 0) 0 (nI p))) (by decide) (by decide)) hw_L_ask mk_L_153 ⟨by decide, by decide⟩ (Nat.le_of_ble_eq_true rfl) ⟨(by show _ ≤ 3000; omega), (by show _ ≤ 30000; omega)⟩ dL_rights_499 (ans_points hd.2.1 h446 (by omega)).1 (v := (PT1 N (bdn xs LL) (hG rk (min N S)) p)) (ans_points hd.2.1 h446 (by omega)).2 rfl ?_
                      refine S_bipush (v := 100) C dL_rights_502 (by decide) ?_
                      refine S_aload C dL_rights_504 rfl ?_
                      refine S_iload C dL_rights_506 rfl ?_
                      refine S_zald C 0 rfl p (by omega) (by omega) rfl dL_rights_508 ?_
                      refine S_topi (w := (bI (hG rk (min N S) p))) hE_at ?_
                      refine S_if_eq C 520 dL_rights_509 (by decide) (fun _ => ?_) (fun h => absurd (by rw [hh]; rfl) h)
                      refine S_iconst (v := 0) C dL_rights_520 (by decide) ?_
                      refine S_isub C dL_rights_521 ?_
                      refine S_icmp_ne C 585 dL_rights_522 (by decide) (fun h => absurd (PT1_f h446 hh) h) (fun _ => ?_)
                      refine S_aload_n C dL_rights_525 rfl ?_
                      refine S_bipush (v := 110) C dL_rights_526 (by decide) ?_
                      refine S_iconst (v := 2) C dL_rights_528 (by decide) ?_
                      refine S_newa C (at0 := .int) (c0 := 0) (ty := .int) (N := 2) rfl rfl (fun h => h) (fun cA => rfl) (by decide) (by decide) (by decide) (by show _ ≤ 3000; omega) (by show _ ≤ 30000; omega) dL_rights_529 (fun q529 => ?_)
                      refine S_dup C dL_rights_531 rfl ?_
                      refine S_iconst (v := 0) C dL_rights_532 (by decide) ?_
                      refine S_iload C dL_rights_533 rfl ?_
                      refine S_iast C 0 rfl 0 (by decide) (by decide) rfl (ar' := [(q529, 0, 2, (upd (fun _ => 0) 0 (nI p))), (q355, 1, N, (hE rk (min N S) (brF xs LL) p)), (q92, 0, N, (bdA xs LL N))]) rfl dL_rights_535 ?_
                      refine S_dup C dL_rights_536 rfl ?_
                      refine S_iconst (v := 1) C dL_rights_537 (by decide) ?_
                      refine S_iconst (v := 2) C dL_rights_538 (by decide) ?_
                      refine S_iast C 0 rfl 1 (by decide) (by decide) rfl (ar' := [(q529, 0, 2, (upd (upd (fun _ => 0) 0 (nI p)) 1 2)), (q355, 1, N, (hE rk (min N S) (brF xs LL) p)), (q92, 0, N, (bdA xs LL N))]) rfl dL_rights_539 ?_
                      refine S_ask C (k_more hfl hd.1 (n := 2) (g := (upd (upd (fun _ => 0) 0 (nI p)) 1 2)) (by decide) (by decide)) hw_L_ask mk_L_153 ⟨by decide, by decide⟩ (Nat.le_of_ble_eq_true rfl) ⟨(by show _ ≤ 3000; omega), (by show _ ≤ 30000; omega)⟩ dL_rights_540 (v := (if hG rk (min N S) p = true then mxp N p else -2000000005)) (ans_more hd.2.1 hbd h446 (by omega)) (a2 := d) (ite_self _) ?_
                      refine S_aload C dL_rights_543 rfl ?_
                      refine S_iload C dL_rights_545 rfl ?_
                      refine S_zald C 0 rfl p (by omega) (by omega) rfl dL_rights_547 ?_
                      refine S_topi (w := (bI (hG rk (min N S) p))) hE_at ?_
                      refine S_if_eq C 556 dL_rights_548 (by decide) (fun _ => ?_) (fun h => absurd (by rw [hh]; rfl) h)
                      refine S_ldc (v := (-2000000005)) C kc_L_121 dL_rights_556 ?_
                      refine S_icmp_ne C 585 dL_rights_558 (by decide) (fun h => absurd (by rw [hh]; rfl) h) (fun _ => ?_)
                      refine S_aload_n C dL_rights_561 rfl ?_
                      refine S_bipush (v := 110) C dL_rights_562 (by decide) ?_
                      refine S_iconst (v := 2) C dL_rights_564 (by decide) ?_
                      refine S_newa C (at0 := .int) (c0 := 0) (ty := .int) (N := 2) rfl rfl (fun h => h) (fun cA => rfl) (by decide) (by decide) (by decide) (by show _ ≤ 3000; omega) (by show _ ≤ 30000; omega) dL_rights_565 (fun q565 => ?_)
                      refine S_dup C dL_rights_567 rfl ?_
                      refine S_iconst (v := 0) C dL_rights_568 (by decide) ?_
                      refine S_iload C dL_rights_569 rfl ?_
                      refine S_iast C 0 rfl 0 (by decide) (by decide) rfl (ar' := [(q565, 0, 2, (upd (fun _ => 0) 0 (nI p))), (q355, 1, N, (hE rk (min N S) (brF xs LL) p)), (q92, 0, N, (bdA xs LL N))]) rfl dL_rights_571 ?_
                      refine S_dup C dL_rights_572 rfl ?_
                      refine S_iconst (v := 1) C dL_rights_573 (by decide) ?_
                      refine S_bipush (v := 6) C dL_rights_574 (by decide) ?_
                      refine S_iast C 0 rfl 1 (by decide) (by decide) rfl (ar' := [(q565, 0, 2, (upd (upd (fun _ => 0) 0 (nI p)) 1 6)), (q355, 1, N, (hE rk (min N S) (brF xs LL) p)), (q92, 0, N, (bdA xs LL N))]) rfl dL_rights_576 ?_
                      refine S_askX C (k_more hfl hd.1 (n := 2) (g := (upd (upd (fun _ => 0) 0 (nI p)) 1 6)) (by decide) (by decide)) hw_L_ask mk_L_153 ⟨by decide, by decide⟩ (Nat.le_of_ble_eq_true rfl) ⟨(by show _ ≤ 3000; omega), (by show _ ≤ 30000; omega)⟩ dL_rights_577 (v := (-2000000002)) (ans_more6 hd.2.1 h446 (by omega)) (by decide) ?_
                      refine S_ldc (v := (-2000000002)) C kc_L_112 dL_rights_580 ?_
                      refine S_icmp_eq C 587 dL_rights_582 (by decide) (fun _ => ?_) (fun h => absurd rfl h)
                      refine S_aload_n C dL_rights_587 rfl ?_
                      refine S_bipush (v := (nI 20)) C dL_rights_588 (by decide) ?_
                      refine S_iload C dL_rights_590 rfl ?_
                      refine S_iadd C dL_rights_592 ?_
                      refine S_topi (w := (nI (20 + p))) (nI_add 20 p) ?_
                      refine S_at C hX hbl hbA hL2 (by omega) mi_L_at mk_L_169 ⟨by decide, by decide⟩ (Nat.le_of_ble_eq_true rfl) ⟨(by show _ ≤ 3000; omega), (by show _ ≤ 30000; omega)⟩ dL_rights_593 ?_
                      refine S_iconst (v := (nI 3)) C dL_rights_596 (by decide) ?_
                      refine S_some C (by decide) mi_L_some mk_L_172 ⟨by decide, by decide⟩ (Nat.le_of_ble_eq_true rfl) ⟨(by show _ ≤ 3000; omega), (by show _ ≤ 30000; omega)⟩ dL_rights_597 ?_
                      refine S_if_ne C 607 dL_rights_600 (by decide) (fun h600 => ?_) (fun h600 => ?_)
                      · have hbr : brF xs LL p = false := decide_eq_false h600
                        refine S_iconst (v := 0) C dL_rights_607 (by decide) ?_
                        refine S_istore C dL_rights_608 (by decide) (lv' := [some (.ref bA), some (.ref (x.2.1 0)), some (.int (nI S)), some (.int (nI N)), some (.ref q92), some (.int (nI (min N S))), some (.ref q355), some (.int (nI (ocF rk (min N S) (brF xs LL) p))), some (.int (nI (rcF (bdn xs LL) rk (min N S) (brF xs LL) p))), some (.int (nI p)), some (.int 0)]) rfl ?_
                        refine S_iload C dL_rights_610 rfl ?_
                        refine S_if_eq C 652 dL_rights_612 (by decide) (fun _ => ?_) (fun h => absurd rfl h)
                        refine S_iload C dL_rights_652 rfl ?_
                        refine S_aload C dL_rights_654 rfl ?_
                        refine S_iload C dL_rights_656 rfl ?_
                        refine S_zald C 0 rfl p (by omega) (by omega) rfl dL_rights_658 ?_
                        refine S_topi (w := (bI (hG rk (min N S) p))) hE_at ?_
                        refine S_if_eq C 671 dL_rights_659 (by decide) (fun _ => ?_) (fun h => absurd (by rw [hh]; rfl) h)
                        refine S_iconst (v := 0) C dL_rights_671 (by decide) ?_
                        refine S_iadd C dL_rights_672 ?_
                        refine S_topi (w := (nI (ocF rk (min N S) (brF xs LL) (p + 1)))) (oc_0 (by rw [hh, hbr]; rfl)) ?_
                        refine S_istore C dL_rights_673 (by decide) (lv' := [some (.ref bA), some (.ref (x.2.1 0)), some (.int (nI S)), some (.int (nI N)), some (.ref q92), some (.int (nI (min N S))), some (.ref q355), some (.int (nI (ocF rk (min N S) (brF xs LL) (p + 1)))), some (.int (nI (rcF (bdn xs LL) rk (min N S) (brF xs LL) p))), some (.int (nI p)), some (.int 0)]) rfl ?_
                        refine S_iload C dL_rights_675 rfl ?_
                        refine S_aload C dL_rights_677 rfl ?_
                        refine S_iload C dL_rights_679 rfl ?_
                        refine S_zald C 0 rfl p (by omega) (by omega) rfl dL_rights_681 ?_
                        refine S_topi (w := (bI (hG rk (min N S) p))) hE_at ?_
                        refine S_if_eq C 698 dL_rights_682 (by decide) (fun _ => ?_) (fun h => absurd (by rw [hh]; rfl) h)
                        refine S_iconst (v := 0) C dL_rights_698 (by decide) ?_
                        refine S_iadd C dL_rights_699 ?_
                        refine S_topi (w := (nI (rcF (bdn xs LL) rk (min N S) (brF xs LL) (p + 1)))) (rc_0 (by rw [hh, hbr]; rfl)) ?_
                        refine S_istore C dL_rights_700 (by decide) (lv' := [some (.ref bA), some (.ref (x.2.1 0)), some (.int (nI S)), some (.int (nI N)), some (.ref q92), some (.int (nI (min N S))), some (.ref q355), some (.int (nI (ocF rk (min N S) (brF xs LL) (p + 1)))), some (.int (nI (rcF (bdn xs LL) rk (min N S) (brF xs LL) (p + 1)))), some (.int (nI p)), some (.int 0)]) rfl ?_
                        refine S_aload C dL_rights_702 rfl ?_
                        refine S_iload C dL_rights_704 rfl ?_
                        refine S_aload C dL_rights_706 rfl ?_
                        refine S_iload C dL_rights_708 rfl ?_
                        refine S_zald C 0 rfl p (by omega) (by omega) rfl dL_rights_710 ?_
                        refine S_topi (w := (bI (hG rk (min N S) p))) hE_at ?_
                        refine S_if_eq C 723 dL_rights_711 (by decide) (fun _ => ?_) (fun h => absurd (by rw [hh]; rfl) h)
                        refine S_iconst (v := 0) C dL_rights_723 (by decide) ?_
                        refine S_zast C (Or.inl rfl) 0 rfl p (by omega) (by omega) rfl (ar' := [(q355, 1, N, (hE rk (min N S) (brF xs LL) (p + 1))), (q92, 0, N, (bdA xs LL N))]) (congrArg (fun g => [(q355, 1, N, g), (q92, 0, N, bdA xs LL N)]) (hE_s (by rw [hh, hbr]; rfl))) dL_rights_724 ?_
                        refine S_iinc (v := (nI (p + 1))) C dL_rights_725 rfl (nI_1 _) (by decide) (lv' := [some (.ref bA), some (.ref (x.2.1 0)), some (.int (nI S)), some (.int (nI N)), some (.ref q92), some (.int (nI (min N S))), some (.ref q355), some (.int (nI (ocF rk (min N S) (brF xs LL) (p + 1)))), some (.int (nI (rcF (bdn xs LL) rk (min N S) (brF xs LL) (p + 1)))), some (.int (nI (p + 1))), some (.int 0)]) rfl ?_
                        refine S_goto C 443 dL_rights_728 (by decide) ?_
                        refine S_forget (lvLe.same (lvLe.same (lvLe.same (lvLe.same (lvLe.same (lvLe.same (lvLe.same (lvLe.same (lvLe.same (lvLe.same (lvLe.drop lvLe.nil))))))))))) ?_
                        exact S_cs (k := 358 + 20 * (p + 1)) (n := 3021 + 103 * (p + 1)) (by omega) (by omega) (ih443 (p + 1) _ (by omega) (hd.no hbr) (by omega))
                      · have hbr : brF xs LL p = true := decide_eq_true (by simpa using h600)
                        refine S_iconst (v := 1) C dL_rights_603 (by decide) ?_
                        refine S_goto C 608 dL_rights_604 (by decide) ?_
                        refine S_istore C dL_rights_608 (by decide) (lv' := [some (.ref bA), some (.ref (x.2.1 0)), some (.int (nI S)), some (.int (nI N)), some (.ref q92), some (.int (nI (min N S))), some (.ref q355), some (.int (nI (ocF rk (min N S) (brF xs LL) p))), some (.int (nI (rcF (bdn xs LL) rk (min N S) (brF xs LL) p))), some (.int (nI p)), some (.int 1)]) rfl ?_
                        refine S_iload C dL_rights_610 rfl ?_
                        refine S_if_eq C 652 dL_rights_612 (by decide) (fun h => absurd h (by decide)) (fun _ => ?_)
                        refine S_aload_n C dL_rights_615 rfl ?_
                        refine S_bipush (v := 120) C dL_rights_616 (by decide) ?_
                        refine S_iconst (v := 5) C dL_rights_618 (by decide) ?_
                        refine S_newa C (at0 := .int) (c0 := 0) (ty := .int) (N := 5) rfl rfl (fun h => h) (fun cA => rfl) (by decide) (by decide) (by decide) (by show _ ≤ 3000; omega) (by show _ ≤ 30000; omega) dL_rights_619 (fun q619 => ?_)
                        refine S_dup C dL_rights_621 rfl ?_
                        refine S_iconst (v := 0) C dL_rights_622 (by decide) ?_
                        refine S_iconst (v := (nI 1)) C dL_rights_623 (by decide) ?_
                        refine S_iast C 0 rfl 0 (by decide) (by decide) rfl (ar' := [(q619, 0, 5, (upd (fun _ => 0) 0 (nI 1))), (q355, 1, N, (hE rk (min N S) (brF xs LL) p)), (q92, 0, N, (bdA xs LL N))]) rfl dL_rights_624 ?_
                        refine S_dup C dL_rights_625 rfl ?_
                        refine S_iconst (v := 1) C dL_rights_626 (by decide) ?_
                        refine S_iload C dL_rights_627 rfl ?_
                        refine S_iast C 0 rfl 1 (by decide) (by decide) rfl (ar' := [(q619, 0, 5, (upd (upd (fun _ => 0) 0 (nI 1)) 1 (nI p))), (q355, 1, N, (hE rk (min N S) (brF xs LL) p)), (q92, 0, N, (bdA xs LL N))]) rfl dL_rights_629 ?_
                        refine S_dup C dL_rights_630 rfl ?_
                        refine S_iconst (v := 2) C dL_rights_631 (by decide) ?_
                        refine S_iconst (v := 0) C dL_rights_632 (by decide) ?_
                        refine S_iast C 0 rfl 2 (by decide) (by decide) rfl (ar' := [(q619, 0, 5, (upd (upd (upd (fun _ => 0) 0 (nI 1)) 1 (nI p)) 2 0)), (q355, 1, N, (hE rk (min N S) (brF xs LL) p)), (q92, 0, N, (bdA xs LL N))]) rfl dL_rights_633 ?_
                        refine S_dup C dL_rights_634 rfl ?_
                        refine S_iconst (v := 3) C dL_rights_635 (by decide) ?_
                        refine S_bipush (v := 114) C dL_rights_636 (by decide) ?_
                        refine S_iast C 0 rfl 3 (by decide) (by decide) rfl (ar' := [(q619, 0, 5, (upd (upd (upd (upd (fun _ => 0) 0 (nI 1)) 1 (nI p)) 2 0) 3 114)), (q355, 1, N, (hE rk (min N S) (brF xs LL) p)), (q92, 0, N, (bdA xs LL N))]) rfl dL_rights_638 ?_
                        refine S_dup C dL_rights_639 rfl ?_
                        refine S_iconst (v := 4) C dL_rights_640 (by decide) ?_
                        refine S_iconst (v := 0) C dL_rights_641 (by decide) ?_
                        refine S_iast C 0 rfl 4 (by decide) (by decide) rfl (ar' := [(q619, 0, 5, (upd (upd (upd (upd (upd (fun _ => 0) 0 (nI 1)) 1 (nI p)) 2 0) 3 114) 4 0)), (q355, 1, N, (hE rk (min N S) (brF xs LL) p)), (q92, 0, N, (bdA xs LL N))]) rfl dL_rights_642 ?_
                        refine S_askN C (k_write hfl hd.1 (n := 5) (g := (upd (upd (upd (upd (upd (fun _ => 0) 0 (nI 1)) 1 (nI p)) 2 0) 3 114) 4 0)) (by decide) (by decide) (f3 := 114) (by show ((114 : Int32).toUInt32 % 65536).toInt32 = 114; decide)) hw_L_ask mk_L_153 ⟨by decide, by decide⟩ (Nat.le_of_ble_eq_true rfl) ⟨(by show _ ≤ 3000; omega), (by show _ ≤ 30000; omega)⟩ dL_rights_643 (ans_wr (s := 1) hd.2.1 h446 (by omega) (by decide) (Or.inl rfl)).1 (v := 1) ((ans_wr (s := 1) hd.2.1 h446 (by omega) (by decide) (v := 0) (Or.inl rfl)).2.1.trans ((rgE_w h446).trans (if_neg (fun z => absurd z.1 (Nat.lt_irrefl p))))) (a2 := (up2 d 6 (p * 6) 0)) (ans_wr (s := 1) hd.2.1 h446 (by omega) (by decide) (Or.inl rfl)).2.2 ?_
                        refine S_iconst (v := 1) C dL_rights_646 (by decide) ?_
                        refine S_icmp_eq C 652 dL_rights_647 (by decide) (fun _ => ?_) (fun h => absurd rfl h)
                        refine S_iload C dL_rights_652 rfl ?_
                        refine S_aload C dL_rights_654 rfl ?_
                        refine S_iload C dL_rights_656 rfl ?_
                        refine S_zald C 0 rfl p (by omega) (by omega) rfl dL_rights_658 ?_
                        refine S_topi (w := (bI (hG rk (min N S) p))) hE_at ?_
                        refine S_if_eq C 671 dL_rights_659 (by decide) (fun _ => ?_) (fun h => absurd (by rw [hh]; rfl) h)
                        refine S_iconst (v := 0) C dL_rights_671 (by decide) ?_
                        refine S_iadd C dL_rights_672 ?_
                        refine S_topi (w := (nI (ocF rk (min N S) (brF xs LL) (p + 1)))) (oc_0 (by rw [hh, hbr]; rfl)) ?_
                        refine S_istore C dL_rights_673 (by decide) (lv' := [some (.ref bA), some (.ref (x.2.1 0)), some (.int (nI S)), some (.int (nI N)), some (.ref q92), some (.int (nI (min N S))), some (.ref q355), some (.int (nI (ocF rk (min N S) (brF xs LL) (p + 1)))), some (.int (nI (rcF (bdn xs LL) rk (min N S) (brF xs LL) p))), some (.int (nI p)), some (.int 1)]) rfl ?_
                        refine S_iload C dL_rights_675 rfl ?_
                        refine S_aload C dL_rights_677 rfl ?_
                        refine S_iload C dL_rights_679 rfl ?_
                        refine S_zald C 0 rfl p (by omega) (by omega) rfl dL_rights_681 ?_
                        refine S_topi (w := (bI (hG rk (min N S) p))) hE_at ?_
                        refine S_if_eq C 698 dL_rights_682 (by decide) (fun _ => ?_) (fun h => absurd (by rw [hh]; rfl) h)
                        refine S_iconst (v := 0) C dL_rights_698 (by decide) ?_
                        refine S_iadd C dL_rights_699 ?_
                        refine S_topi (w := (nI (rcF (bdn xs LL) rk (min N S) (brF xs LL) (p + 1)))) (rc_0 (by rw [hh, hbr]; rfl)) ?_
                        refine S_istore C dL_rights_700 (by decide) (lv' := [some (.ref bA), some (.ref (x.2.1 0)), some (.int (nI S)), some (.int (nI N)), some (.ref q92), some (.int (nI (min N S))), some (.ref q355), some (.int (nI (ocF rk (min N S) (brF xs LL) (p + 1)))), some (.int (nI (rcF (bdn xs LL) rk (min N S) (brF xs LL) (p + 1)))), some (.int (nI p)), some (.int 1)]) rfl ?_
                        refine S_aload C dL_rights_702 rfl ?_
                        refine S_iload C dL_rights_704 rfl ?_
                        refine S_aload C dL_rights_706 rfl ?_
                        refine S_iload C dL_rights_708 rfl ?_
                        refine S_zald C 0 rfl p (by omega) (by omega) rfl dL_rights_710 ?_
                        refine S_topi (w := (bI (hG rk (min N S) p))) hE_at ?_
                        refine S_if_eq C 723 dL_rights_711 (by decide) (fun _ => ?_) (fun h => absurd (by rw [hh]; rfl) h)
                        refine S_iconst (v := 0) C dL_rights_723 (by decide) ?_
                        refine S_zast C (Or.inl rfl) 0 rfl p (by omega) (by omega) rfl (ar' := [(q355, 1, N, (hE rk (min N S) (brF xs LL) (p + 1))), (q92, 0, N, (bdA xs LL N))]) (congrArg (fun g => [(q355, 1, N, g), (q92, 0, N, bdA xs LL N)]) (hE_s (by rw [hh, hbr]; rfl))) dL_rights_724 ?_
                        refine S_iinc (v := (nI (p + 1))) C dL_rights_725 rfl (nI_1 _) (by decide) (lv' := [some (.ref bA), some (.ref (x.2.1 0)), some (.int (nI S)), some (.int (nI N)), some (.ref q92), some (.int (nI (min N S))), some (.ref q355), some (.int (nI (ocF rk (min N S) (brF xs LL) (p + 1)))), some (.int (nI (rcF (bdn xs LL) rk (min N S) (brF xs LL) (p + 1)))), some (.int (nI (p + 1))), some (.int 1)]) rfl ?_
                        refine S_goto C 443 dL_rights_728 (by decide) ?_
                        refine S_forget (lvLe.same (lvLe.same (lvLe.same (lvLe.same (lvLe.same (lvLe.same (lvLe.same (lvLe.same (lvLe.same (lvLe.same (lvLe.drop lvLe.nil))))))))))) ?_
                        exact S_cs (k := 358 + 20 * (p + 1)) (n := 3021 + 103 * (p + 1)) (by omega) (by omega) (ih443 (p + 1) _ (by omega) (hd.wr h446 hbr) (by omega))
                    · have hh : hG rk (min N S) p = true := bI_n0.mp h476
                      refine S_iconst (v := 0) C dL_rights_479 (by decide) ?_
                      refine S_goto C 485 dL_rights_480 (by decide) ?_
                      refine S_icmp_ne C 585 dL_rights_485 (by decide) (fun h => absurd (by rw [hh]; rfl) h) (fun _ => ?_)
                      refine S_aload_n C dL_rights_488 rfl ?_
                      refine S_bipush (v := 112) C dL_rights_489 (by decide) ?_
                      refine S_iconst (v := 1) C dL_rights_491 (by decide) ?_
                      refine S_newa C (at0 := .int) (c0 := 0) (ty := .int) (N := 1) rfl rfl (fun h => h) (fun cA => rfl) (by decide) (by decide) (by decide) (by show _ ≤ 3000; omega) (by show _ ≤ 30000; omega) dL_rights_492 (fun q492 => ?_)
                      refine S_dup C dL_rights_494 rfl ?_
                      refine S_iconst (v := 0) C dL_rights_495 (by decide) ?_
                      refine S_iload C dL_rights_496 rfl ?_
                      refine S_iast C 0 rfl 0 (by decide) (by decide) rfl (ar' := [(q492, 0, 1, (upd (fun _ => 0) 0 (nI p))), (q355, 1, N, (hE rk (min N S) (brF xs LL) p)), (q92, 0, N, (bdA xs LL N))]) rfl dL_rights_498 ?_
                      refine S_askN C (k_points hfl hd.1 (n := 1) (g := (upd (fun _ => 0) 0 (nI p))) (by decide) (by decide)) hw_L_ask mk_L_153 ⟨by decide, by decide⟩ (Nat.le_of_ble_eq_true rfl) ⟨(by show _ ≤ 3000; omega), (by show _ ≤ 30000; omega)⟩ dL_rights_499 (ans_points hd.2.1 h446 (by omega)).1 (v := (PT1 N (bdn xs LL) (hG rk (min N S)) p)) (ans_points hd.2.1 h446 (by omega)).2 rfl ?_
                      refine S_bipush (v := 100) C dL_rights_502 (by decide) ?_
                      refine S_aload C dL_rights_504 rfl ?_
                      refine S_iload C dL_rights_506 rfl ?_
                      refine S_zald C 0 rfl p (by omega) (by omega) rfl dL_rights_508 ?_
                      refine S_topi (w := (bI (hG rk (min N S) p))) hE_at ?_
                      refine S_if_eq C 520 dL_rights_509 (by decide) (fun h => absurd h (by rw [hh]; decide)) (fun _ => ?_)
                      refine S_aload C dL_rights_512 rfl ?_
                      refine S_iload C dL_rights_514 rfl ?_
                      refine S_iald C 1 rfl p (by omega) (by omega) rfl dL_rights_516 ?_
                      refine S_topi (w := (nI (bdn xs LL p))) (bdA_at (by omega)) ?_
                      refine S_goto C 521 dL_rights_517 (by decide) ?_
                      refine S_isub C dL_rights_521 ?_
                      refine S_icmp_ne C 585 dL_rights_522 (by decide) (fun h => absurd (PT1_t h446 hh) h) (fun _ => ?_)
                      refine S_aload_n C dL_rights_525 rfl ?_
                      refine S_bipush (v := 110) C dL_rights_526 (by decide) ?_
                      refine S_iconst (v := 2) C dL_rights_528 (by decide) ?_
                      refine S_newa C (at0 := .int) (c0 := 0) (ty := .int) (N := 2) rfl rfl (fun h => h) (fun cA => rfl) (by decide) (by decide) (by decide) (by show _ ≤ 3000; omega) (by show _ ≤ 30000; omega) dL_rights_529 (fun q529 => ?_)
                      refine S_dup C dL_rights_531 rfl ?_
                      refine S_iconst (v := 0) C dL_rights_532 (by decide) ?_
                      refine S_iload C dL_rights_533 rfl ?_
                      refine S_iast C 0 rfl 0 (by decide) (by decide) rfl (ar' := [(q529, 0, 2, (upd (fun _ => 0) 0 (nI p))), (q355, 1, N, (hE rk (min N S) (brF xs LL) p)), (q92, 0, N, (bdA xs LL N))]) rfl dL_rights_535 ?_
                      refine S_dup C dL_rights_536 rfl ?_
                      refine S_iconst (v := 1) C dL_rights_537 (by decide) ?_
                      refine S_iconst (v := 2) C dL_rights_538 (by decide) ?_
                      refine S_iast C 0 rfl 1 (by decide) (by decide) rfl (ar' := [(q529, 0, 2, (upd (upd (fun _ => 0) 0 (nI p)) 1 2)), (q355, 1, N, (hE rk (min N S) (brF xs LL) p)), (q92, 0, N, (bdA xs LL N))]) rfl dL_rights_539 ?_
                      refine S_ask C (k_more hfl hd.1 (n := 2) (g := (upd (upd (fun _ => 0) 0 (nI p)) 1 2)) (by decide) (by decide)) hw_L_ask mk_L_153 ⟨by decide, by decide⟩ (Nat.le_of_ble_eq_true rfl) ⟨(by show _ ≤ 3000; omega), (by show _ ≤ 30000; omega)⟩ dL_rights_540 (v := (if hG rk (min N S) p = true then mxp N p else -2000000005)) (ans_more hd.2.1 hbd h446 (by omega)) (a2 := d) (ite_self _) ?_
                      refine S_aload C dL_rights_543 rfl ?_
                      refine S_iload C dL_rights_545 rfl ?_
                      refine S_zald C 0 rfl p (by omega) (by omega) rfl dL_rights_547 ?_
                      refine S_topi (w := (bI (hG rk (min N S) p))) hE_at ?_
                      refine S_if_eq C 556 dL_rights_548 (by decide) (fun h => absurd h (by rw [hh]; decide)) (fun _ => ?_)
                      refine S_iload C dL_rights_551 rfl ?_
                      refine S_goto C 558 dL_rights_553 (by decide) ?_
                      refine S_icmp_ne C 585 dL_rights_558 (by decide) (fun h => absurd (by rw [hh]; exact if_pos h446) h) (fun _ => ?_)
                      refine S_aload_n C dL_rights_561 rfl ?_
                      refine S_bipush (v := 110) C dL_rights_562 (by decide) ?_
                      refine S_iconst (v := 2) C dL_rights_564 (by decide) ?_
                      refine S_newa C (at0 := .int) (c0 := 0) (ty := .int) (N := 2) rfl rfl (fun h => h) (fun cA => rfl) (by decide) (by decide) (by decide) (by show _ ≤ 3000; omega) (by show _ ≤ 30000; omega) dL_rights_565 (fun q565 => ?_)
                      refine S_dup C dL_rights_567 rfl ?_
                      refine S_iconst (v := 0) C dL_rights_568 (by decide) ?_
                      refine S_iload C dL_rights_569 rfl ?_
                      refine S_iast C 0 rfl 0 (by decide) (by decide) rfl (ar' := [(q565, 0, 2, (upd (fun _ => 0) 0 (nI p))), (q355, 1, N, (hE rk (min N S) (brF xs LL) p)), (q92, 0, N, (bdA xs LL N))]) rfl dL_rights_571 ?_
                      refine S_dup C dL_rights_572 rfl ?_
                      refine S_iconst (v := 1) C dL_rights_573 (by decide) ?_
                      refine S_bipush (v := 6) C dL_rights_574 (by decide) ?_
                      refine S_iast C 0 rfl 1 (by decide) (by decide) rfl (ar' := [(q565, 0, 2, (upd (upd (fun _ => 0) 0 (nI p)) 1 6)), (q355, 1, N, (hE rk (min N S) (brF xs LL) p)), (q92, 0, N, (bdA xs LL N))]) rfl dL_rights_576 ?_
                      refine S_askX C (k_more hfl hd.1 (n := 2) (g := (upd (upd (fun _ => 0) 0 (nI p)) 1 6)) (by decide) (by decide)) hw_L_ask mk_L_153 ⟨by decide, by decide⟩ (Nat.le_of_ble_eq_true rfl) ⟨(by show _ ≤ 3000; omega), (by show _ ≤ 30000; omega)⟩ dL_rights_577 (v := (-2000000002)) (ans_more6 hd.2.1 h446 (by omega)) (by decide) ?_
                      refine S_ldc (v := (-2000000002)) C kc_L_112 dL_rights_580 ?_
                      refine S_icmp_eq C 587 dL_rights_582 (by decide) (fun _ => ?_) (fun h => absurd rfl h)
                      refine S_aload_n C dL_rights_587 rfl ?_
                      refine S_bipush (v := (nI 20)) C dL_rights_588 (by decide) ?_
                      refine S_iload C dL_rights_590 rfl ?_
                      refine S_iadd C dL_rights_592 ?_
                      refine S_topi (w := (nI (20 + p))) (nI_add 20 p) ?_
                      refine S_at C hX hbl hbA hL2 (by omega) mi_L_at mk_L_169 ⟨by decide, by decide⟩ (Nat.le_of_ble_eq_true rfl) ⟨(by show _ ≤ 3000; omega), (by show _ ≤ 30000; omega)⟩ dL_rights_593 ?_
                      refine S_iconst (v := (nI 3)) C dL_rights_596 (by decide) ?_
                      refine S_some C (by decide) mi_L_some mk_L_172 ⟨by decide, by decide⟩ (Nat.le_of_ble_eq_true rfl) ⟨(by show _ ≤ 3000; omega), (by show _ ≤ 30000; omega)⟩ dL_rights_597 ?_
                      refine S_if_ne C 607 dL_rights_600 (by decide) (fun h600 => ?_) (fun h600 => ?_)
                      · have hbr : brF xs LL p = false := decide_eq_false h600
                        refine S_iconst (v := 0) C dL_rights_607 (by decide) ?_
                        refine S_istore C dL_rights_608 (by decide) (lv' := [some (.ref bA), some (.ref (x.2.1 0)), some (.int (nI S)), some (.int (nI N)), some (.ref q92), some (.int (nI (min N S))), some (.ref q355), some (.int (nI (ocF rk (min N S) (brF xs LL) p))), some (.int (nI (rcF (bdn xs LL) rk (min N S) (brF xs LL) p))), some (.int (nI p)), some (.int 0)]) rfl ?_
                        refine S_iload C dL_rights_610 rfl ?_
                        refine S_if_eq C 652 dL_rights_612 (by decide) (fun _ => ?_) (fun h => absurd rfl h)
                        refine S_iload C dL_rights_652 rfl ?_
                        refine S_aload C dL_rights_654 rfl ?_
                        refine S_iload C dL_rights_656 rfl ?_
                        refine S_zald C 0 rfl p (by omega) (by omega) rfl dL_rights_658 ?_
                        refine S_topi (w := (bI (hG rk (min N S) p))) hE_at ?_
                        refine S_if_eq C 671 dL_rights_659 (by decide) (fun h => absurd h (by rw [hh]; decide)) (fun _ => ?_)
                        refine S_iload C dL_rights_662 rfl ?_
                        refine S_if_eq C 671 dL_rights_664 (by decide) (fun _ => ?_) (fun h => absurd rfl h)
                        refine S_iconst (v := 0) C dL_rights_671 (by decide) ?_
                        refine S_iadd C dL_rights_672 ?_
                        refine S_topi (w := (nI (ocF rk (min N S) (brF xs LL) (p + 1)))) (oc_0 (by rw [hh, hbr]; rfl)) ?_
                        refine S_istore C dL_rights_673 (by decide) (lv' := [some (.ref bA), some (.ref (x.2.1 0)), some (.int (nI S)), some (.int (nI N)), some (.ref q92), some (.int (nI (min N S))), some (.ref q355), some (.int (nI (ocF rk (min N S) (brF xs LL) (p + 1)))), some (.int (nI (rcF (bdn xs LL) rk (min N S) (brF xs LL) p))), some (.int (nI p)), some (.int 0)]) rfl ?_
                        refine S_iload C dL_rights_675 rfl ?_
                        refine S_aload C dL_rights_677 rfl ?_
                        refine S_iload C dL_rights_679 rfl ?_
                        refine S_zald C 0 rfl p (by omega) (by omega) rfl dL_rights_681 ?_
                        refine S_topi (w := (bI (hG rk (min N S) p))) hE_at ?_
                        refine S_if_eq C 698 dL_rights_682 (by decide) (fun h => absurd h (by rw [hh]; decide)) (fun _ => ?_)
                        refine S_iload C dL_rights_685 rfl ?_
                        refine S_if_eq C 698 dL_rights_687 (by decide) (fun _ => ?_) (fun h => absurd rfl h)
                        refine S_iconst (v := 0) C dL_rights_698 (by decide) ?_
                        refine S_iadd C dL_rights_699 ?_
                        refine S_topi (w := (nI (rcF (bdn xs LL) rk (min N S) (brF xs LL) (p + 1)))) (rc_0 (by rw [hh, hbr]; rfl)) ?_
                        refine S_istore C dL_rights_700 (by decide) (lv' := [some (.ref bA), some (.ref (x.2.1 0)), some (.int (nI S)), some (.int (nI N)), some (.ref q92), some (.int (nI (min N S))), some (.ref q355), some (.int (nI (ocF rk (min N S) (brF xs LL) (p + 1)))), some (.int (nI (rcF (bdn xs LL) rk (min N S) (brF xs LL) (p + 1)))), some (.int (nI p)), some (.int 0)]) rfl ?_
                        refine S_aload C dL_rights_702 rfl ?_
                        refine S_iload C dL_rights_704 rfl ?_
                        refine S_aload C dL_rights_706 rfl ?_
                        refine S_iload C dL_rights_708 rfl ?_
                        refine S_zald C 0 rfl p (by omega) (by omega) rfl dL_rights_710 ?_
                        refine S_topi (w := (bI (hG rk (min N S) p))) hE_at ?_
                        refine S_if_eq C 723 dL_rights_711 (by decide) (fun h => absurd h (by rw [hh]; decide)) (fun _ => ?_)
                        refine S_iload C dL_rights_714 rfl ?_
                        refine S_if_ne C 723 dL_rights_716 (by decide) (fun h => absurd rfl h) (fun _ => ?_)
                        refine S_iconst (v := 1) C dL_rights_719 (by decide) ?_
                        refine S_goto C 724 dL_rights_720 (by decide) ?_
                        refine S_zast C (Or.inr rfl) 0 rfl p (by omega) (by omega) rfl (ar' := [(q355, 1, N, (hE rk (min N S) (brF xs LL) (p + 1))), (q92, 0, N, (bdA xs LL N))]) (congrArg (fun g => [(q355, 1, N, g), (q92, 0, N, bdA xs LL N)]) (hE_s (by rw [hh, hbr]; rfl))) dL_rights_724 ?_
                        refine S_iinc (v := (nI (p + 1))) C dL_rights_725 rfl (nI_1 _) (by decide) (lv' := [some (.ref bA), some (.ref (x.2.1 0)), some (.int (nI S)), some (.int (nI N)), some (.ref q92), some (.int (nI (min N S))), some (.ref q355), some (.int (nI (ocF rk (min N S) (brF xs LL) (p + 1)))), some (.int (nI (rcF (bdn xs LL) rk (min N S) (brF xs LL) (p + 1)))), some (.int (nI (p + 1))), some (.int 0)]) rfl ?_
                        refine S_goto C 443 dL_rights_728 (by decide) ?_
                        refine S_forget (lvLe.same (lvLe.same (lvLe.same (lvLe.same (lvLe.same (lvLe.same (lvLe.same (lvLe.same (lvLe.same (lvLe.same (lvLe.drop lvLe.nil))))))))))) ?_
                        exact S_cs (k := 358 + 20 * (p + 1)) (n := 3021 + 103 * (p + 1)) (by omega) (by omega) (ih443 (p + 1) _ (by omega) (hd.no hbr) (by omega))
                      · have hbr : brF xs LL p = true := decide_eq_true (by simpa using h600)
                        refine S_iconst (v := 1) C dL_rights_603 (by decide) ?_
                        refine S_goto C 608 dL_rights_604 (by decide) ?_
                        refine S_istore C dL_rights_608 (by decide) (lv' := [some (.ref bA), some (.ref (x.2.1 0)), some (.int (nI S)), some (.int (nI N)), some (.ref q92), some (.int (nI (min N S))), some (.ref q355), some (.int (nI (ocF rk (min N S) (brF xs LL) p))), some (.int (nI (rcF (bdn xs LL) rk (min N S) (brF xs LL) p))), some (.int (nI p)), some (.int 1)]) rfl ?_
                        refine S_iload C dL_rights_610 rfl ?_
                        refine S_if_eq C 652 dL_rights_612 (by decide) (fun h => absurd h (by decide)) (fun _ => ?_)
                        refine S_aload_n C dL_rights_615 rfl ?_
                        refine S_bipush (v := 120) C dL_rights_616 (by decide) ?_
                        refine S_iconst (v := 5) C dL_rights_618 (by decide) ?_
                        refine S_newa C (at0 := .int) (c0 := 0) (ty := .int) (N := 5) rfl rfl (fun h => h) (fun cA => rfl) (by decide) (by decide) (by decide) (by show _ ≤ 3000; omega) (by show _ ≤ 30000; omega) dL_rights_619 (fun q619 => ?_)
                        refine S_dup C dL_rights_621 rfl ?_
                        refine S_iconst (v := 0) C dL_rights_622 (by decide) ?_
                        refine S_iconst (v := (nI 1)) C dL_rights_623 (by decide) ?_
                        refine S_iast C 0 rfl 0 (by decide) (by decide) rfl (ar' := [(q619, 0, 5, (upd (fun _ => 0) 0 (nI 1))), (q355, 1, N, (hE rk (min N S) (brF xs LL) p)), (q92, 0, N, (bdA xs LL N))]) rfl dL_rights_624 ?_
                        refine S_dup C dL_rights_625 rfl ?_
                        refine S_iconst (v := 1) C dL_rights_626 (by decide) ?_
                        refine S_iload C dL_rights_627 rfl ?_
                        refine S_iast C 0 rfl 1 (by decide) (by decide) rfl (ar' := [(q619, 0, 5, (upd (upd (fun _ => 0) 0 (nI 1)) 1 (nI p))), (q355, 1, N, (hE rk (min N S) (brF xs LL) p)), (q92, 0, N, (bdA xs LL N))]) rfl dL_rights_629 ?_
                        refine S_dup C dL_rights_630 rfl ?_
                        refine S_iconst (v := 2) C dL_rights_631 (by decide) ?_
                        refine S_iconst (v := 0) C dL_rights_632 (by decide) ?_
                        refine S_iast C 0 rfl 2 (by decide) (by decide) rfl (ar' := [(q619, 0, 5, (upd (upd (upd (fun _ => 0) 0 (nI 1)) 1 (nI p)) 2 0)), (q355, 1, N, (hE rk (min N S) (brF xs LL) p)), (q92, 0, N, (bdA xs LL N))]) rfl dL_rights_633 ?_
                        refine S_dup C dL_rights_634 rfl ?_
                        refine S_iconst (v := 3) C dL_rights_635 (by decide) ?_
                        refine S_bipush (v := 114) C dL_rights_636 (by decide) ?_
                        refine S_iast C 0 rfl 3 (by decide) (by decide) rfl (ar' := [(q619, 0, 5, (upd (upd (upd (upd (fun _ => 0) 0 (nI 1)) 1 (nI p)) 2 0) 3 114)), (q355, 1, N, (hE rk (min N S) (brF xs LL) p)), (q92, 0, N, (bdA xs LL N))]) rfl dL_rights_638 ?_
                        refine S_dup C dL_rights_639 rfl ?_
                        refine S_iconst (v := 4) C dL_rights_640 (by decide) ?_
                        refine S_iconst (v := 0) C dL_rights_641 (by decide) ?_
                        refine S_iast C 0 rfl 4 (by decide) (by decide) rfl (ar' := [(q619, 0, 5, (upd (upd (upd (upd (upd (fun _ => 0) 0 (nI 1)) 1 (nI p)) 2 0) 3 114) 4 0)), (q355, 1, N, (hE rk (min N S) (brF xs LL) p)), (q92, 0, N, (bdA xs LL N))]) rfl dL_rights_642 ?_
                        refine S_askN C (k_write hfl hd.1 (n := 5) (g := (upd (upd (upd (upd (upd (fun _ => 0) 0 (nI 1)) 1 (nI p)) 2 0) 3 114) 4 0)) (by decide) (by decide) (f3 := 114) (by show ((114 : Int32).toUInt32 % 65536).toInt32 = 114; decide)) hw_L_ask mk_L_153 ⟨by decide, by decide⟩ (Nat.le_of_ble_eq_true rfl) ⟨(by show _ ≤ 3000; omega), (by show _ ≤ 30000; omega)⟩ dL_rights_643 (ans_wr (s := 1) hd.2.1 h446 (by omega) (by decide) (Or.inl rfl)).1 (v := 1) ((ans_wr (s := 1) hd.2.1 h446 (by omega) (by decide) (v := 0) (Or.inl rfl)).2.1.trans ((rgE_w h446).trans (if_neg (fun z => absurd z.1 (Nat.lt_irrefl p))))) (a2 := (up2 d 6 (p * 6) 0)) (ans_wr (s := 1) hd.2.1 h446 (by omega) (by decide) (Or.inl rfl)).2.2 ?_
                        refine S_iconst (v := 1) C dL_rights_646 (by decide) ?_
                        refine S_icmp_eq C 652 dL_rights_647 (by decide) (fun _ => ?_) (fun h => absurd rfl h)
                        refine S_iload C dL_rights_652 rfl ?_
                        refine S_aload C dL_rights_654 rfl ?_
                        refine S_iload C dL_rights_656 rfl ?_
                        refine S_zald C 0 rfl p (by omega) (by omega) rfl dL_rights_658 ?_
                        refine S_topi (w := (bI (hG rk (min N S) p))) hE_at ?_
                        refine S_if_eq C 671 dL_rights_659 (by decide) (fun h => absurd h (by rw [hh]; decide)) (fun _ => ?_)
                        refine S_iload C dL_rights_662 rfl ?_
                        refine S_if_eq C 671 dL_rights_664 (by decide) (fun h => absurd h (by decide)) (fun _ => ?_)
                        refine S_iconst (v := 1) C dL_rights_667 (by decide) ?_
                        refine S_goto C 672 dL_rights_668 (by decide) ?_
                        refine S_iadd C dL_rights_672 ?_
                        refine S_topi (w := (nI (ocF rk (min N S) (brF xs LL) (p + 1)))) (oc_1 hh hbr) ?_
                        refine S_istore C dL_rights_673 (by decide) (lv' := [some (.ref bA), some (.ref (x.2.1 0)), some (.int (nI S)), some (.int (nI N)), some (.ref q92), some (.int (nI (min N S))), some (.ref q355), some (.int (nI (ocF rk (min N S) (brF xs LL) (p + 1)))), some (.int (nI (rcF (bdn xs LL) rk (min N S) (brF xs LL) p))), some (.int (nI p)), some (.int 1)]) rfl ?_
                        refine S_iload C dL_rights_675 rfl ?_
                        refine S_aload C dL_rights_677 rfl ?_
                        refine S_iload C dL_rights_679 rfl ?_
                        refine S_zald C 0 rfl p (by omega) (by omega) rfl dL_rights_681 ?_
                        refine S_topi (w := (bI (hG rk (min N S) p))) hE_at ?_
                        refine S_if_eq C 698 dL_rights_682 (by decide) (fun h => absurd h (by rw [hh]; decide)) (fun _ => ?_)
                        refine S_iload C dL_rights_685 rfl ?_
                        refine S_if_eq C 698 dL_rights_687 (by decide) (fun h => absurd h (by decide)) (fun _ => ?_)
                        refine S_aload C dL_rights_690 rfl ?_
                        refine S_iload C dL_rights_692 rfl ?_
                        refine S_iald C 1 rfl p (by omega) (by omega) rfl dL_rights_694 ?_
                        refine S_topi (w := (nI (bdn xs LL p))) (bdA_at (by omega)) ?_
                        refine S_goto C 699 dL_rights_695 (by decide) ?_
                        refine S_iadd C dL_rights_699 ?_
                        refine S_topi (w := (nI (rcF (bdn xs LL) rk (min N S) (brF xs LL) (p + 1)))) (rc_1 hh hbr) ?_
                        refine S_istore C dL_rights_700 (by decide) (lv' := [some (.ref bA), some (.ref (x.2.1 0)), some (.int (nI S)), some (.int (nI N)), some (.ref q92), some (.int (nI (min N S))), some (.ref q355), some (.int (nI (ocF rk (min N S) (brF xs LL) (p + 1)))), some (.int (nI (rcF (bdn xs LL) rk (min N S) (brF xs LL) (p + 1)))), some (.int (nI p)), some (.int 1)]) rfl ?_
                        refine S_aload C dL_rights_702 rfl ?_
                        refine S_iload C dL_rights_704 rfl ?_
                        refine S_aload C dL_rights_706 rfl ?_
                        refine S_iload C dL_rights_708 rfl ?_
                        refine S_zald C 0 rfl p (by omega) (by omega) rfl dL_rights_710 ?_
                        refine S_topi (w := (bI (hG rk (min N S) p))) hE_at ?_
                        refine S_if_eq C 723 dL_rights_711 (by decide) (fun h => absurd h (by rw [hh]; decide)) (fun _ => ?_)
                        refine S_iload C dL_rights_714 rfl ?_
                        refine S_if_ne C 723 dL_rights_716 (by decide) (fun _ => ?_) (fun h => absurd h (by decide))
                        refine S_iconst (v := 0) C dL_rights_723 (by decide) ?_
                        refine S_zast C (Or.inl rfl) 0 rfl p (by omega) (by omega) rfl (ar' := [(q355, 1, N, (hE rk (min N S) (brF xs LL) (p + 1))), (q92, 0, N, (bdA xs LL N))]) (congrArg (fun g => [(q355, 1, N, g), (q92, 0, N, bdA xs LL N)]) (hE_s (by rw [hh, hbr]; rfl))) dL_rights_724 ?_
                        refine S_iinc (v := (nI (p + 1))) C dL_rights_725 rfl (nI_1 _) (by decide) (lv' := [some (.ref bA), some (.ref (x.2.1 0)), some (.int (nI S)), some (.int (nI N)), some (.ref q92), some (.int (nI (min N S))), some (.ref q355), some (.int (nI (ocF rk (min N S) (brF xs LL) (p + 1)))), some (.int (nI (rcF (bdn xs LL) rk (min N S) (brF xs LL) (p + 1)))), some (.int (nI (p + 1))), some (.int 1)]) rfl ?_
                        refine S_goto C 443 dL_rights_728 (by decide) ?_
                        refine S_forget (lvLe.same (lvLe.same (lvLe.same (lvLe.same (lvLe.same (lvLe.same (lvLe.same (lvLe.same (lvLe.same (lvLe.same (lvLe.drop lvLe.nil))))))))))) ?_
                        exact S_cs (k := 358 + 20 * (p + 1)) (n := 3021 + 103 * (p + 1)) (by omega) (by omega) (ih443 (p + 1) _ (by omega) (hd.wr h446 hbr) (by omega))
              refine S_rows (congrArg (fun g => [(q355, 1, N, g), (q92, 0, N, bdA xs LL N)]) (hE_0 (br := brF xs LL))) ?_
              exact S_cs (k := 358 + 20 * 0) (n := 3021 + 103 * 0) (by omega) (by omega) (L443 _ 0 c (Nat.zero_le _) E0 (Nat.lt_succ_self _))
            · refine S_iconst (v := (-1)) C dL_rights_369 (by decide) ?_
              refine S_istore C dL_rights_370 (by decide) (lv' := [some (.ref bA), some (.ref (x.2.1 0)), some (.int (nI S)), some (.int (nI N)), some (.ref q92), some (.int (nI (min N S))), some (.ref q355), some (.int (nI k)), some (.int (-1)), none, none]) rfl ?_
              refine S_iconst (v := 0) C dL_rights_372 (by decide) ?_
              refine S_istore C dL_rights_373 (by decide) (lv' := [some (.ref bA), some (.ref (x.2.1 0)), some (.int (nI S)), some (.int (nI N)), some (.ref q92), some (.int (nI (min N S))), some (.ref q355), some (.int (nI k)), some (.int (-1)), some (.int 0), none]) rfl ?_
              have L375 : ∀ (fuel : Nat) (j : Nat) (v : Int32), j ≤ N → BST rk (bdn xs LL) k j v → N - j < fuel → SS pP l eE ({ frames := 13, cells := 3000, slots := 30000, locals := 700 } : Room) sS mM argsA belowB methM cC (MQ belowB (Q1 sS.heap.size) argsA sS 3000 30000 (fun q => sS.heap.size ≤ q)) x 11 c [(q355, 1, N, (hK rk k)), (q92, 0, N, (bdA xs LL N))] 358 3021 375 [some (.ref bA), some (.ref (x.2.1 0)), some (.int (nI S)), some (.int (nI N)), some (.ref q92), some (.int (nI (min N S))), some (.ref q355), some (.int (nI k)), some (.int v), some (.int (nI j)), none] [] := by
                intro fuel
                induction fuel with
                | zero => intro j v hj hv hm; exact absurd hm (Nat.not_lt_zero _)
                | succ fuel ih375 =>
                  intro j v hj hv hm
                  refine S_iload C dL_rights_375 rfl ?_
                  refine S_iload_n C dL_rights_377 rfl ?_
                  refine S_lt C 422 dL_rights_378 (by decide) (by omega) (by omega) (fun h378 => ?_) (fun h378 => ?_)
                  · have ej : j = N := by omega
                    rw [ej] at hv
                    have ev := hv.end R (by omega)
                    subst ev
                    refine S_aload C dL_rights_422 rfl ?_
                    refine S_iload C dL_rights_424 rfl ?_
                    refine S_iconst (v := 1) C dL_rights_426 (by decide) ?_
                    refine S_zast C (Or.inr rfl) 0 rfl (ord k) (R.2.1 k (by omega)).2.2.2.1 (by omega) rfl (ar' := [(q355, 1, N, (hK rk (k + 1))), (q92, 0, N, (bdA xs LL N))]) (congrArg (fun g => [(q355, 1, N, g), (q92, 0, N, bdA xs LL N)]) (hK_s R (by omega))) dL_rights_427 ?_
                    refine S_iinc (v := (nI (k + 1))) C dL_rights_428 rfl (nI_1 _) (by decide) (lv' := [some (.ref bA), some (.ref (x.2.1 0)), some (.int (nI S)), some (.int (nI N)), some (.ref q92), some (.int (nI (min N S))), some (.ref q355), some (.int (nI (k + 1))), some (.int (nI (ord k))), some (.int (nI j)), none]) rfl ?_
                    refine S_goto C 362 dL_rights_431 (by decide) ?_
                    refine S_forget (lvLe.same (lvLe.same (lvLe.same (lvLe.same (lvLe.same (lvLe.same (lvLe.same (lvLe.same (lvLe.drop (lvLe.drop (lvLe.same lvLe.nil))))))))))) ?_
                    exact ih362 (k + 1) (by omega) (by omega)
                  · refine S_aload C dL_rights_381 rfl ?_
                    refine S_iload C dL_rights_383 rfl ?_
                    refine S_zald C 0 rfl j (by omega) (by omega) rfl dL_rights_385 ?_
                    refine S_if_ne C 412 dL_rights_386 (by decide) (fun h386 => ?_) (fun h386 => ?_)
                    · have hh : rk j < k := of_decide_eq_true (bI_n0.mp h386)
                      refine S_iload C dL_rights_412 rfl ?_
                      refine S_istore C dL_rights_414 (by decide) (lv' := [some (.ref bA), some (.ref (x.2.1 0)), some (.int (nI S)), some (.int (nI N)), some (.ref q92), some (.int (nI (min N S))), some (.ref q355), some (.int (nI k)), some (.int v), some (.int (nI j)), none]) rfl ?_
                      refine S_iinc (v := (nI (j + 1))) C dL_rights_416 rfl (nI_1 _) (by decide) (lv' := [some (.ref bA), some (.ref (x.2.1 0)), some (.int (nI S)), some (.int (nI N)), some (.ref q92), some (.int (nI (min N S))), some (.ref q355), some (.int (nI k)), some (.int v), some (.int (nI (j + 1))), none]) rfl ?_
                      refine S_goto C 375 dL_rights_419 (by decide) ?_
                      exact ih375 (j + 1) v (by omega) (hv.skip hh) (by omega)
                    · have h386 : hK rk k j = 0 := by simpa using h386
                      have hh : ¬ rk j < k := of_decide_eq_false (bI_0.mp h386)
                      refine S_iload C dL_rights_389 rfl ?_
                      refine S_if_lt C 407 dL_rights_391 (by decide) (fun h391 => ?_) (fun h391 => ?_)
                      · refine S_iload C dL_rights_407 rfl ?_
                        refine S_goto C 414 dL_rights_409 (by decide) ?_
                        refine S_istore C dL_rights_414 (by decide) (lv' := [some (.ref bA), some (.ref (x.2.1 0)), some (.int (nI S)), some (.int (nI N)), some (.ref q92), some (.int (nI (min N S))), some (.ref q355), some (.int (nI k)), some (.int (nI j)), some (.int (nI j)), none]) rfl ?_
                        refine S_iinc (v := (nI (j + 1))) C dL_rights_416 rfl (nI_1 _) (by decide) (lv' := [some (.ref bA), some (.ref (x.2.1 0)), some (.int (nI S)), some (.int (nI N)), some (.ref q92), some (.int (nI (min N S))), some (.ref q355), some (.int (nI k)), some (.int (nI j)), some (.int (nI (j + 1))), none]) rfl ?_
                        refine S_goto C 375 dL_rights_419 (by decide) ?_
                        exact ih375 (j + 1) (nI j) (by omega) (hv.first hh h391 (by omega)) (by omega)
                      · have h391 : ¬ v < 0 := by simpa using h391
                        obtain ⟨bb, eb, hbj⟩ := hv.nn h391
                        subst eb
                        refine S_aload C dL_rights_394 rfl ?_
                        refine S_iload C dL_rights_396 rfl ?_
                        refine S_iald C 1 rfl j (by omega) (by omega) rfl dL_rights_398 ?_
                        refine S_topi (w := (nI (bdn xs LL j))) (bdA_at (by omega)) ?_
                        refine S_aload C dL_rights_399 rfl ?_
                        refine S_iload C dL_rights_401 rfl ?_
                        refine S_iald C 1 rfl bb (by omega) (by omega) rfl dL_rights_403 ?_
                        refine S_topi (w := (nI (bdn xs LL bb))) (bdA_at (by omega)) ?_
                        refine S_icmp_le C 412 dL_rights_404 (by decide) (fun h404 => ?_) (fun h404 => ?_)
                        · have b1 := bd_all xs LL j
                          have b2 := bd_all xs LL bb
                          have hg : bdn xs LL j ≤ bdn xs LL bb := (nI_leI (by omega) (by omega)).mp h404
                          refine S_iload C dL_rights_412 rfl ?_
                          refine S_istore C dL_rights_414 (by decide) (lv' := [some (.ref bA), some (.ref (x.2.1 0)), some (.int (nI S)), some (.int (nI N)), some (.ref q92), some (.int (nI (min N S))), some (.ref q355), some (.int (nI k)), some (.int (nI bb)), some (.int (nI j)), none]) rfl ?_
                          refine S_iinc (v := (nI (j + 1))) C dL_rights_416 rfl (nI_1 _) (by decide) (lv' := [some (.ref bA), some (.ref (x.2.1 0)), some (.int (nI S)), some (.int (nI N)), some (.ref q92), some (.int (nI (min N S))), some (.ref q355), some (.int (nI k)), some (.int (nI bb)), some (.int (nI (j + 1))), none]) rfl ?_
                          refine S_goto C 375 dL_rights_419 (by decide) ?_
                          exact ih375 (j + 1) (nI bb) (by omega) (hv.less (by omega) (by omega) hg) (by omega)
                        · have b1 := bd_all xs LL j
                          have b2 := bd_all xs LL bb
                          have hg : bdn xs LL bb < bdn xs LL j := by
                            have := mt (nI_leI (a := bdn xs LL j) (b := bdn xs LL bb) (by omega) (by omega)).mpr (by simpa using h404)
                            omega
                          refine S_iload C dL_rights_407 rfl ?_
                          refine S_goto C 414 dL_rights_409 (by decide) ?_
                          refine S_istore C dL_rights_414 (by decide) (lv' := [some (.ref bA), some (.ref (x.2.1 0)), some (.int (nI S)), some (.int (nI N)), some (.ref q92), some (.int (nI (min N S))), some (.ref q355), some (.int (nI k)), some (.int (nI j)), some (.int (nI j)), none]) rfl ?_
                          refine S_iinc (v := (nI (j + 1))) C dL_rights_416 rfl (nI_1 _) (by decide) (lv' := [some (.ref bA), some (.ref (x.2.1 0)), some (.int (nI S)), some (.int (nI N)), some (.ref q92), some (.int (nI (min N S))), some (.ref q355), some (.int (nI k)), some (.int (nI j)), some (.int (nI (j + 1))), none]) rfl ?_
                          refine S_goto C 375 dL_rights_419 (by decide) ?_
                          exact ih375 (j + 1) (nI j) (by omega) (hv.more (by omega) (by omega) hh hg) (by omega)
              exact L375 _ 0 (-1) (Nat.zero_le _) BST_0 (Nat.lt_succ_self _)
        refine S_rows (congrArg (fun g => [(q355, 1, N, g), (q92, 0, N, bdA xs LL N)]) (hK_0 (rk := rk))) ?_
        exact S_cs (k := 358) (n := 3021) (by omega) (by omega) (L362 _ 0 (Nat.zero_le _) (Nat.lt_succ_self _))
      · refine S_aload C dL_rights_105 rfl ?_
        refine S_iload C dL_rights_107 rfl ?_
        refine S_iconst (v := 1) C dL_rights_109 (by decide) ?_
        refine S_aload_n C dL_rights_110 rfl ?_
        refine S_iconst (v := (nI 2)) C dL_rights_111 (by decide) ?_
        refine S_iload C dL_rights_112 rfl ?_
        refine S_iadd C dL_rights_114 ?_
        refine S_topi (w := (nI (2 + p))) (nI_add 2 p) ?_
        refine S_at C hX hbl hbA hL2 (by omega) mi_L_at mk_L_169 ⟨by decide, by decide⟩ (Nat.le_of_ble_eq_true rfl) ⟨(by show _ ≤ 3000; omega), (by show _ ≤ 30000; omega)⟩ dL_rights_115 ?_
        refine S_bipush (v := (nI 100)) C dL_rights_118 (by decide) ?_
        refine S_some C (by decide) mi_L_some mk_L_172 ⟨by decide, by decide⟩ (Nat.le_of_ble_eq_true rfl) ⟨(by show _ ≤ 3000; omega), (by show _ ≤ 30000; omega)⟩ dL_rights_120 ?_
        refine S_iadd C dL_rights_123 ?_
        refine S_topi (w := (bdv xs LL p)) (show _ = bdv xs LL p from rfl) ?_
        refine S_iast C 0 rfl p (by omega) (by omega) rfl (ar' := [(q92, 0, N, (bdA xs LL (p + 1)))]) (congrArg (fun g => [(q92, 0, N, g)]) bdA_s) dL_rights_124 ?_
        refine S_aload_n C dL_rights_125 rfl ?_
        refine S_bipush (v := 80) C dL_rights_126 (by decide) ?_
        refine S_iconst (v := 0) C dL_rights_128 (by decide) ?_
        refine S_newa C (at0 := .int) (c0 := 0) (ty := .int) (N := 0) rfl rfl (fun h => h) (fun cA => rfl) (by decide) (by decide) (by decide) (by show _ ≤ 3000; omega) (by show _ ≤ 30000; omega) dL_rights_129 (fun q129 => ?_)
        refine S_askN C (k_pupil hfl hb.1 (n := 0) (g := (fun _ => 0)) (by decide)) hw_L_ask mk_L_153 ⟨by decide, by decide⟩ (Nat.le_of_ble_eq_true rfl) ⟨(by show _ ≤ 3000; omega), (by show _ ≤ 30000; omega)⟩ dL_rights_131 (ans_pupil hb.2.1 (by omega)) (v := (nI p)) (congrArg nI (hb.2.1.knP (by omega))) (a2 := (up2 (up2 b 67 p 100) 0 9 (nI (p + 1)))) (kpupil hb.2.1 (by omega)) ?_
        obtain ⟨W1, M1, R1⟩ := hb.pupil (by omega)
        generalize up2 (up2 b 67 p 100) 0 9 (nI (p + 1)) = b1 at W1 M1 R1 ⊢
        refine S_iload C dL_rights_134 rfl ?_
        refine S_icmp_ne C 201 dL_rights_136 (by decide) (fun h => absurd rfl h) (fun _ => ?_)
        refine S_aload_n C dL_rights_139 rfl ?_
        refine S_bipush (v := 98) C dL_rights_140 (by decide) ?_
        refine S_iconst (v := 3) C dL_rights_142 (by decide) ?_
        refine S_newa C (at0 := .int) (c0 := 0) (ty := .int) (N := 3) rfl rfl (fun h => h) (fun cA => rfl) (by decide) (by decide) (by decide) (by show _ ≤ 3000; omega) (by show _ ≤ 30000; omega) dL_rights_143 (fun q143 => ?_)
        refine S_dup C dL_rights_145 rfl ?_
        refine S_iconst (v := 0) C dL_rights_146 (by decide) ?_
        refine S_iload C dL_rights_147 rfl ?_
        refine S_iast C 0 rfl 0 (by decide) (by decide) rfl (ar' := [(q143, 0, 3, (upd (fun _ => 0) 0 (nI p))), (q92, 0, N, (bdA xs LL (p + 1)))]) rfl dL_rights_149 ?_
        refine S_dup C dL_rights_150 rfl ?_
        refine S_iconst (v := 1) C dL_rights_151 (by decide) ?_
        refine S_iconst (v := 0) C dL_rights_152 (by decide) ?_
        refine S_iast C 0 rfl 1 (by decide) (by decide) rfl (ar' := [(q143, 0, 3, (upd (upd (fun _ => 0) 0 (nI p)) 1 0)), (q92, 0, N, (bdA xs LL (p + 1)))]) rfl dL_rights_153 ?_
        refine S_dup C dL_rights_154 rfl ?_
        refine S_iconst (v := 2) C dL_rights_155 (by decide) ?_
        refine S_aload C dL_rights_156 rfl ?_
        refine S_iload C dL_rights_158 rfl ?_
        refine S_iald C 1 rfl p (by omega) (by omega) rfl dL_rights_160 ?_
        refine S_topi (w := (nI (bdn xs LL p))) (bdA_at (by omega)) ?_
        refine S_iast C 0 rfl 2 (by decide) (by decide) rfl (ar' := [(q143, 0, 3, (upd (upd (upd (fun _ => 0) 0 (nI p)) 1 0) 2 (nI (bdn xs LL p)))), (q92, 0, N, (bdA xs LL (p + 1)))]) rfl dL_rights_161 ?_
        obtain ⟨ord1, rk1, R2⟩ := id R1
        have hbd := bd_all xs LL p
        refine S_askN C (k_bid hfl W1 (n := 3) (g := (upd (upd (upd (fun _ => 0) 0 (nI p)) 1 0) 2 (nI (bdn xs LL p)))) (by decide) (by decide)) hw_L_ask mk_L_153 ⟨by decide, by decide⟩ (Nat.le_of_ble_eq_true rfl) ⟨(by show _ ≤ 3000; omega), (by show _ ≤ 30000; omega)⟩ dL_rights_162 (bid_g M1 R2 (by omega) (if_pos (Nat.lt_succ_self p)) hbd.2.1 hbd.2.2) (v := (nI (bdn xs LL p))) (bid_s R2 (by omega)) (a2 := (tellA b1 (nI p) 0 (nI (bdn xs LL p)) p)) (bid_a R2 (by omega)) ?_
        have P2 := PB_bid (bd := bdn xs LL) (by omega) (fun q => by have := bd_all xs LL q; omega) W1 M1 R1
        generalize tellA b1 (nI p) 0 (nI (bdn xs LL p)) p = b2 at P2 ⊢
        refine S_aload C dL_rights_165 rfl ?_
        refine S_iload C dL_rights_167 rfl ?_
        refine S_iald C 0 rfl p (by omega) (by omega) rfl dL_rights_169 ?_
        refine S_topi (w := (nI (bdn xs LL p))) (bdA_at (by omega)) ?_
        refine S_icmp_ne C 201 dL_rights_170 (by decide) (fun h => absurd rfl h) (fun _ => ?_)
        refine S_aload_n C dL_rights_173 rfl ?_
        refine S_bipush (v := 98) C dL_rights_174 (by decide) ?_
        refine S_iconst (v := 3) C dL_rights_176 (by decide) ?_
        refine S_newa C (at0 := .int) (c0 := 0) (ty := .int) (N := 3) rfl rfl (fun h => h) (fun cA => rfl) (by decide) (by decide) (by decide) (by show _ ≤ 3000; omega) (by show _ ≤ 30000; omega) dL_rights_177 (fun q177 => ?_)
        refine S_dup C dL_rights_179 rfl ?_
        refine S_iconst (v := 0) C dL_rights_180 (by decide) ?_
        refine S_iload C dL_rights_181 rfl ?_
        refine S_iast C 0 rfl 0 (by decide) (by decide) rfl (ar' := [(q177, 0, 3, (upd (fun _ => 0) 0 (nI p))), (q92, 0, N, (bdA xs LL (p + 1)))]) rfl dL_rights_183 ?_
        refine S_dup C dL_rights_184 rfl ?_
        refine S_iconst (v := 1) C dL_rights_185 (by decide) ?_
        refine S_iconst (v := 0) C dL_rights_186 (by decide) ?_
        refine S_iast C 0 rfl 1 (by decide) (by decide) rfl (ar' := [(q177, 0, 3, (upd (upd (fun _ => 0) 0 (nI p)) 1 0)), (q92, 0, N, (bdA xs LL (p + 1)))]) rfl dL_rights_187 ?_
        refine S_dup C dL_rights_188 rfl ?_
        refine S_iconst (v := 2) C dL_rights_189 (by decide) ?_
        refine S_bipush (v := 101) C dL_rights_190 (by decide) ?_
        refine S_iast C 0 rfl 2 (by decide) (by decide) rfl (ar' := [(q177, 0, 3, (upd (upd (upd (fun _ => 0) 0 (nI p)) 1 0) 2 101)), (q92, 0, N, (bdA xs LL (p + 1)))]) rfl dL_rights_192 ?_
        refine S_askX C (k_bid hfl P2.1 (n := 3) (g := (upd (upd (upd (fun _ => 0) 0 (nI p)) 1 0) 2 101)) (by decide) (by decide)) hw_L_ask mk_L_153 ⟨by decide, by decide⟩ (Nat.le_of_ble_eq_true rfl) ⟨(by show _ ≤ 3000; omega), (by show _ ≤ 30000; omega)⟩ dL_rights_193 (v := (-2000000002)) (bid_x P2.2.1 (by omega)) (by decide) ?_
        refine S_ldc (v := (-2000000002)) C kc_L_112 dL_rights_196 ?_
        refine S_icmp_eq C 203 dL_rights_198 (by decide) (fun _ => ?_) (fun h => absurd rfl h)
        refine S_iconst (v := 0) C dL_rights_203 (by decide) ?_
        refine S_istore C dL_rights_204 (by decide) (lv' := [some (.ref bA), some (.ref (x.2.1 0)), some (.int (nI S)), some (.int (nI N)), some (.ref q92), some (.int (nI p)), some (.int 0), none, none, none, none]) rfl ?_
        have L206 : ∀ (fuel : Nat) (st : Nat) (d : Mem), st ≤ 3 → PB S p st (p + 1) (bdn xs LL) d → 3 - st < fuel → SS pP l eE ({ frames := 13, cells := 3000, slots := 30000, locals := 700 } : Room) sS mM argsA belowB methM cC (MQ belowB (Q1 sS.heap.size) argsA sS 3000 30000 (fun q => sS.heap.size ≤ q)) x 11 d [(q92, 0, N, (bdA xs LL (p + 1)))] (81 + 34 * p + 10 + 6 * st) (1487 + N + 188 * p + 48 + 35 * st) 206 [some (.ref bA), some (.ref (x.2.1 0)), some (.int (nI S)), some (.int (nI N)), some (.ref q92), some (.int (nI p)), some (.int (nI st)), none, none, none, none] [] := by
          intro fuel
          induction fuel with
          | zero => intro st d hst hd hm; exact absurd hm (Nat.not_lt_zero _)
          | succ fuel ih206 =>
            intro st d hst hd hm
            refine S_iload C dL_rights_206 rfl ?_
            refine S_iconst (v := (nI 3)) C dL_rights_208 (by decide) ?_
            refine S_lt C 255 dL_rights_209 (by decide) (by omega) (by omega) (fun h209 => ?_) (fun h209 => ?_)
            · obtain rfl : st = 3 := by omega
              refine S_aload_n C dL_rights_255 rfl ?_
              refine S_bipush (v := 120) C dL_rights_256 (by decide) ?_
              refine S_iconst (v := 5) C dL_rights_258 (by decide) ?_
              refine S_newa C (at0 := .int) (c0 := 0) (ty := .int) (N := 5) rfl rfl (fun h => h) (fun cA => rfl) (by decide) (by decide) (by decide) (by show _ ≤ 3000; omega) (by show _ ≤ 30000; omega) dL_rights_259 (fun q259 => ?_)
              refine S_dup C dL_rights_261 rfl ?_
              refine S_iconst (v := 0) C dL_rights_262 (by decide) ?_
              refine S_iconst (v := 2) C dL_rights_263 (by decide) ?_
              refine S_iast C 0 rfl 0 (by decide) (by decide) rfl (ar' := [(q259, 0, 5, (upd (fun _ => 0) 0 2)), (q92, 0, N, (bdA xs LL (p + 1)))]) rfl dL_rights_264 ?_
              refine S_dup C dL_rights_265 rfl ?_
              refine S_iconst (v := 1) C dL_rights_266 (by decide) ?_
              refine S_iload C dL_rights_267 rfl ?_
              refine S_iast C 0 rfl 1 (by decide) (by decide) rfl (ar' := [(q259, 0, 5, (upd (upd (fun _ => 0) 0 2) 1 (nI p))), (q92, 0, N, (bdA xs LL (p + 1)))]) rfl dL_rights_269 ?_
              refine S_dup C dL_rights_270 rfl ?_
              refine S_iconst (v := 2) C dL_rights_271 (by decide) ?_
              refine S_iconst (v := 0) C dL_rights_272 (by decide) ?_
              refine S_iast C 0 rfl 2 (by decide) (by decide) rfl (ar' := [(q259, 0, 5, (upd (upd (upd (fun _ => 0) 0 2) 1 (nI p)) 2 0)), (q92, 0, N, (bdA xs LL (p + 1)))]) rfl dL_rights_273 ?_
              refine S_dup C dL_rights_274 rfl ?_
              refine S_iconst (v := 3) C dL_rights_275 (by decide) ?_
              refine S_bipush (v := 120) C dL_rights_276 (by decide) ?_
              refine S_iast C 0 rfl 3 (by decide) (by decide) rfl (ar' := [(q259, 0, 5, (upd (upd (upd (upd (fun _ => 0) 0 2) 1 (nI p)) 2 0) 3 120)), (q92, 0, N, (bdA xs LL (p + 1)))]) rfl dL_rights_278 ?_
              refine S_dup C dL_rights_279 rfl ?_
              refine S_iconst (v := 4) C dL_rights_280 (by decide) ?_
              refine S_iload C dL_rights_281 rfl ?_
              refine S_iast C 0 rfl 4 (by decide) (by decide) rfl (ar' := [(q259, 0, 5, (upd (upd (upd (upd (upd (fun _ => 0) 0 2) 1 (nI p)) 2 0) 3 120) 4 (nI p))), (q92, 0, N, (bdA xs LL (p + 1)))]) rfl dL_rights_283 ?_
              refine S_askN C (k_write hfl hd.1 (n := 5) (g := (upd (upd (upd (upd (upd (fun _ => 0) 0 2) 1 (nI p)) 2 0) 3 120) 4 (nI p))) (by decide) (by decide) (f3 := 120) (by show ((120 : Int32).toUInt32 % 65536).toInt32 = 120; decide)) hw_L_ask mk_L_153 ⟨by decide, by decide⟩ (Nat.le_of_ble_eq_true rfl) ⟨(by show _ ≤ 3000; omega), (by show _ ≤ 30000; omega)⟩ dL_rights_284 (ans_wx hd.2.1 (Nat.lt_succ_self p) (by omega)).1 (v := 0) ((ans_wx hd.2.1 (Nat.lt_succ_self p) (by omega)).2.1.trans (if_neg (Nat.lt_irrefl p))) (a2 := (up2 d 11 (p * 6) (nI p))) (ans_wx hd.2.1 (Nat.lt_succ_self p) (by omega)).2.2 ?_
              refine S_if_eq C 292 dL_rights_287 (by decide) (fun _ => ?_) (fun h => absurd rfl h)
              refine S_iinc (v := (nI (p + 1))) C dL_rights_292 rfl (nI_1 _) (by decide) (lv' := [some (.ref bA), some (.ref (x.2.1 0)), some (.int (nI S)), some (.int (nI N)), some (.ref q92), some (.int (nI (p + 1))), some (.int (nI 3)), none, none, none, none]) rfl ?_
              refine S_goto C 99 dL_rights_295 (by decide) ?_
              refine S_forget (lvLe.same (lvLe.same (lvLe.same (lvLe.same (lvLe.same (lvLe.same (lvLe.drop (lvLe.same (lvLe.same (lvLe.same (lvLe.same lvLe.nil))))))))))) ?_
              exact S_cs (k := 81 + 34 * (p + 1)) (n := 1487 + N + 188 * (p + 1)) (by omega) (by omega) (ih99 (p + 1) _ (by omega) hd.wx (by omega))
            · refine S_aload_n C dL_rights_212 rfl ?_
              refine S_bipush (v := 120) C dL_rights_213 (by decide) ?_
              refine S_iconst (v := 5) C dL_rights_215 (by decide) ?_
              refine S_newa C (at0 := .int) (c0 := 0) (ty := .int) (N := 5) rfl rfl (fun h => h) (fun cA => rfl) (by decide) (by decide) (by decide) (by show _ ≤ 3000; omega) (by show _ ≤ 30000; omega) dL_rights_216 (fun q216 => ?_)
              refine S_dup C dL_rights_218 rfl ?_
              refine S_iconst (v := 0) C dL_rights_219 (by decide) ?_
              refine S_iload C dL_rights_220 rfl ?_
              refine S_iast C 0 rfl 0 (by decide) (by decide) rfl (ar' := [(q216, 0, 5, (upd (fun _ => 0) 0 (nI st))), (q92, 0, N, (bdA xs LL (p + 1)))]) rfl dL_rights_222 ?_
              refine S_dup C dL_rights_223 rfl ?_
              refine S_iconst (v := 1) C dL_rights_224 (by decide) ?_
              refine S_iload C dL_rights_225 rfl ?_
              refine S_iast C 0 rfl 1 (by decide) (by decide) rfl (ar' := [(q216, 0, 5, (upd (upd (fun _ => 0) 0 (nI st)) 1 (nI p))), (q92, 0, N, (bdA xs LL (p + 1)))]) rfl dL_rights_227 ?_
              refine S_dup C dL_rights_228 rfl ?_
              refine S_iconst (v := 2) C dL_rights_229 (by decide) ?_
              refine S_iconst (v := 0) C dL_rights_230 (by decide) ?_
              refine S_iast C 0 rfl 2 (by decide) (by decide) rfl (ar' := [(q216, 0, 5, (upd (upd (upd (fun _ => 0) 0 (nI st)) 1 (nI p)) 2 0)), (q92, 0, N, (bdA xs LL (p + 1)))]) rfl dL_rights_231 ?_
              refine S_dup C dL_rights_232 rfl ?_
              refine S_iconst (v := 3) C dL_rights_233 (by decide) ?_
              refine S_bipush (v := 114) C dL_rights_234 (by decide) ?_
              refine S_iast C 0 rfl 3 (by decide) (by decide) rfl (ar' := [(q216, 0, 5, (upd (upd (upd (upd (fun _ => 0) 0 (nI st)) 1 (nI p)) 2 0) 3 114)), (q92, 0, N, (bdA xs LL (p + 1)))]) rfl dL_rights_236 ?_
              refine S_dup C dL_rights_237 rfl ?_
              refine S_iconst (v := 4) C dL_rights_238 (by decide) ?_
              refine S_iconst (v := 1) C dL_rights_239 (by decide) ?_
              refine S_iast C 0 rfl 4 (by decide) (by decide) rfl (ar' := [(q216, 0, 5, (upd (upd (upd (upd (upd (fun _ => 0) 0 (nI st)) 1 (nI p)) 2 0) 3 114) 4 1)), (q92, 0, N, (bdA xs LL (p + 1)))]) rfl dL_rights_240 ?_
              refine S_askN C (k_write hfl hd.1 (n := 5) (g := (upd (upd (upd (upd (upd (fun _ => 0) 0 (nI st)) 1 (nI p)) 2 0) 3 114) 4 1)) (by decide) (by decide) (f3 := 114) (by show ((114 : Int32).toUInt32 % 65536).toInt32 = 114; decide)) hw_L_ask mk_L_153 ⟨by decide, by decide⟩ (Nat.le_of_ble_eq_true rfl) ⟨(by show _ ≤ 3000; omega), (by show _ ≤ 30000; omega)⟩ dL_rights_241 (ans_wr hd.2.1 (Nat.lt_succ_self p) (by omega) h209 (Or.inr rfl)).1 (v := 0) ((ans_wr hd.2.1 (Nat.lt_succ_self p) (by omega) h209 (v := 1) (Or.inr rfl)).2.1.trans (if_neg (by omega))) (a2 := (up2 d (3 + st * 3) (p * 6) 1)) (ans_wr hd.2.1 (Nat.lt_succ_self p) (by omega) h209 (Or.inr rfl)).2.2 ?_
              refine S_if_eq C 249 dL_rights_244 (by decide) (fun _ => ?_) (fun h => absurd rfl h)
              refine S_iinc (v := (nI (st + 1))) C dL_rights_249 rfl (nI_1 _) (by decide) (lv' := [some (.ref bA), some (.ref (x.2.1 0)), some (.int (nI S)), some (.int (nI N)), some (.ref q92), some (.int (nI p)), some (.int (nI (st + 1))), none, none, none, none]) rfl ?_
              refine S_goto C 206 dL_rights_252 (by decide) ?_
              exact S_cs (k := 81 + 34 * p + 10 + 6 * (st + 1)) (n := 1487 + N + 188 * p + 48 + 35 * (st + 1)) (by omega) (by omega) (ih206 (st + 1) _ (by omega) (hd.wr h209) (by omega))
        exact S_cs (k := 81 + 34 * p + 10 + 6 * 0) (n := 1487 + N + 188 * p + 48 + 35 * 0) (by omega) (by omega) (L206 _ 0 b2 (Nat.zero_le _) P2 (Nat.lt_succ_self _))
  refine S_rows (congrArg (fun g => [(q92, 0, N, g)]) (bdA_0 (xs := xs) (L := LL))) ?_
  exact S_cs (k := 81 + 34 * 0) (n := 1487 + N + 188 * 0) (by omega) (by omega) (L99 _ 0 (z3 S) (Nat.zero_le _) (PB_0 hS5 hS0) (Nat.lt_succ_self _))
