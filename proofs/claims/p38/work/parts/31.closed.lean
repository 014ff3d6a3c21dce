/-! slots that were sat: their offers are closed -/
def w1 : Mem := a3_room a00 2
def w2 : Mem := a3_room w1 1
def w3 : Mem := up2 w2 0 8 (nI (nE w2 + 1))
def w4 : Mem := up2 (up2 w3 67 (nP w3) 100) 0 9 (nI (nP w3 + 1))
def w5 (s : Nat) : Mem := a3_offer w4 0 (nI s) 0 0
def w6 (s t : Nat) : Mem := a3_offer (w5 s) 0 (nI t) 1 1
def w7 (s t : Nat) : Nat → Mem
  | 0 => w6 s t
  | k + 1 => up2 (w7 s t k) (3 + (tn (nI k) * 3 + fNat 114)) (tn 0 * 6 + tn 0) 1
def w10 (s t : Nat) : Mem := a3_bid (w7 s t 3) 0 0 40
def w11 (s t : Nat) : Mem := a3_bid (w10 s t) 0 1 60
def w12 (s t : Nat) : Mem := a3_bid (w11 s t) 0 0 10
def w13 (s t : Nat) : Mem := outA (w12 s t) 0 1 (bW (w12 s t))
def w14 (s t : Nat) : Mem := up2 (siK (w13 s t) (nI s) (nO (w13 s t))) 69 (tn (nI s)) 1
def w15 (s t : Nat) : Mem := a3_settle (w14 s t)
theorem w_0 : gn (g3_room a00 2) = 0 ∧ nI (nR a00) = 0 ∧ nR a00 < 3 ∧ gn (g3_room w1 1) = 0 ∧ nI (nR w1) = 1 ∧ nR w1 < 3 ∧ gn (g3_exam w2) = 0 ∧ nI (nE w2) = 0 ∧ nE w2 < 6 ∧ gn (g3_pupil w3) = 0 ∧ nI (nP w3) = 0 ∧ nP w3 < 10 ∧ nI (nO w4) = 0 ∧ nO w4 < 12 ∧ w4 66 (tn 0) = 2 := by decide +kernel
theorem w_5 : ∀ s, s < 6 → gn (g3_offer w4 0 (nI s) 0) = 0 ∧ nO (w5 s) = 1 ∧ w5 s 66 (tn 1) = 1 := by decide +kernel
theorem w_6 : ∀ s, s < 6 → ∀ t, t < 6 → s ≠ t → gn (g3_offer (w5 s) 0 (nI t) 1) = 0 := by decide +kernel
theorem w_7 : ∀ s, s < 6 → ∀ t, t < 6 → s ≠ t → ∀ k, k < 3 → gn (g3_write (w7 s t k) (nI k) 0 0 114 1) = 0 ∧ w7 s t k (3 + (tn (nI k) * 3 + fNat 114)) (tn 0 * 6 + tn 0) = 0 := by decide +kernel
theorem w_10 : ∀ s, s < 6 → ∀ t, t < 6 → s ≠ t → gn (g3_bid (w7 s t 3) 0 0 40) = 0 ∧ s3_bid (w7 s t 3) 0 0 40 = 40 := by decide +kernel
theorem w_11 : ∀ s, s < 6 → ∀ t, t < 6 → s ≠ t → gn (g3_bid (w10 s t) 0 1 61) = -2000000004 ∧ gn (g3_bid (w10 s t) 0 1 60) = 0 ∧ s3_bid (w10 s t) 0 1 60 = 100 := by decide +kernel
theorem w_12 : ∀ s, s < 6 → ∀ t, t < 6 → s ≠ t → gn (g3_bid (w11 s t) 0 0 10) = 0 ∧ s3_bid (w11 s t) 0 0 10 = 70 := by decide +kernel
theorem w_13 : ∀ s, s < 6 → ∀ t, t < 6 → s ≠ t → w12 s t 13 3 = 2 ∧ gn (g3_unbid (w12 s t) 0 1) = 0 ∧ ptB (w12 s t) 0 1 (bW (w12 s t)) = 60 ∧ gn (g3_unbid (w13 s t) 0 1) = -2000000005 := by decide +kernel
theorem w_14 : ∀ s, s < 6 → ∀ t, t < 6 → s ≠ t → gn (g3_sit (w13 s t) (nI s)) = 0 ∧ nI (siC (w13 s t) (nI s) (nO (w13 s t))) = 0 ∧ gn (g3_sit (w14 s t) (nI s)) = -2000000004 ∧ w14 s t 13 3 = 1 ∧ gn (g3_bid (w14 s t) 0 0 5) = -2000000004 ∧ nI (stC (w14 s t) (bW (w14 s t))) = 0 := by decide +kernel
theorem w_15a : ∀ s, s < 6 → ∀ t, t < 6 → s ≠ t → w15 s t 13 3 = 0 ∧ gn (gP (w15 s t) 0) = 0 ∧ w15 s t 67 (tn 0) = 100 ∧ gn (g3_offer (w15 s t) 0 (nI s) 1) = -2000000004 ∧ gn (g3_move (w15 s t) 0 (nI t)) = -2000000004 := by decide +kernel
theorem w_15b : ∀ s, s < 6 → ∀ t, t < 6 → s ≠ t → gn (g3_move (w15 s t) 1 (nI s)) = -2000000004 ∧ gn (g3_move (w15 s t) 1 (nI t)) = -2000000004 ∧ gn (g3_move (w15 s t) 1 6) = -2000000002 ∧ gn (g3_giveUp (w15 s t) 0 0) = -2000000004 ∧ gn (g3_maySit (w15 s t) 0 0) = 0 ∧ bI (hsB (w15 s t) 0 0 0) = 0 := by decide +kernel
theorem w_15 : ∀ s, s < 6 → ∀ t, t < 6 → s ≠ t → w15 s t 13 3 = 0 ∧ gn (gP (w15 s t) 0) = 0 ∧ w15 s t 67 (tn 0) = 100 ∧ gn (g3_offer (w15 s t) 0 (nI s) 1) = -2000000004 ∧ gn (g3_move (w15 s t) 0 (nI t)) = -2000000004 ∧ gn (g3_move (w15 s t) 1 (nI s)) = -2000000004 ∧ gn (g3_move (w15 s t) 1 (nI t)) = -2000000004 ∧ gn (g3_move (w15 s t) 1 6) = -2000000002 ∧ gn (g3_giveUp (w15 s t) 0 0) = -2000000004 ∧ gn (g3_maySit (w15 s t) 0 0) = 0 ∧ bI (hsB (w15 s t) 0 0 0) = 0 := fun s hs6 t ht6 hne => ⟨(w_15a s hs6 t ht6 hne).1, (w_15a s hs6 t ht6 hne).2.1, (w_15a s hs6 t ht6 hne).2.2.1, (w_15a s hs6 t ht6 hne).2.2.2.1, (w_15a s hs6 t ht6 hne).2.2.2.2, w_15b s hs6 t ht6 hne⟩
theorem w_16c : ∀ s, s < 6 → ∀ t, t < 6 → s ≠ t → ∀ i, i < 2 → hs (w15 s t) i 0 = false ∧ nTaken (w15 s t) i ≤ stN (w15 s t) i := by decide +kernel
theorem w_16d : ∀ s, s < 6 → ∀ t, t < 6 → s ≠ t → ∀ i, i < 2 → qW (w15 s t) i = 0 ∧ anyN (rsB (w15 s t) i) 2 = false ∧ 1 ≤ stN (w15 s t) i := by decide +kernel
theorem w_16a : ∀ s, s < 6 → ∀ t, t < 6 → s ≠ t → ∀ i, i < 2 → hs (w15 s t) i 0 = false ∧ nTaken (w15 s t) i ≤ stN (w15 s t) i ∧ qW (w15 s t) i = 0 ∧ anyN (rsB (w15 s t) i) 2 = false ∧ 1 ≤ stN (w15 s t) i := fun s hs6 t ht6 hne i hi => ⟨(w_16c s hs6 t ht6 hne i hi).1, (w_16c s hs6 t ht6 hne i hi).2, w_16d s hs6 t ht6 hne i hi⟩
theorem w_16b : ∀ s, s < 6 → ∀ t, t < 6 → s ≠ t → nP (w15 s t) = 1 ∧ nO (w15 s t) = 2 ∧ pwB (w15 s t) 0 = true ∧ ¬ w15 s t 0 10 = 0 ∧ nI (sumK (nTaken (w15 s t)) 2) = 0 ∧ nI (sumK (stN (w15 s t)) 2) = 3 := by decide +kernel
theorem w_16 : ∀ s, s < 6 → ∀ t, t < 6 → s ≠ t → nP (w15 s t) = 1 ∧ nO (w15 s t) = 2 ∧ (∀ i, i < 2 → hs (w15 s t) i 0 = false ∧ nTaken (w15 s t) i ≤ stN (w15 s t) i ∧ qW (w15 s t) i = 0 ∧ anyN (rsB (w15 s t) i) 2 = false ∧ 1 ≤ stN (w15 s t) i) ∧ pwB (w15 s t) 0 = true ∧ gzero (w15 s t 0 10) = none ∧ nI (sumK (nTaken (w15 s t)) 2) = 0 ∧ nI (sumK (stN (w15 s t)) 2) = 3 := fun s hs6 t ht6 hne => ⟨(w_16b s hs6 t ht6 hne).1, (w_16b s hs6 t ht6 hne).2.1, w_16a s hs6 t ht6 hne, (w_16b s hs6 t ht6 hne).2.2.1, if_neg (w_16b s hs6 t ht6 hne).2.2.2.1, (w_16b s hs6 t ht6 hne).2.2.2.2⟩
theorem w_share : Op.cmpValue (FP.fcmp (shF 0 3) FP.fconst0) .l = 0 := by decide +kernel
theorem w1_W : WC w1 := WC_00.room w_0.2.2.1
theorem w2_W : WC w2 := w1_W.room w_0.2.2.2.2.2.1
theorem w3_W : WC w3 := w2_W.exam w_0.2.2.2.2.2.2.2.2.1
theorem w4_W : WC w4 := w3_W.pupil w_0.2.2.2.2.2.2.2.2.2.2.2.1
theorem w5_W {s : Nat} (hs6 : s < 6) : WC (w5 s) := w4_W.offer w_0.2.2.2.2.2.2.2.2.2.2.2.2.2.1 (isN_0 5) (isN.of rfl (by omega) (by decide)) (Or.inl rfl) (by rw [w_0.2.2.2.2.2.2.2.2.2.2.2.2.2.2]; exact isN.of (k := 2) rfl (by omega) (by decide))
theorem w6_W {s t : Nat} (hs6 : s < 6) (ht6 : t < 6) : WC (w6 s t) := (w5_W hs6).offer (by rw [(w_5 s hs6).2.1]; omega) (isN_0 5) (isN.of rfl (by omega) (by decide)) (Or.inr rfl) (by rw [(w_5 s hs6).2.2]; exact isN.of (k := 1) rfl (by omega) (by decide))
theorem w7_W {s t : Nat} (hs6 : s < 6) (ht6 : t < 6) : ∀ k, k ≤ 3 → WC (w7 s t k) := by
  intro k
  induction k with
  | zero => intro _; exact w6_W hs6 ht6
  | succ k ih => intro h; exact (ih (by omega)).wr (by rw [tn_nI (by omega)]; omega) (fNat_lt 114)
theorem w10_W {s t : Nat} (hs6 : s < 6) (ht6 : t < 6) : WC (w10 s t) := (w7_W hs6 ht6 3 (Nat.le_refl _)).bid (p := 0) (i := 0) (by decide) (by decide)
theorem w11_W {s t : Nat} (hs6 : s < 6) (ht6 : t < 6) : WC (w11 s t) := (w10_W hs6 ht6).bid (p := 0) (i := 1) (by decide) (by decide)
theorem w12_W {s t : Nat} (hs6 : s < 6) (ht6 : t < 6) : WC (w12 s t) := (w11_W hs6 ht6).bid (p := 0) (i := 0) (by decide) (by decide)
theorem w13_W {s t : Nat} (hs6 : s < 6) (ht6 : t < 6) : WC (w13 s t) := (w12_W hs6 ht6).out
theorem w14_W {s t : Nat} (hs6 : s < 6) (ht6 : t < 6) : WC (w14 s t) := (w13_W hs6 ht6).sit
theorem w15_W {s t : Nat} (hs6 : s < 6) (ht6 : t < 6) : WC (w15 s t) := (w14_W hs6 ht6).settle
theorem w_clash {s t : Nat} (hs6 : s < 6) (ht6 : t < 6) (hne : s ≠ t) {p : Nat} (hp : p < nP (w15 s t)) : noClash (w15 s t) p := by
  obtain ⟨h1, h2, h3, -⟩ := w_16 s hs6 t ht6 hne
  intro i j hij hj hi
  rw [show p = 0 by omega, (h3 i (by omega)).1] at hi
  cases hi
set_option maxHeartbeats 8000000 in
set_option maxRecDepth 100000 in
theorem m_closed {l : Launch} {D : va_G} {T : Nat → ClassId} {bA LL : Nat} {xs : Nat → Int32} (hfl : l.stackTraces = false) : LM l yL_closed cL_closed 5 13 700 1000 6000 [.ref bA] D T (ZS bA LL xs) := by
  refine LM.of hfl rfl (by decide) [some (.ref bA), none, none, none, none] rfl rfl (Nat.le_of_ble_eq_true rfl) (k := 1) dL_closed_0 dL_closed_3 dL_closed_4 dL_closed_7 (by decide) (by decide) (by decide) (by decide) (fun q => [some (.ref bA), some (.ref q), none, none, none]) (fun q => rfl) ?_
  intro pP eE sS mM argsA belowB methM cC x C hAW hxB hr hZ
  obtain ⟨hX, hbl, hL2⟩ := hZ
  have hbA : ∀ k, k < 70 → bA ≠ x.2.1 k := fun k hk => by have := hxB k hk; omega
  refine S_aload_n C dL_closed_8 rfl ?_
  refine S_bipush (v := (nI 40)) C dL_closed_9 (by decide) ?_
  refine S_at C hX hbl hbA hL2 (by omega) mi_L_at mk_L_169 ⟨by decide, by decide⟩ (Nat.le_of_ble_eq_true rfl) ⟨(by decide), (by decide)⟩ dL_closed_11 ?_
  refine S_bipush (v := (nI 6)) C dL_closed_14 (by decide) ?_
  obtain ⟨s, hs6, es⟩ := soF_lt (v := atF xs LL 40) (m := 6) (by decide) (by decide)
  refine S_some C (by decide) mi_L_some mk_L_172 ⟨by decide, by decide⟩ (Nat.le_of_ble_eq_true rfl) ⟨(by decide), (by decide)⟩ dL_closed_16 ?_
  refine S_topi (w := (nI s)) es ?_
  refine S_istore_n C dL_closed_19 (by decide) (lv' := [some (.ref bA), some (.ref (x.2.1 0)), some (.int (nI s)), none, none]) rfl ?_
  refine S_iload_n C dL_closed_20 rfl ?_
  refine S_iconst (v := 1) C dL_closed_21 (by decide) ?_
  refine S_iadd C dL_closed_22 ?_
  refine S_topi (w := (nI (s + 1))) (nI_1 s) ?_
  refine S_aload_n C dL_closed_23 rfl ?_
  refine S_bipush (v := (nI 41)) C dL_closed_24 (by decide) ?_
  refine S_at C hX hbl hbA hL2 (by omega) mi_L_at mk_L_169 ⟨by decide, by decide⟩ (Nat.le_of_ble_eq_true rfl) ⟨(by decide), (by decide)⟩ dL_closed_26 ?_
  refine S_iconst (v := (nI 5)) C dL_closed_29 (by decide) ?_
  obtain ⟨d, hd5, ed⟩ := soF_lt (v := atF xs LL 41) (m := 5) (by decide) (by decide)
  refine S_some C (by decide) mi_L_some mk_L_172 ⟨by decide, by decide⟩ (Nat.le_of_ble_eq_true rfl) ⟨(by decide), (by decide)⟩ dL_closed_30 ?_
  refine S_topi (w := (nI d)) ed ?_
  refine S_iadd C dL_closed_33 ?_
  refine S_topi (w := (nI (s + 1 + d))) (nI_add _ _) ?_
  refine S_bipush (v := 6) C dL_closed_34 (by decide) ?_
  obtain ⟨t, htt, ht6, hne⟩ : ∃ t, (s + 1 + d) % 6 = t ∧ t < 6 ∧ s ≠ t := ⟨_, rfl, by omega, by omega⟩
  refine S_irem C dL_closed_36 (by decide) ?_
  refine S_topi (w := (nI t)) ((f_mod (s + 1 + d) (by omega)).1.trans (by rw [htt])) ?_
  refine S_istore_n C dL_closed_37 (by decide) (lv' := [some (.ref bA), some (.ref (x.2.1 0)), some (.int (nI s)), some (.int (nI t)), none]) rfl ?_
  refine S_aload_n C dL_closed_38 rfl ?_
  refine S_bipush (v := 82) C dL_closed_39 (by decide) ?_
  refine S_iconst (v := 1) C dL_closed_41 (by decide) ?_
  refine S_newa C (at0 := .int) (c0 := 0) (ty := .int) (N := 1) rfl rfl (fun h => h) (fun cA => rfl) (by decide) (by decide) (by decide) (by decide) (by decide) dL_closed_42 (fun q42 => ?_)
  refine S_dup C dL_closed_44 rfl ?_
  refine S_iconst (v := 0) C dL_closed_45 (by decide) ?_
  refine S_iconst (v := 2) C dL_closed_46 (by decide) ?_
  refine S_iast C 0 rfl 0 (by decide) (by decide) rfl (ar' := [(q42, 0, 1, (upd (fun _ => 0) 0 2))]) rfl dL_closed_47 ?_
  refine S_askN C (k_room hfl WC_00 (n := 1) (g := (upd (fun _ => 0) 0 2)) (by decide) (by decide)) hw_L_ask mk_L_153 ⟨by decide, by decide⟩ (Nat.le_of_ble_eq_true rfl) ⟨(by decide), (by decide)⟩ dL_closed_48 w_0.1 (v := 0) w_0.2.1 (a2 := w1) rfl ?_
  refine S_cs (k := 72) (n := 1447) (by decide) (by decide) ?_
  refine S_if_ne C 152 dL_closed_51 (by decide) (fun h => absurd rfl h) (fun _ => ?_)
  refine S_aload_n C dL_closed_54 rfl ?_
  refine S_bipush (v := 82) C dL_closed_55 (by decide) ?_
  refine S_iconst (v := 1) C dL_closed_57 (by decide) ?_
  refine S_newa C (at0 := .int) (c0 := 0) (ty := .int) (N := 1) rfl rfl (fun h => h) (fun cA => rfl) (by decide) (by decide) (by decide) (by decide) (by decide) dL_closed_58 (fun q58 => ?_)
  refine S_dup C dL_closed_60 rfl ?_
  refine S_iconst (v := 0) C dL_closed_61 (by decide) ?_
  refine S_iconst (v := 1) C dL_closed_62 (by decide) ?_
  refine S_iast C 0 rfl 0 (by decide) (by decide) rfl (ar' := [(q58, 0, 1, (upd (fun _ => 0) 0 1))]) rfl dL_closed_63 ?_
  refine S_askN C (k_room hfl w1_W (n := 1) (g := (upd (fun _ => 0) 0 1)) (by decide) (by decide)) hw_L_ask mk_L_153 ⟨by decide, by decide⟩ (Nat.le_of_ble_eq_true rfl) ⟨(by decide), (by decide)⟩ dL_closed_64 w_0.2.2.2.1 (v := 1) w_0.2.2.2.2.1 (a2 := w2) rfl ?_
  refine S_cs (k := 74) (n := 1454) (by decide) (by decide) ?_
  refine S_iconst (v := 1) C dL_closed_67 (by decide) ?_
  refine S_icmp_ne C 152 dL_closed_68 (by decide) (fun h => absurd rfl h) (fun _ => ?_)
  refine S_aload_n C dL_closed_71 rfl ?_
  refine S_bipush (v := 69) C dL_closed_72 (by decide) ?_
  refine S_iconst (v := 0) C dL_closed_74 (by decide) ?_
  refine S_newa C (at0 := .int) (c0 := 0) (ty := .int) (N := 0) rfl rfl (fun h => h) (fun cA => rfl) (by decide) (by decide) (by decide) (by decide) (by decide) dL_closed_75 (fun q75 => ?_)
  refine S_askN C (k_exam hfl w2_W (n := 0) (g := (fun _ => 0)) (by decide)) hw_L_ask mk_L_153 ⟨by decide, by decide⟩ (Nat.le_of_ble_eq_true rfl) ⟨(by decide), (by decide)⟩ dL_closed_77 w_0.2.2.2.2.2.2.1 (v := 0) w_0.2.2.2.2.2.2.2.1 (a2 := w3) rfl ?_
  refine S_cs (k := 76) (n := 1460) (by decide) (by decide) ?_
  refine S_if_ne C 152 dL_closed_80 (by decide) (fun h => absurd rfl h) (fun _ => ?_)
  refine S_aload_n C dL_closed_83 rfl ?_
  refine S_bipush (v := 80) C dL_closed_84 (by decide) ?_
  refine S_iconst (v := 0) C dL_closed_86 (by decide) ?_
  refine S_newa C (at0 := .int) (c0 := 0) (ty := .int) (N := 0) rfl rfl (fun h => h) (fun cA => rfl) (by decide) (by decide) (by decide) (by decide) (by decide) dL_closed_87 (fun q87 => ?_)
  refine S_askN C (k_pupil hfl w3_W (n := 0) (g := (fun _ => 0)) (by decide)) hw_L_ask mk_L_153 ⟨by decide, by decide⟩ (Nat.le_of_ble_eq_true rfl) ⟨(by decide), (by decide)⟩ dL_closed_89 w_0.2.2.2.2.2.2.2.2.2.1 (v := 0) w_0.2.2.2.2.2.2.2.2.2.2.1 (a2 := w4) rfl ?_
  refine S_cs (k := 78) (n := 1466) (by decide) (by decide) ?_
  refine S_if_ne C 152 dL_closed_92 (by decide) (fun h => absurd rfl h) (fun _ => ?_)
  refine S_aload_n C dL_closed_95 rfl ?_
  refine S_bipush (v := 79) C dL_closed_96 (by decide) ?_
  refine S_iconst (v := 4) C dL_closed_98 (by decide) ?_
  refine S_newa C (at0 := .int) (c0 := 0) (ty := .int) (N := 4) rfl rfl (fun h => h) (fun cA => rfl) (by decide) (by decide) (by decide) (by decide) (by decide) dL_closed_99 (fun q99 => ?_)
  refine S_dup C dL_closed_101 rfl ?_
  refine S_iconst (v := 0) C dL_closed_102 (by decide) ?_
  refine S_iconst (v := 0) C dL_closed_103 (by decide) ?_
  refine S_iast C 0 rfl 0 (by decide) (by decide) rfl (ar' := [(q99, 0, 4, (upd (fun _ => 0) 0 0))]) rfl dL_closed_104 ?_
  refine S_dup C dL_closed_105 rfl ?_
  refine S_iconst (v := 1) C dL_closed_106 (by decide) ?_
  refine S_iload_n C dL_closed_107 rfl ?_
  refine S_iast C 0 rfl 1 (by decide) (by decide) rfl (ar' := [(q99, 0, 4, (upd (upd (fun _ => 0) 0 0) 1 (nI s)))]) rfl dL_closed_108 ?_
  refine S_dup C dL_closed_109 rfl ?_
  refine S_iconst (v := 2) C dL_closed_110 (by decide) ?_
  refine S_iconst (v := 0) C dL_closed_111 (by decide) ?_
  refine S_iast C 0 rfl 2 (by decide) (by decide) rfl (ar' := [(q99, 0, 4, (upd (upd (upd (fun _ => 0) 0 0) 1 (nI s)) 2 0))]) rfl dL_closed_112 ?_
  refine S_dup C dL_closed_113 rfl ?_
  refine S_iconst (v := 3) C dL_closed_114 (by decide) ?_
  refine S_iconst (v := 0) C dL_closed_115 (by decide) ?_
  refine S_iast C 0 rfl 3 (by decide) (by decide) rfl (ar' := [(q99, 0, 4, (upd (upd (upd (upd (fun _ => 0) 0 0) 1 (nI s)) 2 0) 3 0))]) rfl dL_closed_116 ?_
  refine S_askN C (k_offer hfl w4_W (n := 4) (g := (upd (upd (upd (upd (fun _ => 0) 0 0) 1 (nI s)) 2 0) 3 0)) (by decide) (by decide)) hw_L_ask mk_L_153 ⟨by decide, by decide⟩ (Nat.le_of_ble_eq_true rfl) ⟨(by decide), (by decide)⟩ dL_closed_117 (w_5 s hs6).1 (v := 0) w_0.2.2.2.2.2.2.2.2.2.2.2.2.1 (a2 := (w5 s)) rfl ?_
  refine S_cs (k := 84) (n := 1500) (by decide) (by decide) ?_
  refine S_if_ne C 152 dL_closed_120 (by decide) (fun h => absurd rfl h) (fun _ => ?_)
  refine S_aload_n C dL_closed_123 rfl ?_
  refine S_bipush (v := 79) C dL_closed_124 (by decide) ?_
  refine S_iconst (v := 4) C dL_closed_126 (by decide) ?_
  refine S_newa C (at0 := .int) (c0 := 0) (ty := .int) (N := 4) rfl rfl (fun h => h) (fun cA => rfl) (by decide) (by decide) (by decide) (by decide) (by decide) dL_closed_127 (fun q127 => ?_)
  refine S_dup C dL_closed_129 rfl ?_
  refine S_iconst (v := 0) C dL_closed_130 (by decide) ?_
  refine S_iconst (v := 0) C dL_closed_131 (by decide) ?_
  refine S_iast C 0 rfl 0 (by decide) (by decide) rfl (ar' := [(q127, 0, 4, (upd (fun _ => 0) 0 0))]) rfl dL_closed_132 ?_
  refine S_dup C dL_closed_133 rfl ?_
  refine S_iconst (v := 1) C dL_closed_134 (by decide) ?_
  refine S_iload_n C dL_closed_135 rfl ?_
  refine S_iast C 0 rfl 1 (by decide) (by decide) rfl (ar' := [(q127, 0, 4, (upd (upd (fun _ => 0) 0 0) 1 (nI t)))]) rfl dL_closed_136 ?_
  refine S_dup C dL_closed_137 rfl ?_
  refine S_iconst (v := 2) C dL_closed_138 (by decide) ?_
  refine S_iconst (v := 1) C dL_closed_139 (by decide) ?_
  refine S_iast C 0 rfl 2 (by decide) (by decide) rfl (ar' := [(q127, 0, 4, (upd (upd (upd (fun _ => 0) 0 0) 1 (nI t)) 2 1))]) rfl dL_closed_140 ?_
  refine S_dup C dL_closed_141 rfl ?_
  refine S_iconst (v := 3) C dL_closed_142 (by decide) ?_
  refine S_iconst (v := 1) C dL_closed_143 (by decide) ?_
  refine S_iast C 0 rfl 3 (by decide) (by decide) rfl (ar' := [(q127, 0, 4, (upd (upd (upd (upd (fun _ => 0) 0 0) 1 (nI t)) 2 1) 3 1))]) rfl dL_closed_144 ?_
  refine S_askN C (k_offer hfl (w5_W hs6) (n := 4) (g := (upd (upd (upd (upd (fun _ => 0) 0 0) 1 (nI t)) 2 1) 3 1)) (by decide) (by decide)) hw_L_ask mk_L_153 ⟨by decide, by decide⟩ (Nat.le_of_ble_eq_true rfl) ⟨(by decide), (by decide)⟩ dL_closed_145 (w_6 s hs6 t ht6 hne) (v := 1) (congrArg nI (w_5 s hs6).2.1) (a2 := (w6 s t)) rfl ?_
  refine S_cs (k := 90) (n := 1534) (by decide) (by decide) ?_
  refine S_iconst (v := 1) C dL_closed_148 (by decide) ?_
  refine S_icmp_eq C 154 dL_closed_149 (by decide) (fun _ => ?_) (fun h => absurd rfl h)
  refine S_iconst (v := 0) C dL_closed_154 (by decide) ?_
  refine S_istore C dL_closed_155 (by decide) (lv' := [some (.ref bA), some (.ref (x.2.1 0)), some (.int (nI s)), some (.int (nI t)), some (.int 0)]) rfl ?_
  have L157 : ∀ (fuel : Nat) (k : Nat), k ≤ 3 → 3 - k < fuel → SS pP l eE ({ frames := 13, cells := 1000, slots := 6000, locals := 700 } : Room) sS mM argsA belowB methM cC (MQ belowB (Q1 sS.heap.size) argsA sS 1000 6000 (fun q => sS.heap.size ≤ q)) x 5 (w7 s t k) [] (90 + 6 * k) (1534 + 35 * k) 157 [some (.ref bA), some (.ref (x.2.1 0)), some (.int (nI s)), some (.int (nI t)), some (.int (nI k))] [] := by
    intro fuel
    induction fuel with
    | zero => intro k hk hm; exact absurd hm (Nat.not_lt_zero _)
    | succ fuel ih157 =>
      intro k hk hm
      refine S_iload C dL_closed_157 rfl ?_
      refine S_iconst (v := (nI 3)) C dL_closed_159 (by decide) ?_
      refine S_lt C 205 dL_closed_160 (by decide) (by omega) (by omega) (fun h160 => ?_) (fun h160 => ?_)
      · obtain rfl : k = 3 := by omega
        refine S_aload_n C dL_closed_205 rfl ?_
        refine S_bipush (v := 98) C dL_closed_206 (by decide) ?_
        refine S_iconst (v := 3) C dL_closed_208 (by decide) ?_
        refine S_newa C (at0 := .int) (c0 := 0) (ty := .int) (N := 3) rfl rfl (fun h => h) (fun cA => rfl) (by decide) (by decide) (by decide) (by show _ ≤ 1000; omega) (by show _ ≤ 6000; omega) dL_closed_209 (fun q209 => ?_)
        refine S_dup C dL_closed_211 rfl ?_
        refine S_iconst (v := 0) C dL_closed_212 (by decide) ?_
        refine S_iconst (v := 0) C dL_closed_213 (by decide) ?_
        refine S_iast C 0 rfl 0 (by decide) (by decide) rfl (ar' := [(q209, 0, 3, (upd (fun _ => 0) 0 0))]) rfl dL_closed_214 ?_
        refine S_dup C dL_closed_215 rfl ?_
        refine S_iconst (v := 1) C dL_closed_216 (by decide) ?_
        refine S_iconst (v := 0) C dL_closed_217 (by decide) ?_
        refine S_iast C 0 rfl 1 (by decide) (by decide) rfl (ar' := [(q209, 0, 3, (upd (upd (fun _ => 0) 0 0) 1 0))]) rfl dL_closed_218 ?_
        refine S_dup C dL_closed_219 rfl ?_
        refine S_iconst (v := 2) C dL_closed_220 (by decide) ?_
        refine S_bipush (v := 40) C dL_closed_221 (by decide) ?_
        refine S_iast C 0 rfl 2 (by decide) (by decide) rfl (ar' := [(q209, 0, 3, (upd (upd (upd (fun _ => 0) 0 0) 1 0) 2 40))]) rfl dL_closed_223 ?_
        refine S_askN C (k_bid hfl (w7_W hs6 ht6 _ hk) (n := 3) (g := (upd (upd (upd (fun _ => 0) 0 0) 1 0) 2 40)) (by decide) (by decide)) hw_L_ask mk_L_153 ⟨by decide, by decide⟩ (Nat.le_of_ble_eq_true rfl) ⟨(by show _ ≤ 1000; omega), (by show _ ≤ 6000; omega)⟩ dL_closed_224 (w_10 s hs6 t ht6 hne).1 (v := 40) (w_10 s hs6 t ht6 hne).2 (a2 := (w10 s t)) rfl ?_
        refine S_bipush (v := 40) C dL_closed_227 (by decide) ?_
        refine S_icmp_ne C 365 dL_closed_229 (by decide) (fun h => absurd rfl h) (fun _ => ?_)
        refine S_aload_n C dL_closed_232 rfl ?_
        refine S_bipush (v := 98) C dL_closed_233 (by decide) ?_
        refine S_iconst (v := 3) C dL_closed_235 (by decide) ?_
        refine S_newa C (at0 := .int) (c0 := 0) (ty := .int) (N := 3) rfl rfl (fun h => h) (fun cA => rfl) (by decide) (by decide) (by decide) (by show _ ≤ 1000; omega) (by show _ ≤ 6000; omega) dL_closed_236 (fun q236 => ?_)
        refine S_dup C dL_closed_238 rfl ?_
        refine S_iconst (v := 0) C dL_closed_239 (by decide) ?_
        refine S_iconst (v := 0) C dL_closed_240 (by decide) ?_
        refine S_iast C 0 rfl 0 (by decide) (by decide) rfl (ar' := [(q236, 0, 3, (upd (fun _ => 0) 0 0))]) rfl dL_closed_241 ?_
        refine S_dup C dL_closed_242 rfl ?_
        refine S_iconst (v := 1) C dL_closed_243 (by decide) ?_
        refine S_iconst (v := 1) C dL_closed_244 (by decide) ?_
        refine S_iast C 0 rfl 1 (by decide) (by decide) rfl (ar' := [(q236, 0, 3, (upd (upd (fun _ => 0) 0 0) 1 1))]) rfl dL_closed_245 ?_
        refine S_dup C dL_closed_246 rfl ?_
        refine S_iconst (v := 2) C dL_closed_247 (by decide) ?_
        refine S_bipush (v := 61) C dL_closed_248 (by decide) ?_
        refine S_iast C 0 rfl 2 (by decide) (by decide) rfl (ar' := [(q236, 0, 3, (upd (upd (upd (fun _ => 0) 0 0) 1 1) 2 61))]) rfl dL_closed_250 ?_
        refine S_askX C (k_bid hfl (w10_W hs6 ht6) (n := 3) (g := (upd (upd (upd (fun _ => 0) 0 0) 1 1) 2 61)) (by decide) (by decide)) hw_L_ask mk_L_153 ⟨by decide, by decide⟩ (Nat.le_of_ble_eq_true rfl) ⟨(by show _ ≤ 1000; omega), (by show _ ≤ 6000; omega)⟩ dL_closed_251 (v := (-2000000004)) (w_11 s hs6 t ht6 hne).1 (by decide) ?_
        refine S_ldc (v := (-2000000004)) C kc_L_118 dL_closed_254 ?_
        refine S_icmp_ne C 365 dL_closed_256 (by decide) (fun h => absurd rfl h) (fun _ => ?_)
        refine S_aload_n C dL_closed_259 rfl ?_
        refine S_bipush (v := 98) C dL_closed_260 (by decide) ?_
        refine S_iconst (v := 3) C dL_closed_262 (by decide) ?_
        refine S_newa C (at0 := .int) (c0 := 0) (ty := .int) (N := 3) rfl rfl (fun h => h) (fun cA => rfl) (by decide) (by decide) (by decide) (by show _ ≤ 1000; omega) (by show _ ≤ 6000; omega) dL_closed_263 (fun q263 => ?_)
        refine S_dup C dL_closed_265 rfl ?_
        refine S_iconst (v := 0) C dL_closed_266 (by decide) ?_
        refine S_iconst (v := 0) C dL_closed_267 (by decide) ?_
        refine S_iast C 0 rfl 0 (by decide) (by decide) rfl (ar' := [(q263, 0, 3, (upd (fun _ => 0) 0 0))]) rfl dL_closed_268 ?_
        refine S_dup C dL_closed_269 rfl ?_
        refine S_iconst (v := 1) C dL_closed_270 (by decide) ?_
        refine S_iconst (v := 1) C dL_closed_271 (by decide) ?_
        refine S_iast C 0 rfl 1 (by decide) (by decide) rfl (ar' := [(q263, 0, 3, (upd (upd (fun _ => 0) 0 0) 1 1))]) rfl dL_closed_272 ?_
        refine S_dup C dL_closed_273 rfl ?_
        refine S_iconst (v := 2) C dL_closed_274 (by decide) ?_
        refine S_bipush (v := 60) C dL_closed_275 (by decide) ?_
        refine S_iast C 0 rfl 2 (by decide) (by decide) rfl (ar' := [(q263, 0, 3, (upd (upd (upd (fun _ => 0) 0 0) 1 1) 2 60))]) rfl dL_closed_277 ?_
        refine S_askN C (k_bid hfl (w10_W hs6 ht6) (n := 3) (g := (upd (upd (upd (fun _ => 0) 0 0) 1 1) 2 60)) (by decide) (by decide)) hw_L_ask mk_L_153 ⟨by decide, by decide⟩ (Nat.le_of_ble_eq_true rfl) ⟨(by show _ ≤ 1000; omega), (by show _ ≤ 6000; omega)⟩ dL_closed_278 (w_11 s hs6 t ht6 hne).2.1 (v := 100) (w_11 s hs6 t ht6 hne).2.2 (a2 := (w11 s t)) rfl ?_
        refine S_bipush (v := 100) C dL_closed_281 (by decide) ?_
        refine S_icmp_ne C 365 dL_closed_283 (by decide) (fun h => absurd rfl h) (fun _ => ?_)
        refine S_aload_n C dL_closed_286 rfl ?_
        refine S_bipush (v := 98) C dL_closed_287 (by decide) ?_
        refine S_iconst (v := 3) C dL_closed_289 (by decide) ?_
        refine S_newa C (at0 := .int) (c0 := 0) (ty := .int) (N := 3) rfl rfl (fun h => h) (fun cA => rfl) (by decide) (by decide) (by decide) (by show _ ≤ 1000; omega) (by show _ ≤ 6000; omega) dL_closed_290 (fun q290 => ?_)
        refine S_dup C dL_closed_292 rfl ?_
        refine S_iconst (v := 0) C dL_closed_293 (by decide) ?_
        refine S_iconst (v := 0) C dL_closed_294 (by decide) ?_
        refine S_iast C 0 rfl 0 (by decide) (by decide) rfl (ar' := [(q290, 0, 3, (upd (fun _ => 0) 0 0))]) rfl dL_closed_295 ?_
        refine S_dup C dL_closed_296 rfl ?_
        refine S_iconst (v := 1) C dL_closed_297 (by decide) ?_
        refine S_iconst (v := 0) C dL_closed_298 (by decide) ?_
        refine S_iast C 0 rfl 1 (by decide) (by decide) rfl (ar' := [(q290, 0, 3, (upd (upd (fun _ => 0) 0 0) 1 0))]) rfl dL_closed_299 ?_
        refine S_dup C dL_closed_300 rfl ?_
        refine S_iconst (v := 2) C dL_closed_301 (by decide) ?_
        refine S_bipush (v := 10) C dL_closed_302 (by decide) ?_
        refine S_iast C 0 rfl 2 (by decide) (by decide) rfl (ar' := [(q290, 0, 3, (upd (upd (upd (fun _ => 0) 0 0) 1 0) 2 10))]) rfl dL_closed_304 ?_
        refine S_askN C (k_bid hfl (w11_W hs6 ht6) (n := 3) (g := (upd (upd (upd (fun _ => 0) 0 0) 1 0) 2 10)) (by decide) (by decide)) hw_L_ask mk_L_153 ⟨by decide, by decide⟩ (Nat.le_of_ble_eq_true rfl) ⟨(by show _ ≤ 1000; omega), (by show _ ≤ 6000; omega)⟩ dL_closed_305 (w_12 s hs6 t ht6 hne).1 (v := 70) (w_12 s hs6 t ht6 hne).2 (a2 := (w12 s t)) rfl ?_
        refine S_bipush (v := 70) C dL_closed_308 (by decide) ?_
        refine S_icmp_ne C 365 dL_closed_310 (by decide) (fun h => absurd rfl h) (fun _ => ?_)
        refine S_aload_n C dL_closed_313 rfl ?_
        refine S_callf (R_V C (c_X3_bids hfl) mi_X3_bids mk_L_137 rfl (by decide) rfl (rfl : vwCl[5]? = some (RX3, TX3, 13)) (by decide) rfl (Nat.le_of_ble_eq_true rfl) ⟨(by show _ ≤ 1000; omega), (by show _ ≤ 6000; omega)⟩ dL_closed_314) ?_
        refine S_topi (w := 2) (w_13 s hs6 t ht6 hne).1 ?_
        refine S_iconst (v := 2) C dL_closed_317 (by decide) ?_
        refine S_icmp_ne C 365 dL_closed_318 (by decide) (fun h => absurd rfl h) (fun _ => ?_)
        refine S_aload_n C dL_closed_321 rfl ?_
        refine S_bipush (v := 117) C dL_closed_322 (by decide) ?_
        refine S_iconst (v := 2) C dL_closed_324 (by decide) ?_
        refine S_newa C (at0 := .int) (c0 := 0) (ty := .int) (N := 2) rfl rfl (fun h => h) (fun cA => rfl) (by decide) (by decide) (by decide) (by show _ ≤ 1000; omega) (by show _ ≤ 6000; omega) dL_closed_325 (fun q325 => ?_)
        refine S_dup C dL_closed_327 rfl ?_
        refine S_iconst (v := 0) C dL_closed_328 (by decide) ?_
        refine S_iconst (v := 0) C dL_closed_329 (by decide) ?_
        refine S_iast C 0 rfl 0 (by decide) (by decide) rfl (ar' := [(q325, 0, 2, (upd (fun _ => 0) 0 0))]) rfl dL_closed_330 ?_
        refine S_dup C dL_closed_331 rfl ?_
        refine S_iconst (v := 1) C dL_closed_332 (by decide) ?_
        refine S_iconst (v := 1) C dL_closed_333 (by decide) ?_
        refine S_iast C 0 rfl 1 (by decide) (by decide) rfl (ar' := [(q325, 0, 2, (upd (upd (fun _ => 0) 0 0) 1 1))]) rfl dL_closed_334 ?_
        refine S_askN C (k_unbid hfl (w12_W hs6 ht6) (n := 2) (g := (upd (upd (fun _ => 0) 0 0) 1 1)) (by decide) (by decide)) hw_L_ask mk_L_153 ⟨by decide, by decide⟩ (Nat.le_of_ble_eq_true rfl) ⟨(by show _ ≤ 1000; omega), (by show _ ≤ 6000; omega)⟩ dL_closed_335 (w_13 s hs6 t ht6 hne).2.1 (v := 60) (w_13 s hs6 t ht6 hne).2.2.1 (a2 := (w13 s t)) rfl ?_
        refine S_bipush (v := 60) C dL_closed_338 (by decide) ?_
        refine S_icmp_ne C 365 dL_closed_340 (by decide) (fun h => absurd rfl h) (fun _ => ?_)
        refine S_aload_n C dL_closed_343 rfl ?_
        refine S_bipush (v := 117) C dL_closed_344 (by decide) ?_
        refine S_iconst (v := 2) C dL_closed_346 (by decide) ?_
        refine S_newa C (at0 := .int) (c0 := 0) (ty := .int) (N := 2) rfl rfl (fun h => h) (fun cA => rfl) (by decide) (by decide) (by decide) (by show _ ≤ 1000; omega) (by show _ ≤ 6000; omega) dL_closed_347 (fun q347 => ?_)
        refine S_dup C dL_closed_349 rfl ?_
        refine S_iconst (v := 0) C dL_closed_350 (by decide) ?_
        refine S_iconst (v := 0) C dL_closed_351 (by decide) ?_
        refine S_iast C 0 rfl 0 (by decide) (by decide) rfl (ar' := [(q347, 0, 2, (upd (fun _ => 0) 0 0))]) rfl dL_closed_352 ?_
        refine S_dup C dL_closed_353 rfl ?_
        refine S_iconst (v := 1) C dL_closed_354 (by decide) ?_
        refine S_iconst (v := 1) C dL_closed_355 (by decide) ?_
        refine S_iast C 0 rfl 1 (by decide) (by decide) rfl (ar' := [(q347, 0, 2, (upd (upd (fun _ => 0) 0 0) 1 1))]) rfl dL_closed_356 ?_
        refine S_askX C (k_unbid hfl (w13_W hs6 ht6) (n := 2) (g := (upd (upd (fun _ => 0) 0 0) 1 1)) (by decide) (by decide)) hw_L_ask mk_L_153 ⟨by decide, by decide⟩ (Nat.le_of_ble_eq_true rfl) ⟨(by show _ ≤ 1000; omega), (by show _ ≤ 6000; omega)⟩ dL_closed_357 (v := (-2000000005)) (w_13 s hs6 t ht6 hne).2.2.2 (by decide) ?_
        refine S_ldc (v := (-2000000005)) C kc_L_121 dL_closed_360 ?_
        refine S_icmp_eq C 367 dL_closed_362 (by decide) (fun _ => ?_) (fun h => absurd rfl h)
        refine S_aload_n C dL_closed_367 rfl ?_
        refine S_bipush (v := 99) C dL_closed_368 (by decide) ?_
        refine S_iconst (v := 1) C dL_closed_370 (by decide) ?_
        refine S_newa C (at0 := .int) (c0 := 0) (ty := .int) (N := 1) rfl rfl (fun h => h) (fun cA => rfl) (by decide) (by decide) (by decide) (by show _ ≤ 1000; omega) (by show _ ≤ 6000; omega) dL_closed_371 (fun q371 => ?_)
        refine S_dup C dL_closed_373 rfl ?_
        refine S_iconst (v := 0) C dL_closed_374 (by decide) ?_
        refine S_iload_n C dL_closed_375 rfl ?_
        refine S_iast C 0 rfl 0 (by decide) (by decide) rfl (ar' := [(q371, 0, 1, (upd (fun _ => 0) 0 (nI s)))]) rfl dL_closed_376 ?_
        refine S_askN C (k_sit hfl (w13_W hs6 ht6) (n := 1) (g := (upd (fun _ => 0) 0 (nI s))) (by decide) (by decide)) hw_L_ask mk_L_153 ⟨by decide, by decide⟩ (Nat.le_of_ble_eq_true rfl) ⟨(by show _ ≤ 1000; omega), (by show _ ≤ 6000; omega)⟩ dL_closed_377 (w_14 s hs6 t ht6 hne).1 (v := 0) (w_14 s hs6 t ht6 hne).2.1 (a2 := (w14 s t)) rfl ?_
        refine S_if_ne C 467 dL_closed_380 (by decide) (fun h => absurd rfl h) (fun _ => ?_)
        refine S_aload_n C dL_closed_383 rfl ?_
        refine S_bipush (v := 99) C dL_closed_384 (by decide) ?_
        refine S_iconst (v := 1) C dL_closed_386 (by decide) ?_
        refine S_newa C (at0 := .int) (c0 := 0) (ty := .int) (N := 1) rfl rfl (fun h => h) (fun cA => rfl) (by decide) (by decide) (by decide) (by show _ ≤ 1000; omega) (by show _ ≤ 6000; omega) dL_closed_387 (fun q387 => ?_)
        refine S_dup C dL_closed_389 rfl ?_
        refine S_iconst (v := 0) C dL_closed_390 (by decide) ?_
        refine S_iload_n C dL_closed_391 rfl ?_
        refine S_iast C 0 rfl 0 (by decide) (by decide) rfl (ar' := [(q387, 0, 1, (upd (fun _ => 0) 0 (nI s)))]) rfl dL_closed_392 ?_
        refine S_askX C (k_sit hfl (w14_W hs6 ht6) (n := 1) (g := (upd (fun _ => 0) 0 (nI s))) (by decide) (by decide)) hw_L_ask mk_L_153 ⟨by decide, by decide⟩ (Nat.le_of_ble_eq_true rfl) ⟨(by show _ ≤ 1000; omega), (by show _ ≤ 6000; omega)⟩ dL_closed_393 (v := (-2000000004)) (w_14 s hs6 t ht6 hne).2.2.1 (by decide) ?_
        refine S_ldc (v := (-2000000004)) C kc_L_118 dL_closed_396 ?_
        refine S_icmp_ne C 467 dL_closed_398 (by decide) (fun h => absurd rfl h) (fun _ => ?_)
        refine S_aload_n C dL_closed_401 rfl ?_
        refine S_callf (R_V C (c_X3_bids hfl) mi_X3_bids mk_L_137 rfl (by decide) rfl (rfl : vwCl[5]? = some (RX3, TX3, 13)) (by decide) rfl (Nat.le_of_ble_eq_true rfl) ⟨(by show _ ≤ 1000; omega), (by show _ ≤ 6000; omega)⟩ dL_closed_402) ?_
        refine S_topi (w := 1) (w_14 s hs6 t ht6 hne).2.2.2.1 ?_
        refine S_iconst (v := 1) C dL_closed_405 (by decide) ?_
        refine S_icmp_ne C 467 dL_closed_406 (by decide) (fun h => absurd rfl h) (fun _ => ?_)
        refine S_aload_n C dL_closed_409 rfl ?_
        refine S_bipush (v := 98) C dL_closed_410 (by decide) ?_
        refine S_iconst (v := 3) C dL_closed_412 (by decide) ?_
        refine S_newa C (at0 := .int) (c0 := 0) (ty := .int) (N := 3) rfl rfl (fun h => h) (fun cA => rfl) (by decide) (by decide) (by decide) (by show _ ≤ 1000; omega) (by show _ ≤ 6000; omega) dL_closed_413 (fun q413 => ?_)
        refine S_dup C dL_closed_415 rfl ?_
        refine S_iconst (v := 0) C dL_closed_416 (by decide) ?_
        refine S_iconst (v := 0) C dL_closed_417 (by decide) ?_
        refine S_iast C 0 rfl 0 (by decide) (by decide) rfl (ar' := [(q413, 0, 3, (upd (fun _ => 0) 0 0))]) rfl dL_closed_418 ?_
        refine S_dup C dL_closed_419 rfl ?_
        refine S_iconst (v := 1) C dL_closed_420 (by decide) ?_
        refine S_iconst (v := 0) C dL_closed_421 (by decide) ?_
        refine S_iast C 0 rfl 1 (by decide) (by decide) rfl (ar' := [(q413, 0, 3, (upd (upd (fun _ => 0) 0 0) 1 0))]) rfl dL_closed_422 ?_
        refine S_dup C dL_closed_423 rfl ?_
        refine S_iconst (v := 2) C dL_closed_424 (by decide) ?_
        refine S_iconst (v := 5) C dL_closed_425 (by decide) ?_
        refine S_iast C 0 rfl 2 (by decide) (by decide) rfl (ar' := [(q413, 0, 3, (upd (upd (upd (fun _ => 0) 0 0) 1 0) 2 5))]) rfl dL_closed_426 ?_
        refine S_askX C (k_bid hfl (w14_W hs6 ht6) (n := 3) (g := (upd (upd (upd (fun _ => 0) 0 0) 1 0) 2 5)) (by decide) (by decide)) hw_L_ask mk_L_153 ⟨by decide, by decide⟩ (Nat.le_of_ble_eq_true rfl) ⟨(by show _ ≤ 1000; omega), (by show _ ≤ 6000; omega)⟩ dL_closed_427 (v := (-2000000004)) (w_14 s hs6 t ht6 hne).2.2.2.2.1 (by decide) ?_
        refine S_ldc (v := (-2000000004)) C kc_L_118 dL_closed_430 ?_
        refine S_icmp_ne C 467 dL_closed_432 (by decide) (fun h => absurd rfl h) (fun _ => ?_)
        refine S_aload_n C dL_closed_435 rfl ?_
        refine S_callf (R_V C (c_X3_settle hfl (w14_W hs6 ht6)) mi_X3_settle mk_L_140 rfl (by decide) rfl (rfl : vwCl[5]? = some (RX3, TX3, 13)) (by decide) rfl (Nat.le_of_ble_eq_true rfl) ⟨(by show _ ≤ 1000; omega), (by show _ ≤ 6000; omega)⟩ dL_closed_436) ?_
        refine S_mem (show a3_settle (w14 s t) = w15 s t from rfl) ?_
        refine S_topi (w := 0) (w_14 s hs6 t ht6 hne).2.2.2.2.2 ?_
        refine S_if_ne C 467 dL_closed_439 (by decide) (fun h => absurd rfl h) (fun _ => ?_)
        refine S_aload_n C dL_closed_442 rfl ?_
        refine S_callf (R_V C (c_X3_bids hfl) mi_X3_bids mk_L_137 rfl (by decide) rfl (rfl : vwCl[5]? = some (RX3, TX3, 13)) (by decide) rfl (Nat.le_of_ble_eq_true rfl) ⟨(by show _ ≤ 1000; omega), (by show _ ≤ 6000; omega)⟩ dL_closed_443) ?_
        refine S_topi (w := 0) (w_15 s hs6 t ht6 hne).1 ?_
        refine S_if_ne C 467 dL_closed_446 (by decide) (fun h => absurd rfl h) (fun _ => ?_)
        refine S_aload_n C dL_closed_449 rfl ?_
        refine S_bipush (v := 112) C dL_closed_450 (by decide) ?_
        refine S_iconst (v := 1) C dL_closed_452 (by decide) ?_
        refine S_newa C (at0 := .int) (c0 := 0) (ty := .int) (N := 1) rfl rfl (fun h => h) (fun cA => rfl) (by decide) (by decide) (by decide) (by show _ ≤ 1000; omega) (by show _ ≤ 6000; omega) dL_closed_453 (fun q453 => ?_)
        refine S_dup C dL_closed_455 rfl ?_
        refine S_iconst (v := 0) C dL_closed_456 (by decide) ?_
        refine S_iconst (v := 0) C dL_closed_457 (by decide) ?_
        refine S_iast C 0 rfl 0 (by decide) (by decide) rfl (ar' := [(q453, 0, 1, (upd (fun _ => 0) 0 0))]) rfl dL_closed_458 ?_
        refine S_askN C (k_points hfl (w15_W hs6 ht6) (n := 1) (g := (upd (fun _ => 0) 0 0)) (by decide) (by decide)) hw_L_ask mk_L_153 ⟨by decide, by decide⟩ (Nat.le_of_ble_eq_true rfl) ⟨(by show _ ≤ 1000; omega), (by show _ ≤ 6000; omega)⟩ dL_closed_459 (w_15 s hs6 t ht6 hne).2.1 (v := 100) (w_15 s hs6 t ht6 hne).2.2.1 rfl ?_
        refine S_bipush (v := 100) C dL_closed_462 (by decide) ?_
        refine S_icmp_eq C 469 dL_closed_464 (by decide) (fun _ => ?_) (fun h => absurd rfl h)
        refine S_aload_n C dL_closed_469 rfl ?_
        refine S_bipush (v := 79) C dL_closed_470 (by decide) ?_
        refine S_iconst (v := 4) C dL_closed_472 (by decide) ?_
        refine S_newa C (at0 := .int) (c0 := 0) (ty := .int) (N := 4) rfl rfl (fun h => h) (fun cA => rfl) (by decide) (by decide) (by decide) (by show _ ≤ 1000; omega) (by show _ ≤ 6000; omega) dL_closed_473 (fun q473 => ?_)
        refine S_dup C dL_closed_475 rfl ?_
        refine S_iconst (v := 0) C dL_closed_476 (by decide) ?_
        refine S_iconst (v := 0) C dL_closed_477 (by decide) ?_
        refine S_iast C 0 rfl 0 (by decide) (by decide) rfl (ar' := [(q473, 0, 4, (upd (fun _ => 0) 0 0))]) rfl dL_closed_478 ?_
        refine S_dup C dL_closed_479 rfl ?_
        refine S_iconst (v := 1) C dL_closed_480 (by decide) ?_
        refine S_iload_n C dL_closed_481 rfl ?_
        refine S_iast C 0 rfl 1 (by decide) (by decide) rfl (ar' := [(q473, 0, 4, (upd (upd (fun _ => 0) 0 0) 1 (nI s)))]) rfl dL_closed_482 ?_
        refine S_dup C dL_closed_483 rfl ?_
        refine S_iconst (v := 2) C dL_closed_484 (by decide) ?_
        refine S_iconst (v := 1) C dL_closed_485 (by decide) ?_
        refine S_iast C 0 rfl 2 (by decide) (by decide) rfl (ar' := [(q473, 0, 4, (upd (upd (upd (fun _ => 0) 0 0) 1 (nI s)) 2 1))]) rfl dL_closed_486 ?_
        refine S_dup C dL_closed_487 rfl ?_
        refine S_iconst (v := 3) C dL_closed_488 (by decide) ?_
        refine S_iconst (v := 0) C dL_closed_489 (by decide) ?_
        refine S_iast C 0 rfl 3 (by decide) (by decide) rfl (ar' := [(q473, 0, 4, (upd (upd (upd (upd (fun _ => 0) 0 0) 1 (nI s)) 2 1) 3 0))]) rfl dL_closed_490 ?_
        refine S_askX C (k_offer hfl (w15_W hs6 ht6) (n := 4) (g := (upd (upd (upd (upd (fun _ => 0) 0 0) 1 (nI s)) 2 1) 3 0)) (by decide) (by decide)) hw_L_ask mk_L_153 ⟨by decide, by decide⟩ (Nat.le_of_ble_eq_true rfl) ⟨(by show _ ≤ 1000; omega), (by show _ ≤ 6000; omega)⟩ dL_closed_491 (v := (-2000000004)) (w_15 s hs6 t ht6 hne).2.2.2.1 (by decide) ?_
        refine S_ldc (v := (-2000000004)) C kc_L_118 dL_closed_494 ?_
        refine S_icmp_ne C 654 dL_closed_496 (by decide) (fun h => absurd rfl h) (fun _ => ?_)
        refine S_aload_n C dL_closed_499 rfl ?_
        refine S_bipush (v := 109) C dL_closed_500 (by decide) ?_
        refine S_iconst (v := 2) C dL_closed_502 (by decide) ?_
        refine S_newa C (at0 := .int) (c0 := 0) (ty := .int) (N := 2) rfl rfl (fun h => h) (fun cA => rfl) (by decide) (by decide) (by decide) (by show _ ≤ 1000; omega) (by show _ ≤ 6000; omega) dL_closed_503 (fun q503 => ?_)
        refine S_dup C dL_closed_505 rfl ?_
        refine S_iconst (v := 0) C dL_closed_506 (by decide) ?_
        refine S_iconst (v := 0) C dL_closed_507 (by decide) ?_
        refine S_iast C 0 rfl 0 (by decide) (by decide) rfl (ar' := [(q503, 0, 2, (upd (fun _ => 0) 0 0))]) rfl dL_closed_508 ?_
        refine S_dup C dL_closed_509 rfl ?_
        refine S_iconst (v := 1) C dL_closed_510 (by decide) ?_
        refine S_iload_n C dL_closed_511 rfl ?_
        refine S_iast C 0 rfl 1 (by decide) (by decide) rfl (ar' := [(q503, 0, 2, (upd (upd (fun _ => 0) 0 0) 1 (nI t)))]) rfl dL_closed_512 ?_
        refine S_askX C (k_move hfl (w15_W hs6 ht6) (n := 2) (g := (upd (upd (fun _ => 0) 0 0) 1 (nI t))) (by decide) (by decide)) hw_L_ask mk_L_153 ⟨by decide, by decide⟩ (Nat.le_of_ble_eq_true rfl) ⟨(by show _ ≤ 1000; omega), (by show _ ≤ 6000; omega)⟩ dL_closed_513 (v := (-2000000004)) (w_15 s hs6 t ht6 hne).2.2.2.2.1 (by decide) ?_
        refine S_ldc (v := (-2000000004)) C kc_L_118 dL_closed_516 ?_
        refine S_icmp_ne C 654 dL_closed_518 (by decide) (fun h => absurd rfl h) (fun _ => ?_)
        refine S_aload_n C dL_closed_521 rfl ?_
        refine S_bipush (v := 109) C dL_closed_522 (by decide) ?_
        refine S_iconst (v := 2) C dL_closed_524 (by decide) ?_
        refine S_newa C (at0 := .int) (c0 := 0) (ty := .int) (N := 2) rfl rfl (fun h => h) (fun cA => rfl) (by decide) (by decide) (by decide) (by show _ ≤ 1000; omega) (by show _ ≤ 6000; omega) dL_closed_525 (fun q525 => ?_)
        refine S_dup C dL_closed_527 rfl ?_
        refine S_iconst (v := 0) C dL_closed_528 (by decide) ?_
        refine S_iconst (v := 1) C dL_closed_529 (by decide) ?_
        refine S_iast C 0 rfl 0 (by decide) (by decide) rfl (ar' := [(q525, 0, 2, (upd (fun _ => 0) 0 1))]) rfl dL_closed_530 ?_
        refine S_dup C dL_closed_531 rfl ?_
        refine S_iconst (v := 1) C dL_closed_532 (by decide) ?_
        refine S_iload_n C dL_closed_533 rfl ?_
        refine S_iast C 0 rfl 1 (by decide) (by decide) rfl (ar' := [(q525, 0, 2, (upd (upd (fun _ => 0) 0 1) 1 (nI s)))]) rfl dL_closed_534 ?_
        refine S_askX C (k_move hfl (w15_W hs6 ht6) (n := 2) (g := (upd (upd (fun _ => 0) 0 1) 1 (nI s))) (by decide) (by decide)) hw_L_ask mk_L_153 ⟨by decide, by decide⟩ (Nat.le_of_ble_eq_true rfl) ⟨(by show _ ≤ 1000; omega), (by show _ ≤ 6000; omega)⟩ dL_closed_535 (v := (-2000000004)) (w_15 s hs6 t ht6 hne).2.2.2.2.2.1 (by decide) ?_
        refine S_ldc (v := (-2000000004)) C kc_L_118 dL_closed_538 ?_
        refine S_icmp_ne C 654 dL_closed_540 (by decide) (fun h => absurd rfl h) (fun _ => ?_)
        refine S_aload_n C dL_closed_543 rfl ?_
        refine S_bipush (v := 109) C dL_closed_544 (by decide) ?_
        refine S_iconst (v := 2) C dL_closed_546 (by decide) ?_
        refine S_newa C (at0 := .int) (c0 := 0) (ty := .int) (N := 2) rfl rfl (fun h => h) (fun cA => rfl) (by decide) (by decide) (by decide) (by show _ ≤ 1000; omega) (by show _ ≤ 6000; omega) dL_closed_547 (fun q547 => ?_)
        refine S_dup C dL_closed_549 rfl ?_
        refine S_iconst (v := 0) C dL_closed_550 (by decide) ?_
        refine S_iconst (v := 1) C dL_closed_551 (by decide) ?_
        refine S_iast C 0 rfl 0 (by decide) (by decide) rfl (ar' := [(q547, 0, 2, (upd (fun _ => 0) 0 1))]) rfl dL_closed_552 ?_
        refine S_dup C dL_closed_553 rfl ?_
        refine S_iconst (v := 1) C dL_closed_554 (by decide) ?_
        refine S_iload_n C dL_closed_555 rfl ?_
        refine S_iast C 0 rfl 1 (by decide) (by decide) rfl (ar' := [(q547, 0, 2, (upd (upd (fun _ => 0) 0 1) 1 (nI t)))]) rfl dL_closed_556 ?_
        refine S_askX C (k_move hfl (w15_W hs6 ht6) (n := 2) (g := (upd (upd (fun _ => 0) 0 1) 1 (nI t))) (by decide) (by decide)) hw_L_ask mk_L_153 ⟨by decide, by decide⟩ (Nat.le_of_ble_eq_true rfl) ⟨(by show _ ≤ 1000; omega), (by show _ ≤ 6000; omega)⟩ dL_closed_557 (v := (-2000000004)) (w_15 s hs6 t ht6 hne).2.2.2.2.2.2.1 (by decide) ?_
        refine S_ldc (v := (-2000000004)) C kc_L_118 dL_closed_560 ?_
        refine S_icmp_ne C 654 dL_closed_562 (by decide) (fun h => absurd rfl h) (fun _ => ?_)
        refine S_aload_n C dL_closed_565 rfl ?_
        refine S_bipush (v := 109) C dL_closed_566 (by decide) ?_
        refine S_iconst (v := 2) C dL_closed_568 (by decide) ?_
        refine S_newa C (at0 := .int) (c0 := 0) (ty := .int) (N := 2) rfl rfl (fun h => h) (fun cA => rfl) (by decide) (by decide) (by decide) (by show _ ≤ 1000; omega) (by show _ ≤ 6000; omega) dL_closed_569 (fun q569 => ?_)
        refine S_dup C dL_closed_571 rfl ?_
        refine S_iconst (v := 0) C dL_closed_572 (by decide) ?_
        refine S_iconst (v := 1) C dL_closed_573 (by decide) ?_
        refine S_iast C 0 rfl 0 (by decide) (by decide) rfl (ar' := [(q569, 0, 2, (upd (fun _ => 0) 0 1))]) rfl dL_closed_574 ?_
        refine S_dup C dL_closed_575 rfl ?_
        refine S_iconst (v := 1) C dL_closed_576 (by decide) ?_
        refine S_bipush (v := 6) C dL_closed_577 (by decide) ?_
        refine S_iast C 0 rfl 1 (by decide) (by decide) rfl (ar' := [(q569, 0, 2, (upd (upd (fun _ => 0) 0 1) 1 6))]) rfl dL_closed_579 ?_
        refine S_askX C (k_move hfl (w15_W hs6 ht6) (n := 2) (g := (upd (upd (fun _ => 0) 0 1) 1 6)) (by decide) (by decide)) hw_L_ask mk_L_153 ⟨by decide, by decide⟩ (Nat.le_of_ble_eq_true rfl) ⟨(by show _ ≤ 1000; omega), (by show _ ≤ 6000; omega)⟩ dL_closed_580 (v := (-2000000002)) (w_15 s hs6 t ht6 hne).2.2.2.2.2.2.2.1 (by decide) ?_
        refine S_ldc (v := (-2000000002)) C kc_L_112 dL_closed_583 ?_
        refine S_icmp_ne C 654 dL_closed_585 (by decide) (fun h => absurd rfl h) (fun _ => ?_)
        refine S_aload_n C dL_closed_588 rfl ?_
        refine S_bipush (v := 103) C dL_closed_589 (by decide) ?_
        refine S_iconst (v := 2) C dL_closed_591 (by decide) ?_
        refine S_newa C (at0 := .int) (c0 := 0) (ty := .int) (N := 2) rfl rfl (fun h => h) (fun cA => rfl) (by decide) (by decide) (by decide) (by show _ ≤ 1000; omega) (by show _ ≤ 6000; omega) dL_closed_592 (fun q592 => ?_)
        refine S_dup C dL_closed_594 rfl ?_
        refine S_iconst (v := 0) C dL_closed_595 (by decide) ?_
        refine S_iconst (v := 0) C dL_closed_596 (by decide) ?_
        refine S_iast C 0 rfl 0 (by decide) (by decide) rfl (ar' := [(q592, 0, 2, (upd (fun _ => 0) 0 0))]) rfl dL_closed_597 ?_
        refine S_dup C dL_closed_598 rfl ?_
        refine S_iconst (v := 1) C dL_closed_599 (by decide) ?_
        refine S_iconst (v := 0) C dL_closed_600 (by decide) ?_
        refine S_iast C 0 rfl 1 (by decide) (by decide) rfl (ar' := [(q592, 0, 2, (upd (upd (fun _ => 0) 0 0) 1 0))]) rfl dL_closed_601 ?_
        refine S_askX C (k_giveUp hfl (w15_W hs6 ht6) (n := 2) (g := (upd (upd (fun _ => 0) 0 0) 1 0)) (by decide) (by decide)) hw_L_ask mk_L_153 ⟨by decide, by decide⟩ (Nat.le_of_ble_eq_true rfl) ⟨(by show _ ≤ 1000; omega), (by show _ ≤ 6000; omega)⟩ dL_closed_602 (v := (-2000000004)) (w_15 s hs6 t ht6 hne).2.2.2.2.2.2.2.2.1 (by decide) ?_
        refine S_ldc (v := (-2000000004)) C kc_L_118 dL_closed_605 ?_
        refine S_icmp_ne C 654 dL_closed_607 (by decide) (fun h => absurd rfl h) (fun _ => ?_)
        refine S_aload_n C dL_closed_610 rfl ?_
        refine S_bipush (v := 107) C dL_closed_611 (by decide) ?_
        refine S_iconst (v := 3) C dL_closed_613 (by decide) ?_
        refine S_newa C (at0 := .int) (c0 := 0) (ty := .int) (N := 3) rfl rfl (fun h => h) (fun cA => rfl) (by decide) (by decide) (by decide) (by show _ ≤ 1000; omega) (by show _ ≤ 6000; omega) dL_closed_614 (fun q614 => ?_)
        refine S_dup C dL_closed_616 rfl ?_
        refine S_iconst (v := 0) C dL_closed_617 (by decide) ?_
        refine S_iconst (v := 0) C dL_closed_618 (by decide) ?_
        refine S_iast C 0 rfl 0 (by decide) (by decide) rfl (ar' := [(q614, 0, 3, (upd (fun _ => 0) 0 0))]) rfl dL_closed_619 ?_
        refine S_dup C dL_closed_620 rfl ?_
        refine S_iconst (v := 1) C dL_closed_621 (by decide) ?_
        refine S_iconst (v := 0) C dL_closed_622 (by decide) ?_
        refine S_iast C 0 rfl 1 (by decide) (by decide) rfl (ar' := [(q614, 0, 3, (upd (upd (fun _ => 0) 0 0) 1 0))]) rfl dL_closed_623 ?_
        refine S_dup C dL_closed_624 rfl ?_
        refine S_iconst (v := 2) C dL_closed_625 (by decide) ?_
        refine S_iconst (v := 0) C dL_closed_626 (by decide) ?_
        refine S_iast C 0 rfl 2 (by decide) (by decide) rfl (ar' := [(q614, 0, 3, (upd (upd (upd (fun _ => 0) 0 0) 1 0) 2 0))]) rfl dL_closed_627 ?_
        refine S_askN C (k_hasSat hfl (w15_W hs6 ht6) (n := 3) (g := (upd (upd (upd (fun _ => 0) 0 0) 1 0) 2 0)) (by decide) (by decide)) hw_L_ask mk_L_153 ⟨by decide, by decide⟩ (Nat.le_of_ble_eq_true rfl) ⟨(by show _ ≤ 1000; omega), (by show _ ≤ 6000; omega)⟩ dL_closed_628 (w_15 s hs6 t ht6 hne).2.2.2.2.2.2.2.2.2.1 (v := 0) (w_15 s hs6 t ht6 hne).2.2.2.2.2.2.2.2.2.2 rfl ?_
        refine S_if_ne C 654 dL_closed_631 (by decide) (fun h => absurd rfl h) (fun _ => ?_)
        refine S_aload_n C dL_closed_634 rfl ?_
        refine S_callF (w_16 s hs6 t ht6 hne).2.2.2.2.1 (RX_V C (c_X3_takenShare hfl (w15_W hs6 ht6) (fun i hi => ((w_16 s hs6 t ht6 hne).2.2.1 i (by rw [(w_16 s hs6 t ht6 hne).2.1] at hi; exact hi)).2.2.2.2)) mi_X3_takenShare mk_L_122 rfl (by decide) rfl (rfl : vwCl[5]? = some (RX3, TX3, 13)) (by decide) rfl (Nat.le_of_ble_eq_true rfl) ⟨(by show _ ≤ 1000; omega), (by show _ ≤ 6000; omega)⟩ dL_closed_635) ?_
        refine S_fconst0 C dL_closed_638 ?_
        refine S_fcmp C dL_closed_639 ?_
        refine S_topi (w := 0) (by rw [(w_16 s hs6 t ht6 hne).2.1, (w_16 s hs6 t ht6 hne).2.2.2.2.2.1, (w_16 s hs6 t ht6 hne).2.2.2.2.2.2]; exact w_share) ?_
        refine S_if_ne C 654 dL_closed_640 (by decide) (fun h => absurd rfl h) (fun _ => ?_)
        refine S_aload_n C dL_closed_643 rfl ?_
        refine S_callf (R_V C (c_X3_isTrue hfl (w15_W hs6 ht6) (fun p hp => w_clash hs6 ht6 hne hp) (fun p hp => by rw [(w_16 s hs6 t ht6 hne).1] at hp; rw [show p = 0 by omega]; exact (w_16 s hs6 t ht6 hne).2.2.2.1) (fun i hi => ((w_16 s hs6 t ht6 hne).2.2.1 i (by rw [(w_16 s hs6 t ht6 hne).2.1] at hi; exact hi)).2.1) (fun i hi k hk => by rw [(w_16 s hs6 t ht6 hne).2.1] at hi; rw [((w_16 s hs6 t ht6 hne).2.2.1 i hi).2.2.1] at hk; omega) (fun i hi => by rw [(w_16 s hs6 t ht6 hne).2.1] at hi ⊢; exact ((w_16 s hs6 t ht6 hne).2.2.1 i hi).2.2.2.1)) mi_X3_isTrue mk_L_149 rfl (by decide) rfl (rfl : vwCl[5]? = some (RX3, TX3, 13)) (by decide) rfl (Nat.le_of_ble_eq_true rfl) ⟨(by show _ ≤ 1000; omega), (by show _ ≤ 6000; omega)⟩ dL_closed_644) ?_
        refine S_if_eq C 654 dL_closed_647 (by decide) (fun h => absurd h (by decide)) (fun _ => ?_)
        refine S_iconst (v := 1) C dL_closed_650 (by decide) ?_
        refine S_goto C 655 dL_closed_651 (by decide) ?_
        exact S_one C hAW hr dL_closed_655 ⟨(by show _ ≤ 1000; omega), (by show _ ≤ 6000; omega)⟩
      · refine S_aload_n C dL_closed_163 rfl ?_
        refine S_bipush (v := 120) C dL_closed_164 (by decide) ?_
        refine S_iconst (v := 5) C dL_closed_166 (by decide) ?_
        refine S_newa C (at0 := .int) (c0 := 0) (ty := .int) (N := 5) rfl rfl (fun h => h) (fun cA => rfl) (by decide) (by decide) (by decide) (by show _ ≤ 1000; omega) (by show _ ≤ 6000; omega) dL_closed_167 (fun q167 => ?_)
        refine S_dup C dL_closed_169 rfl ?_
        refine S_iconst (v := 0) C dL_closed_170 (by decide) ?_
        refine S_iload C dL_closed_171 rfl ?_
        refine S_iast C 0 rfl 0 (by decide) (by decide) rfl (ar' := [(q167, 0, 5, (upd (fun _ => 0) 0 (nI k)))]) rfl dL_closed_173 ?_
        refine S_dup C dL_closed_174 rfl ?_
        refine S_iconst (v := 1) C dL_closed_175 (by decide) ?_
        refine S_iconst (v := 0) C dL_closed_176 (by decide) ?_
        refine S_iast C 0 rfl 1 (by decide) (by decide) rfl (ar' := [(q167, 0, 5, (upd (upd (fun _ => 0) 0 (nI k)) 1 0))]) rfl dL_closed_177 ?_
        refine S_dup C dL_closed_178 rfl ?_
        refine S_iconst (v := 2) C dL_closed_179 (by decide) ?_
        refine S_iconst (v := 0) C dL_closed_180 (by decide) ?_
        refine S_iast C 0 rfl 2 (by decide) (by decide) rfl (ar' := [(q167, 0, 5, (upd (upd (upd (fun _ => 0) 0 (nI k)) 1 0) 2 0))]) rfl dL_closed_181 ?_
        refine S_dup C dL_closed_182 rfl ?_
        refine S_iconst (v := 3) C dL_closed_183 (by decide) ?_
        refine S_bipush (v := 114) C dL_closed_184 (by decide) ?_
        refine S_iast C 0 rfl 3 (by decide) (by decide) rfl (ar' := [(q167, 0, 5, (upd (upd (upd (upd (fun _ => 0) 0 (nI k)) 1 0) 2 0) 3 114))]) rfl dL_closed_186 ?_
        refine S_dup C dL_closed_187 rfl ?_
        refine S_iconst (v := 4) C dL_closed_188 (by decide) ?_
        refine S_iconst (v := 1) C dL_closed_189 (by decide) ?_
        refine S_iast C 0 rfl 4 (by decide) (by decide) rfl (ar' := [(q167, 0, 5, (upd (upd (upd (upd (upd (fun _ => 0) 0 (nI k)) 1 0) 2 0) 3 114) 4 1))]) rfl dL_closed_190 ?_
        refine S_askN C (k_write hfl (w7_W hs6 ht6 _ hk) (n := 5) (g := (upd (upd (upd (upd (upd (fun _ => 0) 0 (nI k)) 1 0) 2 0) 3 114) 4 1)) (by decide) (by decide) (f3 := 114) (by show ((114 : Int32).toUInt32 % 65536).toInt32 = 114; decide)) hw_L_ask mk_L_153 ⟨by decide, by decide⟩ (Nat.le_of_ble_eq_true rfl) ⟨(by show _ ≤ 1000; omega), (by show _ ≤ 6000; omega)⟩ dL_closed_191 (w_7 s hs6 t ht6 hne k h160).1 (v := 0) (w_7 s hs6 t ht6 hne k h160).2 (a2 := (w7 s t (k + 1))) rfl ?_
        refine S_if_eq C 199 dL_closed_194 (by decide) (fun _ => ?_) (fun h => absurd rfl h)
        refine S_iinc (v := (nI (k + 1))) C dL_closed_199 rfl (nI_1 _) (by decide) (lv' := [some (.ref bA), some (.ref (x.2.1 0)), some (.int (nI s)), some (.int (nI t)), some (.int (nI (k + 1)))]) rfl ?_
        refine S_goto C 157 dL_closed_202 (by decide) ?_
        exact S_cs (k := 90 + 6 * (k + 1)) (n := 1534 + 35 * (k + 1)) (by omega) (by omega) (ih157 (k + 1) (by omega) (by omega))
  refine S_mem (show w6 s t = w7 s t 0 from rfl) ?_
  exact S_cs (k := 90 + 6 * 0) (n := 1534 + 35 * 0) (by omega) (by omega) (L157 _ 0 (Nat.zero_le _) (Nat.lt_succ_self _))
