/-! full rows of rooms, exams, pupils, offers -/
def fR (k : Nat) : Mem := fun c j => if c = 0 ∧ j = 7 then nI k else if c = 66 ∧ j < k then 6 else a00 c j
def fE (k : Nat) : Mem := fun c j => if c = 0 ∧ j = 8 then nI k else fR 3 c j
def fP (k : Nat) : Mem := fun c j => if c = 0 ∧ j = 9 then nI k else if c = 67 ∧ j < k then 100 else fE 6 c j
def fQ (k : Nat) : Mem := fun c j => if c = 0 ∧ j = 10 then nI k else if 18 ≤ c ∧ c < 18 + 4 * k ∧ (c - 18) % 4 = 0 ∧ j < 5 then (if j = 0 then nI ((c - 18) / 4 % 6) else if j = 1 then nI ((c - 18) / 4 % 6) else if j = 2 then nI ((c - 18) / 4 / 6) else if j = 3 then 6 else 0) else fP 10 c j
theorem fR_0 : a00 = fR 0 := by
  funext c j
  unfold fR
  by_cases h : c = 0 ∧ j = 7
  · rw [if_pos h, h.1, a00_0 (by omega)]; rfl
  · rw [if_neg h, if_neg (by omega)]
theorem fR_n {k : Nat} (h : k < 100) : nR (fR k) = k := tn_nI (by omega)
theorem fR_s {k : Nat} (h : k < 100) : a3_room (fR k) 6 = fR (k + 1) := by
  show up2 (up2 (fR k) 66 (nR (fR k)) 6) 0 7 (nI (nR (fR k) + 1)) = _
  rw [fR_n h]
  funext c j
  simp only [up2, fR]
  grind
theorem fR_W : ∀ k, k ≤ 3 → WC (fR k) := by
  intro k
  induction k with
  | zero => intro _; rw [← fR_0]; exact WC_00
  | succ k ih =>
    intro h
    rw [← fR_s (by omega)]
    exact (ih (by omega)).room (by rw [fR_n (by omega)]; omega)
theorem fE_0 : fR 3 = fE 0 := by
  funext c j
  unfold fE
  by_cases h : c = 0 ∧ j = 8
  · rw [if_pos h, h.1, h.2]; rfl
  · rw [if_neg h]
theorem fE_n {k : Nat} (h : k < 100) : nE (fE k) = k := tn_nI (by omega)
theorem fE_s {k : Nat} (h : k < 100) : up2 (fE k) 0 8 (nI (nE (fE k) + 1)) = fE (k + 1) := by
  rw [fE_n h]
  funext c j
  simp only [up2, fE]
  grind
theorem fE_W : ∀ k, k ≤ 6 → WC (fE k) := by
  intro k
  induction k with
  | zero => intro _; rw [← fE_0]; exact fR_W 3 (Nat.le_refl _)
  | succ k ih =>
    intro h
    rw [← fE_s (by omega)]
    exact (ih (by omega)).exam (by rw [fE_n (by omega)]; omega)
theorem fP_0 : fE 6 = fP 0 := by
  funext c j
  unfold fP
  by_cases h : c = 0 ∧ j = 9
  · rw [if_pos h, h.1, h.2]; rfl
  · rw [if_neg h, if_neg (by omega)]
theorem fP_n {k : Nat} (h : k < 100) : nP (fP k) = k := tn_nI (by omega)
theorem fP_s {k : Nat} (h : k < 100) : up2 (up2 (fP k) 67 (nP (fP k)) 100) 0 9 (nI (nP (fP k) + 1)) = fP (k + 1) := by
  rw [fP_n h]
  funext c j
  simp only [up2, fP]
  grind
theorem fP_W : ∀ k, k ≤ 10 → WC (fP k) := by
  intro k
  induction k with
  | zero => intro _; rw [← fP_0]; exact fE_W 6 (Nat.le_refl _)
  | succ k ih =>
    intro h
    rw [← fP_s (by omega)]
    exact (ih (by omega)).pupil (by rw [fP_n (by omega)]; omega)
theorem fQ_0 : fP 10 = fQ 0 := by
  funext c j
  unfold fQ
  by_cases h : c = 0 ∧ j = 10
  · rw [if_pos h, h.1, h.2]; rfl
  · rw [if_neg h, if_neg (by omega)]
theorem fQ_n {k : Nat} (h : k < 100) : nO (fQ k) = k := tn_nI (by omega)
theorem fQ_66 {k r : Nat} (hk : k ≤ 12) (h : r < 3) : fQ k 66 r = 6 := by
  unfold fQ
  rw [if_neg (by omega), if_neg (by omega)]
  unfold fP
  rw [if_neg (by omega), if_neg (by omega)]
  unfold fE
  rw [if_neg (by omega)]
  unfold fR
  rw [if_neg (by omega), if_pos ⟨rfl, h⟩]
theorem fQ_s {k : Nat} (h : k < 12) : a3_offer (fQ k) (nI (k % 6)) (nI (k % 6)) (nI (k / 6)) (bI (decide ((0 : Int32) = 1))) = fQ (k + 1) := by
  unfold a3_offer a3_open
  rw [fQ_n (by omega), tn_nI (by omega), fQ_66 (by omega) (by omega)]
  have e0 : bI (decide ((0 : Int32) = 1)) = 0 := rfl
  rw [e0]
  funext c j
  by_cases hc : c = 18 + 4 * k ∧ j < 5
  · obtain ⟨rfl, hj⟩ := hc
    have e4 : (18 + 4 * k - 18) / 4 = k := by omega
    have hR : fQ (k + 1) (18 + 4 * k) j = if j = 0 then nI (k % 6) else if j = 1 then nI (k % 6) else if j = 2 then nI (k / 6) else if j = 3 then 6 else 0 := by
      unfold fQ
      rw [if_neg (by omega), if_pos ⟨by omega, by omega, by omega, hj⟩, e4]
    rw [hR]
    rcases (show j = 0 ∨ j = 1 ∨ j = 2 ∨ j = 3 ∨ j = 4 by omega) with rfl | rfl | rfl | rfl | rfl <;> simp [up2]
  · have hR : fQ (k + 1) c j = if c = 0 ∧ j = 10 then nI (k + 1) else fQ k c j := by
      unfold fQ
      by_cases h0 : c = 0 ∧ j = 10
      · rw [if_pos h0, if_pos h0]
      · rw [if_neg h0, if_neg h0, if_neg h0]
        by_cases h1 : 18 ≤ c ∧ c < 18 + 4 * k ∧ (c - 18) % 4 = 0 ∧ j < 5
        · rw [if_pos ⟨h1.1, by omega, h1.2.2⟩, if_pos h1]
        · rw [if_neg (by omega), if_neg h1]
    rw [hR]
    by_cases h0 : c = 0 ∧ j = 10
    · obtain ⟨rfl, rfl⟩ := h0
      simp [up2]
    · rw [if_neg h0, up2_o (by omega), up2_o (by omega), up2_o (by omega), up2_o (by omega), up2_o (by omega), up2_o (by omega)]
theorem fQ_W : ∀ k, k ≤ 12 → WC (fQ k) := by
  intro k
  induction k with
  | zero => intro _; rw [← fQ_0]; exact fP_W 10 (Nat.le_refl _)
  | succ k ih =>
    intro h
    rw [← fQ_s (by omega)]
    refine (ih (by omega)).offer (by rw [fQ_n (by omega)]; omega) (isN.of rfl (by omega) (by decide)) (isN.of rfl (by omega) (by decide)) (Or.inl rfl) ?_
    rw [tn_nI (by omega), fQ_66 (by omega) (by omega)]
    exact isN.of (k := 6) rfl (by omega) (by decide)
theorem f_room : ∀ k, k < 3 → gn (g3_room (fR k) 6) = 0 := by decide +kernel
theorem f_exam : ∀ k, k < 6 → gn (g3_exam (fE k)) = 0 := by decide +kernel
theorem f_pupil : ∀ k, k < 10 → gn (g3_pupil (fP k)) = 0 := by decide +kernel
theorem f_points : ∀ k, k < 10 → gn (gP (fP (k + 1)) (nI k)) = 0 ∧ fP (k + 1) 67 (tn (nI k)) = 100 := by decide +kernel
theorem f_offer : ∀ k, k < 12 → gn (g3_offer (fQ k) (nI (k % 6)) (nI (k % 6)) (nI (k / 6))) = 0 := by decide +kernel
theorem f_slot : ∀ k, k < 12 → gn (gQ (fQ (k + 1)) (nI k)) = 0 ∧ fQ (k + 1) (18 + 4 * tn (nI k)) 1 = nI (k % 6) := by decide +kernel
theorem f_mod : ∀ k, k < 12 → nI k - nI k / 6 * 6 = nI (k % 6) ∧ nI k / 6 = nI (k / 6) := by decide +kernel
theorem f_end : gn (g3_room (fQ 12) 1) = -2000000003 ∧ gn (g3_exam (fQ 12)) = -2000000003 ∧ gn (g3_pupil (fQ 12)) = -2000000003 ∧ gn (g3_offer (fQ 12) 0 0 2) = -2000000003 ∧ gn (g3_offer (fQ 12) 0 6 0) = -2000000002 ∧ gn (g3_offer (fQ 12) 0 0 0) = -2000000004 := by decide +kernel
theorem f_st : ∀ i, i < 12 → 1 ≤ stN (fQ 12) i := by decide +kernel
theorem f_sum : sumK (nTaken (fQ 12)) (nO (fQ 12)) = 0 ∧ sumK (stN (fQ 12)) (nO (fQ 12)) = 72 ∧ sumN (fQ 12 67) (nP (fQ 12)) = 1000 ∧ fQ 12 0 9 = 10 := by decide +kernel
theorem f_share : Op.cmpValue (FP.fcmp (shF (nI 0) (nI 72)) FP.fconst0) .l = 0 := by decide +kernel
theorem f_mean : Op.cmpValue (FP.dcmp (mnF 1000 10) 4636737291354636288) .l = 0 := by decide +kernel
set_option maxHeartbeats 8000000 in
set_option maxRecDepth 100000 in
theorem m_full {l : Launch} {D : va_G} {T : Nat → ClassId}  (hfl : l.stackTraces = false) : LM l yL_full cL_full 2 13 700 1000 6000 [] D T (fun _ => True) := by
  refine LM.of hfl rfl (by decide) [none, none] rfl rfl (Nat.le_of_ble_eq_true rfl) (k := 0) dL_full_0 dL_full_3 dL_full_4 dL_full_7 (by decide) (by decide) (by decide) (by decide) (fun q => [some (.ref q), none]) (fun q => rfl) ?_
  intro pP eE sS mM argsA belowB methM cC x C hAW hxB hr hZ
  refine S_iconst (v := 0) C dL_full_8 (by decide) ?_
  refine S_istore_n C dL_full_9 (by decide) (lv' := [some (.ref (x.2.1 0)), some (.int 0)]) rfl ?_
  have L10 : ∀ (fuel : Nat) (k : Nat), k ≤ 3 → 3 - k < fuel → SS pP l eE ({ frames := 13, cells := 1000, slots := 6000, locals := 700 } : Room) sS mM argsA belowB methM cC (MQ belowB (Q1 sS.heap.size) argsA sS 1000 6000 (fun q => sS.heap.size ≤ q)) x 2 (fR k) [] (70 + 2 * k) (1440 + 7 * k) 10 [some (.ref (x.2.1 0)), some (.int (nI k))] [] := by
    intro fuel
    induction fuel with
    | zero => intro k hk hm; exact absurd hm (Nat.not_lt_zero _)
    | succ fuel ih10 =>
      intro k hk hm
      refine S_iload_n C dL_full_10 rfl ?_
      refine S_iconst (v := (nI 3)) C dL_full_11 (by decide) ?_
      refine S_lt C 41 dL_full_12 (by decide) (by omega) (by omega) (fun h12 => ?_) (fun h12 => ?_)
      · obtain rfl : k = 3 := by omega
        refine S_iconst (v := 0) C dL_full_41 (by decide) ?_
        refine S_istore_n C dL_full_42 (by decide) (lv' := [some (.ref (x.2.1 0)), some (.int 0)]) rfl ?_
        have L43 : ∀ (fuel : Nat) (k : Nat), k ≤ 6 → 6 - k < fuel → SS pP l eE ({ frames := 13, cells := 1000, slots := 6000, locals := 700 } : Room) sS mM argsA belowB methM cC (MQ belowB (Q1 sS.heap.size) argsA sS 1000 6000 (fun q => sS.heap.size ≤ q)) x 2 (fE k) [] (76 + 2 * k) (1461 + 6 * k) 43 [some (.ref (x.2.1 0)), some (.int (nI k))] [] := by
          intro fuel
          induction fuel with
          | zero => intro k hk hm; exact absurd hm (Nat.not_lt_zero _)
          | succ fuel ih43 =>
            intro k hk hm
            refine S_iload_n C dL_full_43 rfl ?_
            refine S_bipush (v := (nI 6)) C dL_full_44 (by decide) ?_
            refine S_lt C 70 dL_full_46 (by decide) (by omega) (by omega) (fun h46 => ?_) (fun h46 => ?_)
            · obtain rfl : k = 6 := by omega
              refine S_iconst (v := 0) C dL_full_70 (by decide) ?_
              refine S_istore_n C dL_full_71 (by decide) (lv' := [some (.ref (x.2.1 0)), some (.int 0)]) rfl ?_
              have L72 : ∀ (fuel : Nat) (k : Nat), k ≤ 10 → 10 - k < fuel → SS pP l eE ({ frames := 13, cells := 1000, slots := 6000, locals := 700 } : Room) sS mM argsA belowB methM cC (MQ belowB (Q1 sS.heap.size) argsA sS 1000 6000 (fun q => sS.heap.size ≤ q)) x 2 (fP k) [] (88 + 4 * k) (1497 + 13 * k) 72 [some (.ref (x.2.1 0)), some (.int (nI k))] [] := by
                intro fuel
                induction fuel with
                | zero => intro k hk hm; exact absurd hm (Nat.not_lt_zero _)
                | succ fuel ih72 =>
                  intro k hk hm
                  refine S_iload_n C dL_full_72 rfl ?_
                  refine S_bipush (v := (nI 10)) C dL_full_73 (by decide) ?_
                  refine S_lt C 117 dL_full_75 (by decide) (by omega) (by omega) (fun h75 => ?_) (fun h75 => ?_)
                  · obtain rfl : k = 10 := by omega
                    refine S_iconst (v := 0) C dL_full_117 (by decide) ?_
                    refine S_istore_n C dL_full_118 (by decide) (lv' := [some (.ref (x.2.1 0)), some (.int 0)]) rfl ?_
                    have L119 : ∀ (fuel : Nat) (k : Nat), k ≤ 12 → 12 - k < fuel → SS pP l eE ({ frames := 13, cells := 1000, slots := 6000, locals := 700 } : Room) sS mM argsA belowB methM cC (MQ belowB (Q1 sS.heap.size) argsA sS 1000 6000 (fun q => sS.heap.size ≤ q)) x 2 (fQ k) [] (128 + 8 * k) (1627 + 41 * k) 119 [some (.ref (x.2.1 0)), some (.int (nI k))] [] := by
                      intro fuel
                      induction fuel with
                      | zero => intro k hk hm; exact absurd hm (Nat.not_lt_zero _)
                      | succ fuel ih119 =>
                        intro k hk hm
                        refine S_iload_n C dL_full_119 rfl ?_
                        refine S_bipush (v := (nI 12)) C dL_full_120 (by decide) ?_
                        refine S_lt C 191 dL_full_122 (by decide) (by omega) (by omega) (fun h122 => ?_) (fun h122 => ?_)
                        · obtain rfl : k = 12 := by omega
                          refine S_aload_n C dL_full_191 rfl ?_
                          refine S_bipush (v := 82) C dL_full_192 (by decide) ?_
                          refine S_iconst (v := 1) C dL_full_194 (by decide) ?_
                          refine S_newa C (at0 := .int) (c0 := 0) (ty := .int) (N := 1) rfl rfl (fun h => h) (fun cA => rfl) (by decide) (by decide) (by decide) (by show _ ≤ 1000; omega) (by show _ ≤ 6000; omega) dL_full_195 (fun q195 => ?_)
                          refine S_dup C dL_full_197 rfl ?_
                          refine S_iconst (v := 0) C dL_full_198 (by decide) ?_
                          refine S_iconst (v := 1) C dL_full_199 (by decide) ?_
                          refine S_iast C 0 rfl 0 (by decide) (by decide) rfl (ar' := [(q195, 0, 1, (upd (fun _ => 0) 0 1))]) rfl dL_full_200 ?_
                          refine S_askX C (k_room hfl (fQ_W _ hk) (n := 1) (g := (upd (fun _ => 0) 0 1)) (by decide) (by decide)) hw_L_ask mk_L_153 ⟨by decide, by decide⟩ (Nat.le_of_ble_eq_true rfl) ⟨(by show _ ≤ 1000; omega), (by show _ ≤ 6000; omega)⟩ dL_full_201 (v := (-2000000003)) f_end.1 (by decide) ?_
                          refine S_ldc (v := (-2000000003)) C kc_L_115 dL_full_204 ?_
                          refine S_icmp_ne C 352 dL_full_206 (by decide) (fun h => absurd rfl h) (fun _ => ?_)
                          refine S_aload_n C dL_full_209 rfl ?_
                          refine S_bipush (v := 69) C dL_full_210 (by decide) ?_
                          refine S_iconst (v := 0) C dL_full_212 (by decide) ?_
                          refine S_newa C (at0 := .int) (c0 := 0) (ty := .int) (N := 0) rfl rfl (fun h => h) (fun cA => rfl) (by decide) (by decide) (by decide) (by show _ ≤ 1000; omega) (by show _ ≤ 6000; omega) dL_full_213 (fun q213 => ?_)
                          refine S_askX C (k_exam hfl (fQ_W _ hk) (n := 0) (g := (fun _ => 0)) (by decide)) hw_L_ask mk_L_153 ⟨by decide, by decide⟩ (Nat.le_of_ble_eq_true rfl) ⟨(by show _ ≤ 1000; omega), (by show _ ≤ 6000; omega)⟩ dL_full_215 (v := (-2000000003)) f_end.2.1 (by decide) ?_
                          refine S_ldc (v := (-2000000003)) C kc_L_115 dL_full_218 ?_
                          refine S_icmp_ne C 352 dL_full_220 (by decide) (fun h => absurd rfl h) (fun _ => ?_)
                          refine S_aload_n C dL_full_223 rfl ?_
                          refine S_bipush (v := 80) C dL_full_224 (by decide) ?_
                          refine S_iconst (v := 0) C dL_full_226 (by decide) ?_
                          refine S_newa C (at0 := .int) (c0 := 0) (ty := .int) (N := 0) rfl rfl (fun h => h) (fun cA => rfl) (by decide) (by decide) (by decide) (by show _ ≤ 1000; omega) (by show _ ≤ 6000; omega) dL_full_227 (fun q227 => ?_)
                          refine S_askX C (k_pupil hfl (fQ_W _ hk) (n := 0) (g := (fun _ => 0)) (by decide)) hw_L_ask mk_L_153 ⟨by decide, by decide⟩ (Nat.le_of_ble_eq_true rfl) ⟨(by show _ ≤ 1000; omega), (by show _ ≤ 6000; omega)⟩ dL_full_229 (v := (-2000000003)) f_end.2.2.1 (by decide) ?_
                          refine S_ldc (v := (-2000000003)) C kc_L_115 dL_full_232 ?_
                          refine S_icmp_ne C 352 dL_full_234 (by decide) (fun h => absurd rfl h) (fun _ => ?_)
                          refine S_aload_n C dL_full_237 rfl ?_
                          refine S_bipush (v := 79) C dL_full_238 (by decide) ?_
                          refine S_iconst (v := 4) C dL_full_240 (by decide) ?_
                          refine S_newa C (at0 := .int) (c0 := 0) (ty := .int) (N := 4) rfl rfl (fun h => h) (fun cA => rfl) (by decide) (by decide) (by decide) (by show _ ≤ 1000; omega) (by show _ ≤ 6000; omega) dL_full_241 (fun q241 => ?_)
                          refine S_dup C dL_full_243 rfl ?_
                          refine S_iconst (v := 0) C dL_full_244 (by decide) ?_
                          refine S_iconst (v := 0) C dL_full_245 (by decide) ?_
                          refine S_iast C 0 rfl 0 (by decide) (by decide) rfl (ar' := [(q241, 0, 4, (upd (fun _ => 0) 0 0))]) rfl dL_full_246 ?_
                          refine S_dup C dL_full_247 rfl ?_
                          refine S_iconst (v := 1) C dL_full_248 (by decide) ?_
                          refine S_iconst (v := 0) C dL_full_249 (by decide) ?_
                          refine S_iast C 0 rfl 1 (by decide) (by decide) rfl (ar' := [(q241, 0, 4, (upd (upd (fun _ => 0) 0 0) 1 0))]) rfl dL_full_250 ?_
                          refine S_dup C dL_full_251 rfl ?_
                          refine S_iconst (v := 2) C dL_full_252 (by decide) ?_
                          refine S_iconst (v := 2) C dL_full_253 (by decide) ?_
                          refine S_iast C 0 rfl 2 (by decide) (by decide) rfl (ar' := [(q241, 0, 4, (upd (upd (upd (fun _ => 0) 0 0) 1 0) 2 2))]) rfl dL_full_254 ?_
                          refine S_dup C dL_full_255 rfl ?_
                          refine S_iconst (v := 3) C dL_full_256 (by decide) ?_
                          refine S_iconst (v := 0) C dL_full_257 (by decide) ?_
                          refine S_iast C 0 rfl 3 (by decide) (by decide) rfl (ar' := [(q241, 0, 4, (upd (upd (upd (upd (fun _ => 0) 0 0) 1 0) 2 2) 3 0))]) rfl dL_full_258 ?_
                          refine S_askX C (k_offer hfl (fQ_W _ hk) (n := 4) (g := (upd (upd (upd (upd (fun _ => 0) 0 0) 1 0) 2 2) 3 0)) (by decide) (by decide)) hw_L_ask mk_L_153 ⟨by decide, by decide⟩ (Nat.le_of_ble_eq_true rfl) ⟨(by show _ ≤ 1000; omega), (by show _ ≤ 6000; omega)⟩ dL_full_259 (v := (-2000000003)) f_end.2.2.2.1 (by decide) ?_
                          refine S_ldc (v := (-2000000003)) C kc_L_115 dL_full_262 ?_
                          refine S_icmp_ne C 352 dL_full_264 (by decide) (fun h => absurd rfl h) (fun _ => ?_)
                          refine S_aload_n C dL_full_267 rfl ?_
                          refine S_bipush (v := 79) C dL_full_268 (by decide) ?_
                          refine S_iconst (v := 4) C dL_full_270 (by decide) ?_
                          refine S_newa C (at0 := .int) (c0 := 0) (ty := .int) (N := 4) rfl rfl (fun h => h) (fun cA => rfl) (by decide) (by decide) (by decide) (by show _ ≤ 1000; omega) (by show _ ≤ 6000; omega) dL_full_271 (fun q271 => ?_)
                          refine S_dup C dL_full_273 rfl ?_
                          refine S_iconst (v := 0) C dL_full_274 (by decide) ?_
                          refine S_iconst (v := 0) C dL_full_275 (by decide) ?_
                          refine S_iast C 0 rfl 0 (by decide) (by decide) rfl (ar' := [(q271, 0, 4, (upd (fun _ => 0) 0 0))]) rfl dL_full_276 ?_
                          refine S_dup C dL_full_277 rfl ?_
                          refine S_iconst (v := 1) C dL_full_278 (by decide) ?_
                          refine S_bipush (v := 6) C dL_full_279 (by decide) ?_
                          refine S_iast C 0 rfl 1 (by decide) (by decide) rfl (ar' := [(q271, 0, 4, (upd (upd (fun _ => 0) 0 0) 1 6))]) rfl dL_full_281 ?_
                          refine S_dup C dL_full_282 rfl ?_
                          refine S_iconst (v := 2) C dL_full_283 (by decide) ?_
                          refine S_iconst (v := 0) C dL_full_284 (by decide) ?_
                          refine S_iast C 0 rfl 2 (by decide) (by decide) rfl (ar' := [(q271, 0, 4, (upd (upd (upd (fun _ => 0) 0 0) 1 6) 2 0))]) rfl dL_full_285 ?_
                          refine S_dup C dL_full_286 rfl ?_
                          refine S_iconst (v := 3) C dL_full_287 (by decide) ?_
                          refine S_iconst (v := 0) C dL_full_288 (by decide) ?_
                          refine S_iast C 0 rfl 3 (by decide) (by decide) rfl (ar' := [(q271, 0, 4, (upd (upd (upd (upd (fun _ => 0) 0 0) 1 6) 2 0) 3 0))]) rfl dL_full_289 ?_
                          refine S_askX C (k_offer hfl (fQ_W _ hk) (n := 4) (g := (upd (upd (upd (upd (fun _ => 0) 0 0) 1 6) 2 0) 3 0)) (by decide) (by decide)) hw_L_ask mk_L_153 ⟨by decide, by decide⟩ (Nat.le_of_ble_eq_true rfl) ⟨(by show _ ≤ 1000; omega), (by show _ ≤ 6000; omega)⟩ dL_full_290 (v := (-2000000002)) f_end.2.2.2.2.1 (by decide) ?_
                          refine S_ldc (v := (-2000000002)) C kc_L_112 dL_full_293 ?_
                          refine S_icmp_ne C 352 dL_full_295 (by decide) (fun h => absurd rfl h) (fun _ => ?_)
                          refine S_aload_n C dL_full_298 rfl ?_
                          refine S_bipush (v := 79) C dL_full_299 (by decide) ?_
                          refine S_iconst (v := 4) C dL_full_301 (by decide) ?_
                          refine S_newa C (at0 := .int) (c0 := 0) (ty := .int) (N := 4) rfl rfl (fun h => h) (fun cA => rfl) (by decide) (by decide) (by decide) (by show _ ≤ 1000; omega) (by show _ ≤ 6000; omega) dL_full_302 (fun q302 => ?_)
                          refine S_dup C dL_full_304 rfl ?_
                          refine S_iconst (v := 0) C dL_full_305 (by decide) ?_
                          refine S_iconst (v := 0) C dL_full_306 (by decide) ?_
                          refine S_iast C 0 rfl 0 (by decide) (by decide) rfl (ar' := [(q302, 0, 4, (upd (fun _ => 0) 0 0))]) rfl dL_full_307 ?_
                          refine S_dup C dL_full_308 rfl ?_
                          refine S_iconst (v := 1) C dL_full_309 (by decide) ?_
                          refine S_iconst (v := 0) C dL_full_310 (by decide) ?_
                          refine S_iast C 0 rfl 1 (by decide) (by decide) rfl (ar' := [(q302, 0, 4, (upd (upd (fun _ => 0) 0 0) 1 0))]) rfl dL_full_311 ?_
                          refine S_dup C dL_full_312 rfl ?_
                          refine S_iconst (v := 2) C dL_full_313 (by decide) ?_
                          refine S_iconst (v := 0) C dL_full_314 (by decide) ?_
                          refine S_iast C 0 rfl 2 (by decide) (by decide) rfl (ar' := [(q302, 0, 4, (upd (upd (upd (fun _ => 0) 0 0) 1 0) 2 0))]) rfl dL_full_315 ?_
                          refine S_dup C dL_full_316 rfl ?_
                          refine S_iconst (v := 3) C dL_full_317 (by decide) ?_
                          refine S_iconst (v := 0) C dL_full_318 (by decide) ?_
                          refine S_iast C 0 rfl 3 (by decide) (by decide) rfl (ar' := [(q302, 0, 4, (upd (upd (upd (upd (fun _ => 0) 0 0) 1 0) 2 0) 3 0))]) rfl dL_full_319 ?_
                          refine S_askX C (k_offer hfl (fQ_W _ hk) (n := 4) (g := (upd (upd (upd (upd (fun _ => 0) 0 0) 1 0) 2 0) 3 0)) (by decide) (by decide)) hw_L_ask mk_L_153 ⟨by decide, by decide⟩ (Nat.le_of_ble_eq_true rfl) ⟨(by show _ ≤ 1000; omega), (by show _ ≤ 6000; omega)⟩ dL_full_320 (v := (-2000000004)) f_end.2.2.2.2.2 (by decide) ?_
                          refine S_ldc (v := (-2000000004)) C kc_L_118 dL_full_323 ?_
                          refine S_icmp_ne C 352 dL_full_325 (by decide) (fun h => absurd rfl h) (fun _ => ?_)
                          refine S_aload_n C dL_full_328 rfl ?_
                          refine S_callF (by decide) (RX_V C (c_X3_takenShare hfl (fQ_W 12 (Nat.le_refl _)) (fun i hi => f_st i (by rw [fQ_n (by omega)] at hi; exact hi))) mi_X3_takenShare mk_L_122 rfl (by decide) rfl (rfl : vwCl[5]? = some (RX3, TX3, 13)) (by decide) rfl (Nat.le_of_ble_eq_true rfl) ⟨(by show _ ≤ 1000; omega), (by show _ ≤ 6000; omega)⟩ dL_full_329) ?_
                          refine S_fconst0 C dL_full_332 ?_
                          refine S_fcmp C dL_full_333 ?_
                          refine S_topi (w := 0) (by rw [f_sum.1, f_sum.2.1]; exact f_share) ?_
                          refine S_if_ne C 352 dL_full_334 (by decide) (fun h => absurd rfl h) (fun _ => ?_)
                          refine S_aload_n C dL_full_337 rfl ?_
                          refine S_callD (by decide) (RX_V C (c_X3_meanPoints hfl (fQ_W 12 (Nat.le_refl _))) mi_X3_meanPoints mk_L_126 rfl (by decide) rfl (rfl : vwCl[5]? = some (RX3, TX3, 13)) (by decide) rfl (Nat.le_of_ble_eq_true rfl) ⟨(by show _ ≤ 1000; omega), (by show _ ≤ 6000; omega)⟩ dL_full_338) ?_
                          refine S_ldc2d C wx_167 dL_full_341 ?_
                          refine S_dcmp C dL_full_344 ?_
                          refine S_topi (w := 0) (by rw [f_sum.2.2.1, f_sum.2.2.2]; exact f_mean) ?_
                          refine S_if_ne C 352 dL_full_345 (by decide) (fun h => absurd rfl h) (fun _ => ?_)
                          refine S_iconst (v := 1) C dL_full_348 (by decide) ?_
                          refine S_goto C 353 dL_full_349 (by decide) ?_
                          exact S_one C hAW hr dL_full_353 ⟨(by show _ ≤ 1000; omega), (by show _ ≤ 6000; omega)⟩
                        · refine S_aload_n C dL_full_125 rfl ?_
                          refine S_bipush (v := 79) C dL_full_126 (by decide) ?_
                          refine S_iconst (v := 4) C dL_full_128 (by decide) ?_
                          refine S_newa C (at0 := .int) (c0 := 0) (ty := .int) (N := 4) rfl rfl (fun h => h) (fun cA => rfl) (by decide) (by decide) (by decide) (by show _ ≤ 1000; omega) (by show _ ≤ 6000; omega) dL_full_129 (fun q129 => ?_)
                          refine S_dup C dL_full_131 rfl ?_
                          refine S_iconst (v := 0) C dL_full_132 (by decide) ?_
                          refine S_iload_n C dL_full_133 rfl ?_
                          refine S_bipush (v := 6) C dL_full_134 (by decide) ?_
                          refine S_irem C dL_full_136 (by decide) ?_
                          refine S_topi (w := (nI (k % 6))) (f_mod k h122).1 ?_
                          refine S_iast C 0 rfl 0 (by decide) (by decide) rfl (ar' := [(q129, 0, 4, (upd (fun _ => 0) 0 (nI (k % 6))))]) rfl dL_full_137 ?_
                          refine S_dup C dL_full_138 rfl ?_
                          refine S_iconst (v := 1) C dL_full_139 (by decide) ?_
                          refine S_iload_n C dL_full_140 rfl ?_
                          refine S_bipush (v := 6) C dL_full_141 (by decide) ?_
                          refine S_irem C dL_full_143 (by decide) ?_
                          refine S_topi (w := (nI (k % 6))) (f_mod k h122).1 ?_
                          refine S_iast C 0 rfl 1 (by decide) (by decide) rfl (ar' := [(q129, 0, 4, (upd (upd (fun _ => 0) 0 (nI (k % 6))) 1 (nI (k % 6))))]) rfl dL_full_144 ?_
                          refine S_dup C dL_full_145 rfl ?_
                          refine S_iconst (v := 2) C dL_full_146 (by decide) ?_
                          refine S_iload_n C dL_full_147 rfl ?_
                          refine S_bipush (v := 6) C dL_full_148 (by decide) ?_
                          refine S_idiv C dL_full_150 (by decide) ?_
                          refine S_topi (w := (nI (k / 6))) (f_mod k h122).2 ?_
                          refine S_iast C 0 rfl 2 (by decide) (by decide) rfl (ar' := [(q129, 0, 4, (upd (upd (upd (fun _ => 0) 0 (nI (k % 6))) 1 (nI (k % 6))) 2 (nI (k / 6))))]) rfl dL_full_151 ?_
                          refine S_dup C dL_full_152 rfl ?_
                          refine S_iconst (v := 3) C dL_full_153 (by decide) ?_
                          refine S_iconst (v := 0) C dL_full_154 (by decide) ?_
                          refine S_iast C 0 rfl 3 (by decide) (by decide) rfl (ar' := [(q129, 0, 4, (upd (upd (upd (upd (fun _ => 0) 0 (nI (k % 6))) 1 (nI (k % 6))) 2 (nI (k / 6))) 3 0))]) rfl dL_full_155 ?_
                          refine S_askN C (k_offer hfl (fQ_W _ hk) (n := 4) (g := (upd (upd (upd (upd (fun _ => 0) 0 (nI (k % 6))) 1 (nI (k % 6))) 2 (nI (k / 6))) 3 0)) (by decide) (by decide)) hw_L_ask mk_L_153 ⟨by decide, by decide⟩ (Nat.le_of_ble_eq_true rfl) ⟨(by show _ ≤ 1000; omega), (by show _ ≤ 6000; omega)⟩ dL_full_156 (f_offer k h122) (v := (nI k)) (congrArg nI (fQ_n (by omega))) (a2 := (fQ (k + 1))) (fQ_s h122) ?_
                          refine S_iload_n C dL_full_159 rfl ?_
                          refine S_icmp_ne C 183 dL_full_160 (by decide) (fun h => absurd rfl h) (fun _ => ?_)
                          refine S_aload_n C dL_full_163 rfl ?_
                          refine S_bipush (v := 108) C dL_full_164 (by decide) ?_
                          refine S_iconst (v := 1) C dL_full_166 (by decide) ?_
                          refine S_newa C (at0 := .int) (c0 := 0) (ty := .int) (N := 1) rfl rfl (fun h => h) (fun cA => rfl) (by decide) (by decide) (by decide) (by show _ ≤ 1000; omega) (by show _ ≤ 6000; omega) dL_full_167 (fun q167 => ?_)
                          refine S_dup C dL_full_169 rfl ?_
                          refine S_iconst (v := 0) C dL_full_170 (by decide) ?_
                          refine S_iload_n C dL_full_171 rfl ?_
                          refine S_iast C 0 rfl 0 (by decide) (by decide) rfl (ar' := [(q167, 0, 1, (upd (fun _ => 0) 0 (nI k)))]) rfl dL_full_172 ?_
                          refine S_askN C (k_slotOf hfl (fQ_W (k + 1) (by omega)) (n := 1) (g := (upd (fun _ => 0) 0 (nI k))) (by decide) (by decide)) hw_L_ask mk_L_153 ⟨by decide, by decide⟩ (Nat.le_of_ble_eq_true rfl) ⟨(by show _ ≤ 1000; omega), (by show _ ≤ 6000; omega)⟩ dL_full_173 (f_slot k h122).1 (v := (nI (k % 6))) (f_slot k h122).2 rfl ?_
                          refine S_iload_n C dL_full_176 rfl ?_
                          refine S_bipush (v := 6) C dL_full_177 (by decide) ?_
                          refine S_irem C dL_full_179 (by decide) ?_
                          refine S_topi (w := (nI (k % 6))) (f_mod k h122).1 ?_
                          refine S_icmp_eq C 185 dL_full_180 (by decide) (fun _ => ?_) (fun h => absurd rfl h)
                          refine S_iinc (v := (nI (k + 1))) C dL_full_185 rfl (nI_1 _) (by decide) (lv' := [some (.ref (x.2.1 0)), some (.int (nI (k + 1)))]) rfl ?_
                          refine S_goto C 119 dL_full_188 (by decide) ?_
                          exact S_cs (k := 128 + 8 * (k + 1)) (n := 1627 + 41 * (k + 1)) (by omega) (by omega) (ih119 (k + 1) (by omega) (by omega))
                    refine S_mem fQ_0 ?_
                    exact S_cs (k := 128 + 8 * 0) (n := 1627 + 41 * 0) (by omega) (by omega) (L119 _ 0 (Nat.zero_le _) (Nat.lt_succ_self _))
                  · refine S_aload_n C dL_full_78 rfl ?_
                    refine S_bipush (v := 80) C dL_full_79 (by decide) ?_
                    refine S_iconst (v := 0) C dL_full_81 (by decide) ?_
                    refine S_newa C (at0 := .int) (c0 := 0) (ty := .int) (N := 0) rfl rfl (fun h => h) (fun cA => rfl) (by decide) (by decide) (by decide) (by show _ ≤ 1000; omega) (by show _ ≤ 6000; omega) dL_full_82 (fun q82 => ?_)
                    refine S_askN C (k_pupil hfl (fP_W _ hk) (n := 0) (g := (fun _ => 0)) (by decide)) hw_L_ask mk_L_153 ⟨by decide, by decide⟩ (Nat.le_of_ble_eq_true rfl) ⟨(by show _ ≤ 1000; omega), (by show _ ≤ 6000; omega)⟩ dL_full_84 (f_pupil k h75) (v := (nI k)) (congrArg nI (fP_n (by omega))) (a2 := (fP (k + 1))) (fP_s (by omega)) ?_
                    refine S_iload_n C dL_full_87 rfl ?_
                    refine S_icmp_ne C 109 dL_full_88 (by decide) (fun h => absurd rfl h) (fun _ => ?_)
                    refine S_aload_n C dL_full_91 rfl ?_
                    refine S_bipush (v := 112) C dL_full_92 (by decide) ?_
                    refine S_iconst (v := 1) C dL_full_94 (by decide) ?_
                    refine S_newa C (at0 := .int) (c0 := 0) (ty := .int) (N := 1) rfl rfl (fun h => h) (fun cA => rfl) (by decide) (by decide) (by decide) (by show _ ≤ 1000; omega) (by show _ ≤ 6000; omega) dL_full_95 (fun q95 => ?_)
                    refine S_dup C dL_full_97 rfl ?_
                    refine S_iconst (v := 0) C dL_full_98 (by decide) ?_
                    refine S_iload_n C dL_full_99 rfl ?_
                    refine S_iast C 0 rfl 0 (by decide) (by decide) rfl (ar' := [(q95, 0, 1, (upd (fun _ => 0) 0 (nI k)))]) rfl dL_full_100 ?_
                    refine S_askN C (k_points hfl (fP_W (k + 1) (by omega)) (n := 1) (g := (upd (fun _ => 0) 0 (nI k))) (by decide) (by decide)) hw_L_ask mk_L_153 ⟨by decide, by decide⟩ (Nat.le_of_ble_eq_true rfl) ⟨(by show _ ≤ 1000; omega), (by show _ ≤ 6000; omega)⟩ dL_full_101 (f_points k h75).1 (v := 100) (f_points k h75).2 rfl ?_
                    refine S_bipush (v := 100) C dL_full_104 (by decide) ?_
                    refine S_icmp_eq C 111 dL_full_106 (by decide) (fun _ => ?_) (fun h => absurd rfl h)
                    refine S_iinc (v := (nI (k + 1))) C dL_full_111 rfl (nI_1 _) (by decide) (lv' := [some (.ref (x.2.1 0)), some (.int (nI (k + 1)))]) rfl ?_
                    refine S_goto C 72 dL_full_114 (by decide) ?_
                    exact S_cs (k := 88 + 4 * (k + 1)) (n := 1497 + 13 * (k + 1)) (by omega) (by omega) (ih72 (k + 1) (by omega) (by omega))
              refine S_mem fP_0 ?_
              exact S_cs (k := 88 + 4 * 0) (n := 1497 + 13 * 0) (by omega) (by omega) (L72 _ 0 (Nat.zero_le _) (Nat.lt_succ_self _))
            · refine S_aload_n C dL_full_49 rfl ?_
              refine S_bipush (v := 69) C dL_full_50 (by decide) ?_
              refine S_iconst (v := 0) C dL_full_52 (by decide) ?_
              refine S_newa C (at0 := .int) (c0 := 0) (ty := .int) (N := 0) rfl rfl (fun h => h) (fun cA => rfl) (by decide) (by decide) (by decide) (by show _ ≤ 1000; omega) (by show _ ≤ 6000; omega) dL_full_53 (fun q53 => ?_)
              refine S_askN C (k_exam hfl (fE_W _ hk) (n := 0) (g := (fun _ => 0)) (by decide)) hw_L_ask mk_L_153 ⟨by decide, by decide⟩ (Nat.le_of_ble_eq_true rfl) ⟨(by show _ ≤ 1000; omega), (by show _ ≤ 6000; omega)⟩ dL_full_55 (f_exam k h46) (v := (nI k)) (congrArg nI (fE_n (by omega))) (a2 := (fE (k + 1))) (fE_s (by omega)) ?_
              refine S_iload_n C dL_full_58 rfl ?_
              refine S_icmp_eq C 64 dL_full_59 (by decide) (fun _ => ?_) (fun h => absurd rfl h)
              refine S_iinc (v := (nI (k + 1))) C dL_full_64 rfl (nI_1 _) (by decide) (lv' := [some (.ref (x.2.1 0)), some (.int (nI (k + 1)))]) rfl ?_
              refine S_goto C 43 dL_full_67 (by decide) ?_
              exact S_cs (k := 76 + 2 * (k + 1)) (n := 1461 + 6 * (k + 1)) (by omega) (by omega) (ih43 (k + 1) (by omega) (by omega))
        refine S_mem fE_0 ?_
        exact S_cs (k := 76 + 2 * 0) (n := 1461 + 6 * 0) (by omega) (by omega) (L43 _ 0 (Nat.zero_le _) (Nat.lt_succ_self _))
      · refine S_aload_n C dL_full_15 rfl ?_
        refine S_bipush (v := 82) C dL_full_16 (by decide) ?_
        refine S_iconst (v := 1) C dL_full_18 (by decide) ?_
        refine S_newa C (at0 := .int) (c0 := 0) (ty := .int) (N := 1) rfl rfl (fun h => h) (fun cA => rfl) (by decide) (by decide) (by decide) (by show _ ≤ 1000; omega) (by show _ ≤ 6000; omega) dL_full_19 (fun q19 => ?_)
        refine S_dup C dL_full_21 rfl ?_
        refine S_iconst (v := 0) C dL_full_22 (by decide) ?_
        refine S_bipush (v := 6) C dL_full_23 (by decide) ?_
        refine S_iast C 0 rfl 0 (by decide) (by decide) rfl (ar' := [(q19, 0, 1, (upd (fun _ => 0) 0 6))]) rfl dL_full_25 ?_
        refine S_askN C (k_room hfl (fR_W _ hk) (n := 1) (g := (upd (fun _ => 0) 0 6)) (by decide) (by decide)) hw_L_ask mk_L_153 ⟨by decide, by decide⟩ (Nat.le_of_ble_eq_true rfl) ⟨(by show _ ≤ 1000; omega), (by show _ ≤ 6000; omega)⟩ dL_full_26 (f_room k h12) (v := (nI k)) (congrArg nI (fR_n (by omega))) (a2 := (fR (k + 1))) (fR_s (by omega)) ?_
        refine S_iload_n C dL_full_29 rfl ?_
        refine S_icmp_eq C 35 dL_full_30 (by decide) (fun _ => ?_) (fun h => absurd rfl h)
        refine S_iinc (v := (nI (k + 1))) C dL_full_35 rfl (nI_1 _) (by decide) (lv' := [some (.ref (x.2.1 0)), some (.int (nI (k + 1)))]) rfl ?_
        refine S_goto C 10 dL_full_38 (by decide) ?_
        exact S_cs (k := 70 + 2 * (k + 1)) (n := 1440 + 7 * (k + 1)) (by omega) (by omega) (ih10 (k + 1) (by omega) (by omega))
  refine S_mem fR_0 ?_
  exact S_cs (k := 70 + 2 * 0) (n := 1440 + 7 * 0) (by omega) (by omega) (L10 _ 0 (Nat.zero_le _) (Nat.lt_succ_self _))
