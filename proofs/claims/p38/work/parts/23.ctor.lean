/-! the constructors -/
set_option maxRecDepth 100000 in
theorem wq_oin : Cond.instanceMethod objectInit ∈ nwL := nw_mem 69 rfl rfl
set_option maxRecDepth 100000 in
theorem wq_oco : Cond.code objectInit ⟨#[0xb1]⟩ 1 none ∈ nwL := nw_mem 70 rfl rfl
set_option maxRecDepth 100000 in
theorem wo_X0 : Cond.methodLink RX0 3 objectInit ∈ nwL := nw_mem 120 rfl rfl
set_option maxRecDepth 100000 in
theorem wf_X0_9 : Cond.fieldLink RX0 9 RX0 "paidBy" "[I" ∈ nwL := nw_mem 131 rfl rfl
set_option maxRecDepth 100000 in
theorem wf_X0_15 : Cond.fieldLink RX0 15 RX0 "waiters" "[I" ∈ nwL := nw_mem 133 rfl rfl
set_option maxRecDepth 100000 in
theorem wf_X0_18 : Cond.fieldLink RX0 18 RX0 "waiterPoints" "[I" ∈ nwL := nw_mem 135 rfl rfl
set_option maxRecDepth 100000 in
theorem wo_X1 : Cond.methodLink RX1 3 objectInit ∈ nwL := nw_mem 76 rfl rfl
set_option maxRecDepth 100000 in
theorem wf_X1_13 : Cond.fieldLink RX1 13 RX1 "values" "[[I" ∈ nwL := nw_mem 82 rfl rfl
set_option maxRecDepth 100000 in
theorem wf_X1_20 : Cond.fieldLink RX1 20 RX1 "owners" "[I" ∈ nwL := nw_mem 83 rfl rfl
set_option maxRecDepth 100000 in
theorem wo_X2 : Cond.methodLink RX2 3 objectInit ∈ nwL := nw_mem 96 rfl rfl
set_option maxRecDepth 100000 in
theorem wf_X2_11 : Cond.fieldLink RX2 11 RX2 "pupils" "[I" ∈ nwL := nw_mem 97 rfl rfl
set_option maxRecDepth 100000 in
theorem wf_X2_15 : Cond.fieldLink RX2 15 RX2 "offers" "[I" ∈ nwL := nw_mem 99 rfl rfl
set_option maxRecDepth 100000 in
theorem wf_X2_18 : Cond.fieldLink RX2 18 RX2 "points" "[I" ∈ nwL := nw_mem 101 rfl rfl
set_option maxRecDepth 100000 in
theorem wo_X3 : Cond.methodLink RX3 1 objectInit ∈ nwL := nw_mem 68 rfl rfl
set_option maxRecDepth 100000 in
theorem wf_X3_10 : Cond.fieldLink RX3 10 RX3 "records" "LClassfederation$Records;" ∈ nwL := nw_mem 158 rfl rfl
set_option maxRecDepth 100000 in
theorem wf_X3_19 : Cond.fieldLink RX3 19 RX3 "round" "LClassfederation$Round;" ∈ nwL := nw_mem 159 rfl rfl
set_option maxRecDepth 100000 in
theorem wf_X3_25 : Cond.fieldLink RX3 25 RX3 "offers" "[LClassfederation$Offer;" ∈ nwL := nw_mem 160 rfl rfl
set_option maxRecDepth 100000 in
theorem wf_X3_30 : Cond.fieldLink RX3 30 RX3 "seatsOfRoom" "[I" ∈ nwL := nw_mem 161 rfl rfl
set_option maxRecDepth 100000 in
theorem wf_X3_34 : Cond.fieldLink RX3 34 RX3 "pointsLeft" "[I" ∈ nwL := nw_mem 162 rfl rfl
set_option maxRecDepth 100000 in
theorem wf_X3_37 : Cond.fieldLink RX3 37 RX3 "forfeited" "[I" ∈ nwL := nw_mem 163 rfl rfl
set_option maxRecDepth 100000 in
theorem wf_X3_40 : Cond.fieldLink RX3 40 RX3 "slotWasSat" "[Z" ∈ nwL := nw_mem 164 rfl rfl
set_option maxRecDepth 100000 in
theorem wi_X0 : Cond.initialized RX0 ∈ nwL := nw_mem 50 rfl rfl
set_option maxRecDepth 100000 in
theorem wn_X0 : Cond.instantiable RX0 9 ∈ nwL := nw_mem 116 rfl rfl
set_option maxRecDepth 100000 in
theorem wm_X0 : Cond.instanceMethod yX0_init ∈ nwL := nw_mem 118 rfl rfl
set_option maxRecDepth 100000 in
theorem wc_X0 : Cond.code yX0_init cX0_init 2 none ∈ nwL := nw_mem 119 rfl rfl
theorem wy_X0 : yX0_init.cls ≠ "java/lang/invoke/MethodHandle" ∧ yX0_init.cls ≠ "java/lang/invoke/VarHandle" ∧ (parseMethodDescriptor yX0_init.desc).map (fun d => d.parameters.length) = some 0 := ⟨by decide +kernel, by decide +kernel, by decide +kernel⟩
set_option maxRecDepth 100000 in
theorem wi_X1 : Cond.initialized RX1 ∈ nwL := nw_mem 48 rfl rfl
set_option maxRecDepth 100000 in
theorem wn_X1 : Cond.instantiable RX1 2 ∈ nwL := nw_mem 72 rfl rfl
set_option maxRecDepth 100000 in
theorem wm_X1 : Cond.instanceMethod yX1_init ∈ nwL := nw_mem 74 rfl rfl
set_option maxRecDepth 100000 in
theorem wc_X1 : Cond.code yX1_init cX1_init 3 none ∈ nwL := nw_mem 75 rfl rfl
theorem wy_X1 : yX1_init.cls ≠ "java/lang/invoke/MethodHandle" ∧ yX1_init.cls ≠ "java/lang/invoke/VarHandle" ∧ (parseMethodDescriptor yX1_init.desc).map (fun d => d.parameters.length) = some 0 := ⟨by decide +kernel, by decide +kernel, by decide +kernel⟩
set_option maxRecDepth 100000 in
theorem wi_X2 : Cond.initialized RX2 ∈ nwL := nw_mem 49 rfl rfl
set_option maxRecDepth 100000 in
theorem wn_X2 : Cond.instantiable RX2 4 ∈ nwL := nw_mem 92 rfl rfl
set_option maxRecDepth 100000 in
theorem wm_X2 : Cond.instanceMethod yX2_init ∈ nwL := nw_mem 94 rfl rfl
set_option maxRecDepth 100000 in
theorem wc_X2 : Cond.code yX2_init cX2_init 1 none ∈ nwL := nw_mem 95 rfl rfl
theorem wy_X2 : yX2_init.cls ≠ "java/lang/invoke/MethodHandle" ∧ yX2_init.cls ≠ "java/lang/invoke/VarHandle" ∧ (parseMethodDescriptor yX2_init.desc).map (fun d => d.parameters.length) = some 0 := ⟨by decide +kernel, by decide +kernel, by decide +kernel⟩
set_option maxRecDepth 100000 in
theorem wi_X3 : Cond.initialized RX3 ∈ nwL := nw_mem 47 rfl rfl
set_option maxRecDepth 100000 in
theorem wn_X3 : Cond.instantiable RX3 13 ∈ nwL := nw_mem 64 rfl rfl
set_option maxRecDepth 100000 in
theorem wm_X3 : Cond.instanceMethod yX3_init ∈ nwL := nw_mem 66 rfl rfl
set_option maxRecDepth 100000 in
theorem wc_X3 : Cond.code yX3_init cX3_init 2 none ∈ nwL := nw_mem 67 rfl rfl
theorem wy_X3 : yX3_init.cls ≠ "java/lang/invoke/MethodHandle" ∧ yX3_init.cls ≠ "java/lang/invoke/VarHandle" ∧ (parseMethodDescriptor yX3_init.desc).map (fun d => d.parameters.length) = some 0 := ⟨by decide +kernel, by decide +kernel, by decide +kernel⟩
set_option maxRecDepth 100000 in
theorem wk_X3_7 : Cond.classLink RX3 7 RX1 ∈ nwL := nw_mem 71 rfl rfl
set_option maxRecDepth 100000 in
theorem wl_X3_9 : Cond.methodLinkNest RX3 9 yX1_init "Classfederation" ∈ nwL := nw_mem 73 rfl rfl
set_option maxRecDepth 100000 in
theorem wk_X3_16 : Cond.classLink RX3 16 RX2 ∈ nwL := nw_mem 91 rfl rfl
set_option maxRecDepth 100000 in
theorem wl_X3_18 : Cond.methodLinkNest RX3 18 yX2_init "Classfederation" ∈ nwL := nw_mem 93 rfl rfl
set_option maxRecDepth 100000 in
theorem wk_X3_23 : Cond.classLink RX3 23 RX0 ∈ nwL := nw_mem 114 rfl rfl
set_option maxRecDepth 100000 in
theorem wl_X3_29 : Cond.methodLinkNest RX3 29 yX0_init "Classfederation" ∈ nwL := nw_mem 117 rfl rfl
set_option maxRecDepth 100000 in
theorem wk_L_8 : Cond.classLink RL 8 RX3 ∈ nwL := nw_mem 63 rfl rfl
set_option maxRecDepth 100000 in
theorem wl_L_132 : Cond.methodLink RL 132 yX3_init ∈ nwL := nw_mem 65 rfl rfl
set_option maxRecDepth 100000 in
theorem wk_X1_11 : Cond.classLink RX1 11 "[[I" ∈ nwL := nw_mem 77 rfl rfl
set_option maxHeartbeats 4000000 in
set_option maxRecDepth 100000 in
theorem u_X1_rowOf {l : Launch} {D : va_G} {T : Nat → ClassId} {B : Nat} {n s f : Nat} {g : Nat → va_E} : KM l yX1_rowOf cX1_rowOf 2 (some .int) 0 40 0 0 [.int (nI s), .int (nI f)] D T B n n g (QW B n (nI (s * 3 + f))) := by
  refine KM.of (by decide) [some (.int (nI s)), some (.int (nI f))] rfl rfl (Nat.le_of_ble_eq_true rfl) ?_
  intro pP eE sS mM argsA belowB methM cC C hr _
  refine U_iload_n C dX1_rowOf_0 rfl ?_
  refine U_iconst (v := nI 3) C dX1_rowOf_1 (by decide) ?_
  refine U_imul C dX1_rowOf_2 ?_
  refine U_topi (pk_mul _ _) ?_
  refine U_iload_n C dX1_rowOf_3 rfl ?_
  refine U_iadd C dX1_rowOf_4 ?_
  exact U_iret C hr rfl dX1_rowOf_5 (nI_add _ _)
def fO (T : Nat → ClassId) (k0 : Nat) (v : List Value) (g : Nat → Int32) : Nat → va_E := fun k => if k = k0 then .inr (2, v) else if k = k0 + 1 then xA T 0 10 g else xA T 0 10 (fun _ => 0)
abbrev gM (i : Nat) : Nat → Int32 := fun j => if j < i then -1 else 0
theorem gM_0 : gM 0 = fun _ => 0 := funext fun j => if_neg (Nat.not_lt_zero j)
theorem gM_s (i : Nat) : gM (i + 1) = upd (gM i) i (-1) := by
  funext j
  unfold upd
  show (if j < i + 1 then (-1 : Int32) else 0) = if j = i then -1 else if j < i then -1 else 0
  by_cases h : j = i
  · rw [if_pos h, if_pos (by omega)]
  · rw [if_neg h]
    by_cases h2 : j < i
    · rw [if_pos h2, if_pos (by omega)]
    · rw [if_neg h2, if_neg (by omega)]
abbrev vO0 : List Value := [.int 0, .int 0, .int 0, .int 0, .int 0, .null, .null, .null, .int 0]
abbrev vO (B k0 : Nat) : List Value := [.int 0, .int 0, .int 0, .int 0, .int 0, .ref (B + (k0 + 1)), .ref (B + (k0 + 1 + 1)), .ref (B + (k0 + 1 + 1 + 1)), .int 0]
set_option maxHeartbeats 4000000 in
set_option maxRecDepth 100000 in
theorem u_X0_init {l : Launch} {D : va_G} {T : Nat → ClassId} {B : Nat} {k0 : Nat} {f : Nat → va_E} (hf : f k0 = .inr (2, vO0)) : KM l yX0_init cX0_init 2 none 1 40 3 30 [.ref (B + k0)] D T B k0 (k0 + 1) f (QU D B k0 (k0 + 1 + 1 + 1 + 1) (fO T k0 (vO B k0) (fun _ => -1))) := by
  refine KM.of (by decide) [some (.ref (B + k0)), none] rfl rfl (Nat.le_of_ble_eq_true rfl) ?_
  intro pP eE sS mM argsA belowB methM cC C hr hm
  refine U_like (fO T k0 vO0 (gM 0)) (fun k h1 h2 => Or.inl (by obtain rfl : k = k0 := (by omega); rw [hf]; exact (if_pos rfl).symm)) ?_
  refine U_aload_n C dX0_init_0 rfl ?_
  refine U_obj C wo_X0 wq_oin wq_oco ⟨(by decide), (by decide)⟩ (by decide) dX0_init_1 ?_
  refine U_aload_n C dX0_init_4 rfl ?_
  refine U_bipush (v := 10) C dX0_init_5 (by decide) ?_
  refine U_newa C (at0 := .int) (c0 := 0) (ty := .int) (a0 := (10, .inl (fun _ => 0))) rfl rfl (fun h => h) (fun cA => rfl) (by decide) (by decide) (by decide) (by decide) (by decide) (fO T k0 vO0 (gM 0)) (by simp [fO, gM_0]) (fun i h1 h2 => rfl) dX0_init_7 ?_
  refine U_put C hm (k := k0) (by omega) (by omega) (if_pos rfl) (rfl : vwCl[2]? = some (RX0, TX0, 9)) 5 (by decide) iw_X0 rfl wf_X0_9 tyX0 tyX0_ok nmX0 rfl (ty := .array .int) (by decide +kernel) rfl rfl (Nat.le_of_ble_eq_true rfl) (fO T k0 [.int 0, .int 0, .int 0, .int 0, .int 0, .ref (B + (k0 + 1)), .null, .null, .int 0] (gM 0)) (if_pos rfl) (fun i h1 h2 h3 => by simp only [fO, if_neg h3]) dX0_init_9 ?_
  refine U_iconst (v := nI 0) C dX0_init_12 (by decide) ?_
  refine U_istore_n C dX0_init_13 (by decide) rfl ?_
  have L14 : ∀ (fuel i : Nat), i ≤ 10 → 10 < i + fuel → UU pP l eE ({ frames := 1, cells := 3, slots := 30, locals := 40 } : Room) sS mM argsA belowB methM cC (MQ belowB (QU D B k0 (k0 + 1 + 1 + 1 + 1) (fO T k0 (vO B k0) (fun _ => -1))) argsA sS 3 30 (fun q => B + k0 ≤ q)) D B k0 (k0 + 1 + 1) (fO T k0 [.int 0, .int 0, .int 0, .int 0, .int 0, .ref (B + (k0 + 1)), .null, .null, .int 0] (gM i)) 2 1 10 14 [some (.ref (B + k0)), some (.int (nI i))] [] := by
    intro fuel
    induction fuel with
    | zero => intro i h1 h2; omega
    | succ fuel ih =>
      intro i h1 h2
      refine U_iload_n C dX0_init_14 rfl ?_
      refine U_bipush (v := nI 10) C dX0_init_15 (by decide) ?_
      refine U_ge C 33 dX0_init_17 (by decide) (by omega) (by omega) (fun h => ?_) (fun h => ?_)
      · obtain rfl : i = 10 := by omega
        refine U_aload_n C dX0_init_33 rfl ?_
        refine U_bipush (v := 10) C dX0_init_34 (by decide) ?_
        refine U_newa C (at0 := .int) (c0 := 0) (ty := .int) (a0 := (10, .inl (fun _ => 0))) rfl rfl (fun h => h) (fun cA => rfl) (by decide) (by decide) (by decide) (by decide) (by decide) (fO T k0 [.int 0, .int 0, .int 0, .int 0, .int 0, .ref (B + (k0 + 1)), .null, .null, .int 0] (gM 10)) (by unfold fO; rw [if_neg (by omega), if_neg (by omega)]) (fun i h1 h2 => rfl) dX0_init_36 ?_
        refine U_put C hm (k := k0) (by omega) (by omega) (if_pos rfl) (rfl : vwCl[2]? = some (RX0, TX0, 9)) 6 (by decide) iw_X0 rfl wf_X0_15 tyX0 tyX0_ok nmX0 rfl (ty := .array .int) (by decide +kernel) rfl rfl (Nat.le_of_ble_eq_true rfl) (fO T k0 [.int 0, .int 0, .int 0, .int 0, .int 0, .ref (B + (k0 + 1)), .ref (B + (k0 + 1 + 1)), .null, .int 0] (gM 10)) (if_pos rfl) (fun i h1 h2 h3 => by simp only [fO, if_neg h3]) dX0_init_38 ?_
        refine U_aload_n C dX0_init_41 rfl ?_
        refine U_bipush (v := 10) C dX0_init_42 (by decide) ?_
        refine U_newa C (at0 := .int) (c0 := 0) (ty := .int) (a0 := (10, .inl (fun _ => 0))) rfl rfl (fun h => h) (fun cA => rfl) (by decide) (by decide) (by decide) (by decide) (by decide) (fO T k0 [.int 0, .int 0, .int 0, .int 0, .int 0, .ref (B + (k0 + 1)), .ref (B + (k0 + 1 + 1)), .null, .int 0] (gM 10)) (by unfold fO; rw [if_neg (by omega), if_neg (by omega)]) (fun i h1 h2 => rfl) dX0_init_44 ?_
        refine U_put C hm (k := k0) (by omega) (by omega) (if_pos rfl) (rfl : vwCl[2]? = some (RX0, TX0, 9)) 7 (by decide) iw_X0 rfl wf_X0_18 tyX0 tyX0_ok nmX0 rfl (ty := .array .int) (by decide +kernel) rfl rfl (Nat.le_of_ble_eq_true rfl) (fO T k0 (vO B k0) (gM 10)) (if_pos rfl) (fun i h1 h2 h3 => by simp only [fO, if_neg h3]) dX0_init_46 ?_
        refine U_vret C hr (by decide) (by decide) dX0_init_49 (fun k h1 h2 => ?_)
        by_cases e : k = k0 + 1
        · subst e
          refine Or.inr (Or.inl ⟨T 0, 10, gM 10, fun _ => -1, by simp [fO], by simp [fO], fun j hj => if_pos hj⟩)
        · exact Or.inl (by simp [fO, e])
      ·
        refine U_aload_n C dX0_init_20 rfl ?_
        refine U_get C (k := k0) (by omega) (by omega) (if_pos rfl) (rfl : vwCl[2]? = some (RX0, TX0, 9)) 5 (by decide) iw_X0 rfl wf_X0_9 rfl dX0_init_21 ?_
        refine U_iload_n C dX0_init_24 rfl ?_
        refine U_iconst (v := -1) C dX0_init_25 (by decide) ?_
        refine U_iast C (k := k0 + 1) (N := 10) (g := gM i) (by omega) (by omega) (by simp [fO]) i h (by decide) (fO T k0 [.int 0, .int 0, .int 0, .int 0, .int 0, .ref (B + (k0 + 1)), .null, .null, .int 0] (gM (i + 1))) (by simp [fO, gM_s]) (fun i h1 h2 h3 => by simp only [fO, if_neg h3]) dX0_init_26 ?_
        refine U_iinc C (v := nI (i + 1)) dX0_init_27 rfl (nI_1 _) (by decide) rfl ?_
        refine U_goto C 14 dX0_init_30 (by decide) ?_
        exact ih (i + 1) (by omega) (by omega)
  exact L14 11 0 (by omega) (by omega)
def fRd (T : Nat → ClassId) (v : List Value) : Nat → va_E := fun k => if k = 13 then .inr (4, v) else xA T 0 120 (fun _ => 0)
abbrev vRd0 : List Value := [.null, .null, .null, .int 0]
abbrev vRd (B : Nat) : List Value := [.ref (B + 14), .ref (B + 15), .ref (B + 16), .int 0]
set_option maxHeartbeats 4000000 in
set_option maxRecDepth 100000 in
theorem u_X2_init {l : Launch} {D : va_G} {T : Nat → ClassId} {B : Nat} {f : Nat → va_E} (hf : f 13 = .inr (4, vRd0)) : KM l yX2_init cX2_init 1 none 1 40 3 360 [.ref (B + 13)] D T B 13 14 f (QU D B 13 17 (fRd T (vRd B))) := by
  refine KM.of (by decide) [some (.ref (B + 13))] rfl rfl (Nat.le_of_ble_eq_true rfl) ?_
  intro pP eE sS mM argsA belowB methM cC C hr hm
  refine U_like (fRd T vRd0) (fun k h1 h2 => Or.inl (by obtain rfl : k = 13 := (by omega); rw [hf]; exact (if_pos rfl).symm)) ?_
  refine U_aload_n C dX2_init_0 rfl ?_
  refine U_obj C wo_X2 wq_oin wq_oco ⟨(by decide), (by decide)⟩ (by decide) dX2_init_1 ?_
  refine U_aload_n C dX2_init_4 rfl ?_
  refine U_bipush (v := 120) C dX2_init_5 (by decide) ?_
  refine U_newa C (at0 := .int) (c0 := 0) (ty := .int) (a0 := (120, .inl (fun _ => 0))) rfl rfl (fun h => h) (fun cA => rfl) (by decide) (by decide) (by decide) (by decide) (by decide) (fRd T vRd0) (by simp [fRd]) (fun i h1 h2 => rfl) dX2_init_7 ?_
  refine U_put C hm (k := 13) (by omega) (by omega) (if_pos rfl) (rfl : vwCl[4]? = some (RX2, TX2, 4)) 0 (by decide) iw_X2 rfl wf_X2_11 tyX2 tyX2_ok nmX2 rfl (ty := .array .int) (by decide +kernel) rfl rfl (Nat.le_of_ble_eq_true rfl) (fRd T [.ref (B + 14), .null, .null, .int 0]) (if_pos rfl) (fun i h1 h2 h3 => by simp only [fRd, if_neg h3]) dX2_init_9 ?_
  refine U_aload_n C dX2_init_12 rfl ?_
  refine U_bipush (v := 120) C dX2_init_13 (by decide) ?_
  refine U_newa C (at0 := .int) (c0 := 0) (ty := .int) (a0 := (120, .inl (fun _ => 0))) rfl rfl (fun h => h) (fun cA => rfl) (by decide) (by decide) (by decide) (by decide) (by decide) (fRd T [.ref (B + 14), .null, .null, .int 0]) (by simp [fRd]) (fun i h1 h2 => rfl) dX2_init_15 ?_
  refine U_put C hm (k := 13) (by omega) (by omega) (if_pos rfl) (rfl : vwCl[4]? = some (RX2, TX2, 4)) 1 (by decide) iw_X2 rfl wf_X2_15 tyX2 tyX2_ok nmX2 rfl (ty := .array .int) (by decide +kernel) rfl rfl (Nat.le_of_ble_eq_true rfl) (fRd T [.ref (B + 14), .ref (B + 15), .null, .int 0]) (if_pos rfl) (fun i h1 h2 h3 => by simp only [fRd, if_neg h3]) dX2_init_17 ?_
  refine U_aload_n C dX2_init_20 rfl ?_
  refine U_bipush (v := 120) C dX2_init_21 (by decide) ?_
  refine U_newa C (at0 := .int) (c0 := 0) (ty := .int) (a0 := (120, .inl (fun _ => 0))) rfl rfl (fun h => h) (fun cA => rfl) (by decide) (by decide) (by decide) (by decide) (by decide) (fRd T [.ref (B + 14), .ref (B + 15), .null, .int 0]) (by simp [fRd]) (fun i h1 h2 => rfl) dX2_init_23 ?_
  refine U_put C hm (k := 13) (by omega) (by omega) (if_pos rfl) (rfl : vwCl[4]? = some (RX2, TX2, 4)) 2 (by decide) iw_X2 rfl wf_X2_18 tyX2 tyX2_ok nmX2 rfl (ty := .array .int) (by decide +kernel) rfl rfl (Nat.le_of_ble_eq_true rfl) (fRd T (vRd B)) (if_pos rfl) (fun i h1 h2 h3 => by simp only [fRd, if_neg h3]) dX2_init_25 ?_
  exact U_vret C hr (by decide) (by decide) dX2_init_28 (fun k h1 h2 => Or.inl rfl)
def fRc (T : Nat → ClassId) (B : Nat) (v : List Value) (gr : Nat → Nat → Int32) (go : Nat → Int32) : Nat → va_E := fun k => if k = 1 then .inr (3, v) else if k = 2 then xR T 3 9 (fun i => if i < 9 then some (B + 2 + 1 + i) else none) else if k = 12 then xA T 0 3 go else xA T 0 60 (gr (k - 3))
/-- the marks' rows, cells told so far: store s, cell c -/
def gRc (s c : Nat) : Nat → Nat → Int32 := fun r j => if r % 3 = 1 ∧ (r / 3 < s ∨ (r / 3 = s ∧ j < c)) then -1 else 0
theorem gRc_0 : gRc 0 0 = fun _ _ => 0 := by
  funext r j
  unfold gRc
  rw [if_neg (by omega)]
theorem gRc_s {s c r : Nat} (h : r = s * 3 + 1) : gRc s (c + 1) r = upd (gRc s c r) c (-1) := by
  funext j
  unfold upd gRc
  by_cases e : j = c
  · rw [if_pos e, if_pos (by omega)]
  · rw [if_neg e]
    by_cases g : r % 3 = 1 ∧ (r / 3 < s ∨ (r / 3 = s ∧ j < c))
    · rw [if_pos g, if_pos (by omega)]
    · rw [if_neg g, if_neg (by omega)]
theorem gRc_o {s c r : Nat} (h : r ≠ s * 3 + 1) : gRc s (c + 1) r = gRc s c r := by
  funext j
  unfold gRc
  by_cases g : r % 3 = 1 ∧ (r / 3 < s ∨ (r / 3 = s ∧ j < c))
  · rw [if_pos g, if_pos (by omega)]
  · rw [if_neg g, if_neg (by omega)]
theorem gRc_l {s r j : Nat} (hj : j < 60) : gRc s 60 r j = gRc (s + 1) 0 r j := by
  unfold gRc
  by_cases g : r % 3 = 1 ∧ (r / 3 < s ∨ (r / 3 = s ∧ j < 60))
  · rw [if_pos g, if_pos (by omega)]
  · rw [if_neg g, if_neg (by omega)]
abbrev gOw (i : Nat) : Nat → Int32 := fun j => if j < i then nI j else 0
theorem gOw_0 : gOw 0 = fun _ => 0 := funext fun j => if_neg (Nat.not_lt_zero j)
theorem gOw_s (i : Nat) : gOw (i + 1) = upd (gOw i) i (nI i) := by
  funext j
  unfold upd
  show (if j < i + 1 then nI j else 0) = if j = i then nI i else if j < i then nI j else 0
  by_cases h : j = i
  · rw [if_pos h, if_pos (by omega), h]
  · rw [if_neg h]
    by_cases h2 : j < i
    · rw [if_pos h2, if_pos (by omega)]
    · rw [if_neg h2, if_neg (by omega)]
set_option maxHeartbeats 4000000 in
set_option maxRecDepth 100000 in
theorem u_X1_init {l : Launch} {D : va_G} {T : Nat → ClassId} {B : Nat} {f : Nat → va_E} (hf : f 1 = .inr (3, [.null, .null])) : KM l yX1_init cX1_init 3 none 1 80 11 552 [.ref (B + 1)] D T B 1 2 f (QU D B 1 13 (fun k => GC (sh D B T) k (a00 k))) := by
  refine KM.of (by decide) [some (.ref (B + 1)), none, none] rfl rfl (Nat.le_of_ble_eq_true rfl) ?_
  intro pP eE sS mM argsA belowB methM cC C hr hm
  refine U_like (fRc T B [.null, .null] (gRc 0 0) (gOw 0)) (fun k h1 h2 => Or.inl (by obtain rfl : k = 1 := (by omega); rw [hf]; exact (if_pos rfl).symm)) ?_
  refine U_aload_n C dX1_init_0 rfl ?_
  refine U_obj C wo_X1 wq_oin wq_oco ⟨(by decide), (by decide)⟩ (by decide) dX1_init_1 ?_
  refine U_aload_n C dX1_init_4 rfl ?_
  refine U_bipush (v := 9) C dX1_init_5 (by decide) ?_
  refine U_bipush (v := 60) C dX1_init_7 (by decide) ?_
  refine U_mna C wk_X1_11 (N := 9) (K := 60) (by decide) (by decide) (by decide) (by decide) (by decide) (by decide) (by decide) (by decide) (fRc T B [.null, .null] (gRc 0 0) (gOw 0)) (by simp [fRc]) (fun j hj => by simp [fRc, show ¬ 2 + 1 + j = 1 by omega, show ¬ 2 + 1 + j = 2 by omega, show ¬ 2 + 1 + j = 12 by omega, gRc_0]) (fun i h1 h2 => rfl) dX1_init_9 ?_
  refine U_put C hm (k := 1) (by omega) (by omega) (if_pos rfl) (rfl : vwCl[3]? = some (RX1, TX1, 2)) 0 (by decide) iw_X1 rfl wf_X1_13 tyX1 tyX1_ok nmX1 rfl (ty := .array (.array .int)) (by decide +kernel) rfl rfl (Nat.le_of_ble_eq_true rfl) (fRc T B [.ref (B + 2), .null] (gRc 0 0) (gOw 0)) (if_pos rfl) (fun i h1 h2 h3 => by simp only [fRc, if_neg h3]) dX1_init_13 ?_
  refine U_iconst (v := nI 0) C dX1_init_16 (by decide) ?_
  refine U_istore_n C dX1_init_17 (by decide) rfl ?_
  have L18 : ∀ (fuel s : Nat), s ≤ 3 → 3 < s + fuel → UU pP l eE ({ frames := 1, cells := 11, slots := 552, locals := 80 } : Room) sS mM argsA belowB methM cC (MQ belowB (QU D B 1 13 (fun k => GC (sh D B T) k (a00 k))) argsA sS 11 552 (fun q => B + 1 ≤ q)) D B 1 12 (fRc T B [.ref (B + 2), .null] (gRc s 0) (gOw 0)) 3 10 549 18 [some (.ref (B + 1)), some (.int (nI s)), none] [] := by
    intro fuel
    induction fuel with
    | zero => intro s h1 h2; omega
    | succ fuel ih =>
      intro s h1 h2
      refine U_iload_n C dX1_init_18 rfl ?_
      refine U_iconst (v := nI 3) C dX1_init_19 (by decide) ?_
      refine U_ge C 56 dX1_init_20 (by decide) (by omega) (by omega) (fun h => ?_) (fun h => ?_)
      · obtain rfl : s = 3 := by omega
        refine U_aload_n C dX1_init_56 rfl ?_
        refine U_iconst (v := 3) C dX1_init_57 (by decide) ?_
        refine U_newa C (at0 := .int) (c0 := 0) (ty := .int) (a0 := (3, .inl (fun _ => 0))) rfl rfl (fun h => h) (fun cA => rfl) (by decide) (by decide) (by decide) (by decide) (by decide) (fRc T B [.ref (B + 2), .null] (gRc 3 0) (gOw 0)) (by simp [fRc, gOw_0]) (fun i h1 h2 => rfl) dX1_init_58 ?_
        refine U_put C hm (k := 1) (by omega) (by omega) (if_pos rfl) (rfl : vwCl[3]? = some (RX1, TX1, 2)) 1 (by decide) iw_X1 rfl wf_X1_20 tyX1 tyX1_ok nmX1 rfl (ty := .array .int) (by decide +kernel) rfl rfl (Nat.le_of_ble_eq_true rfl) (fRc T B [.ref (B + 2), .ref (B + 12)] (gRc 3 0) (gOw 0)) (if_pos rfl) (fun i h1 h2 h3 => by simp only [fRc, if_neg h3]) dX1_init_60 ?_
        refine U_iconst (v := nI 0) C dX1_init_63 (by decide) ?_
        refine U_istore_n C dX1_init_64 (by decide) rfl ?_
        have L65 : ∀ (fuel i : Nat), i ≤ 3 → 3 < i + fuel → UU pP l eE ({ frames := 1, cells := 11, slots := 552, locals := 80 } : Room) sS mM argsA belowB methM cC (MQ belowB (QU D B 1 13 (fun k => GC (sh D B T) k (a00 k))) argsA sS 11 552 (fun q => B + 1 ≤ q)) D B 1 13 (fRc T B [.ref (B + 2), .ref (B + 12)] (gRc 3 0) (gOw i)) 3 11 552 65 [some (.ref (B + 1)), some (.int (nI i)), none] [] := by
          intro fuel
          induction fuel with
          | zero => intro i h1 h2; omega
          | succ fuel ih =>
            intro i h1 h2
            refine U_iload_n C dX1_init_65 rfl ?_
            refine U_iconst (v := nI 3) C dX1_init_66 (by decide) ?_
            refine U_ge C 83 dX1_init_67 (by decide) (by omega) (by omega) (fun h => ?_) (fun h => ?_)
            · obtain rfl : i = 3 := by omega
              refine U_vret C hr (by decide) (by decide) dX1_init_83 (fun k h1 h2 => ?_)
              have hk : k = 1 ∨ k = 2 ∨ k = 12 ∨ (3 ≤ k ∧ k < 12) := by omega
              rcases hk with rfl | rfl | rfl | hk
              · exact Or.inl rfl
              · refine Or.inr (Or.inr ⟨T 3, 9, _, _, rfl, rfl, fun j hj => ?_⟩)
                show (if j < 9 then some (B + 2 + 1 + j) else none) = (if j < 9 then some (B + (3 + j)) else none)
                rw [if_pos hj, if_pos hj, show B + 2 + 1 + j = B + (3 + j) by omega]
              · refine Or.inr (Or.inl ⟨T 0, 3, _, _, rfl, rfl, fun j hj => ?_⟩)
                show (if j < 3 then nI j else 0) = a00 12 j
                rw [if_pos hj]
                unfold a00
                rw [if_neg (by omega), if_pos rfl]
              · obtain ⟨r, rfl⟩ : ∃ r, k = 3 + r := ⟨k - 3, by omega⟩
                refine Or.inr (Or.inl ⟨T 0, 60, gRc 3 0 r, a00 (3 + r), by simp [fRc, show ¬ 3 + r = 1 by omega, show ¬ 3 + r = 2 by omega, show ¬ 3 + r = 12 by omega], GC_R (by omega), fun j hj => ?_⟩)
                unfold gRc a00
                by_cases e : r % 3 = 1
                · rw [if_pos (by omega), if_pos (by omega)]
                · rw [if_neg (by omega), if_neg (by omega), if_neg (by omega), if_neg (by omega)]
            ·
              refine U_aload_n C dX1_init_70 rfl ?_
              refine U_get C (k := 1) (by omega) (by omega) (if_pos rfl) (rfl : vwCl[3]? = some (RX1, TX1, 2)) 1 (by decide) iw_X1 rfl wf_X1_20 rfl dX1_init_71 ?_
              refine U_iload_n C dX1_init_74 rfl ?_
              refine U_iload_n C dX1_init_75 rfl ?_
              refine U_iast C (k := 12) (N := 3) (g := gOw i) (by omega) (by omega) rfl i h (by decide) (fRc T B [.ref (B + 2), .ref (B + 12)] (gRc 3 0) (gOw (i + 1))) (by simp [fRc, gOw_s]) (fun i h1 h2 h3 => by simp only [fRc, if_neg h3]) dX1_init_76 ?_
              refine U_iinc C (v := nI (i + 1)) dX1_init_77 rfl (nI_1 _) (by decide) rfl ?_
              refine U_goto C 65 dX1_init_80 (by decide) ?_
              exact ih (i + 1) (by omega) (by omega)
        exact L65 4 0 (by omega) (by omega)
      ·
        refine U_iconst (v := nI 0) C dX1_init_23 (by decide) ?_
        refine U_istore_n C dX1_init_24 (by decide) rfl ?_
        have L25 : ∀ (fuel c : Nat), c ≤ 60 → 60 < c + fuel → UU pP l eE ({ frames := 1, cells := 11, slots := 552, locals := 80 } : Room) sS mM argsA belowB methM cC (MQ belowB (QU D B 1 13 (fun k => GC (sh D B T) k (a00 k))) argsA sS 11 552 (fun q => B + 1 ≤ q)) D B 1 12 (fRc T B [.ref (B + 2), .null] (gRc s c) (gOw 0)) 3 10 549 25 [some (.ref (B + 1)), some (.int (nI s)), some (.int (nI c))] [] := by
          intro fuel2
          induction fuel2 with
          | zero => intro c h3 h4; omega
          | succ fuel2 ih2 =>
            intro c h3 h4
            refine U_iload_n C dX1_init_25 rfl ?_
            refine U_bipush (v := nI 60) C dX1_init_26 (by decide) ?_
            refine U_ge C 50 dX1_init_28 (by decide) (by omega) (by omega) (fun g => ?_) (fun g => ?_)
            · obtain rfl : c = 60 := by omega
              refine U_like (fRc T B [.ref (B + 2), .null] (gRc (s + 1) 0) (gOw 0)) (fun k h1 h2 => ?_) ?_
              · have hk : k = 1 ∨ k = 2 ∨ (3 ≤ k ∧ k < 12) := by omega
                rcases hk with rfl | rfl | hk
                · exact Or.inl rfl
                · exact Or.inl rfl
                · exact Or.inr (Or.inl ⟨T 0, 60, gRc s 60 (k - 3), gRc (s + 1) 0 (k - 3), by simp [fRc, show ¬ k = 1 by omega, show ¬ k = 2 by omega, show ¬ k = 12 by omega], by simp [fRc, show ¬ k = 1 by omega, show ¬ k = 2 by omega, show ¬ k = 12 by omega], fun j hj => gRc_l hj⟩)
              refine U_iinc C (v := nI (s + 1)) dX1_init_50 rfl (nI_1 _) (by decide) rfl ?_
              refine U_goto C 18 dX1_init_53 (by decide) ?_
              refine U_forget (lvLe.same (lvLe.same (lvLe.drop lvLe.nil))) ?_
              exact ih (s + 1) (by omega) (by omega)
            ·
              refine U_aload_n C dX1_init_31 rfl ?_
              refine U_get C (k := 1) (by omega) (by omega) (if_pos rfl) (rfl : vwCl[3]? = some (RX1, TX1, 2)) 0 (by decide) iw_X1 rfl wf_X1_13 rfl dX1_init_32 ?_
              refine U_iload_n C dX1_init_35 rfl ?_
              refine U_iconst (v := nI 1) C dX1_init_36 (by decide) ?_
              refine U_callS C (As := [.int (nI s), .int (nI 1)]) (rest := [.ref (B + 2)]) u_X1_rowOf mi_X1_rowOf mk_X1_16 (by decide) rfl (by decide) rfl (Nat.le_of_ble_eq_true rfl) (by decide) dX1_init_37 ?_
              refine U_aald C (k := 2) (N := 9) (c0 := 3) (q := B + (3 + (s * 3 + 1))) (by omega) (by omega) rfl rfl rfl (s * 3 + 1) (by omega) (by decide) (by simp only [if_pos (show s * 3 + 1 < 9 by omega)]; rw [show B + 2 + 1 + (s * 3 + 1) = B + (3 + (s * 3 + 1)) by omega]) dX1_init_40 ?_
              refine U_iload_n C dX1_init_41 rfl ?_
              refine U_iconst (v := -1) C dX1_init_42 (by decide) ?_
              refine U_iast C (k := 3 + (s * 3 + 1)) (N := 60) (g := gRc s c (s * 3 + 1)) (by omega) (by omega) (by simp [fRc, show ¬ 3 + (s * 3 + 1) = 1 by omega, show ¬ 3 + (s * 3 + 1) = 2 by omega, show ¬ 3 + (s * 3 + 1) = 12 by omega]) c g (by decide) (fRc T B [.ref (B + 2), .null] (gRc s (c + 1)) (gOw 0)) (by simp [fRc, show ¬ 3 + (s * 3 + 1) = 1 by omega, show ¬ 3 + (s * 3 + 1) = 2 by omega, show ¬ 3 + (s * 3 + 1) = 12 by omega, gRc_s]) (fun i h1 h2 h3 => by unfold fRc; split <;> first | rfl | (split <;> first | rfl | (split <;> first | rfl | (rw [gRc_o (show i - 3 ≠ s * 3 + 1 by omega)])))) dX1_init_43 ?_
              refine U_iinc C (v := nI (c + 1)) dX1_init_44 rfl (nI_1 _) (by decide) rfl ?_
              refine U_goto C 25 dX1_init_47 (by decide) ?_
              exact ih2 (c + 1) (by omega) (by omega)
        exact L25 61 0 (by omega) (by omega)
  exact L18 4 0 (by omega) (by omega)
