/-! the constructors of the class and of the reference -/
theorem U_eqq {p : Program} {l : Launch} {e : Env} {R : Room} {s : State} {m : MethodId} {args : Array Value} {below : List Frame} {meth : Method} {c : Code} {Q : State → Prop} {D : va_G} {B lo n n' nL : Nat} {f : Nat → va_E} {cells cells' slots slots' pc : Nat} {lv : List (Option Value)} {st : List Value} (h1 : n = n') (h2 : cells = cells') (h3 : slots = slots') (kk : UU p l e R s m args below meth c Q D B lo n' f nL cells' slots' pc lv st) : UU p l e R s m args below meth c Q D B lo n f nL cells slots pc lv st := by
  subst h1; subst h2; subst h3; exact kk
def fup (f : Nat → va_E) (n : Nat) (e : va_E) : Nat → va_E := fun k => if k = n then e else f k
theorem a00_z {c : Nat} (h : c ≠ 4 ∧ c ≠ 7 ∧ c ≠ 10 ∧ c ≠ 12 ∧ (c < 18 ∨ 66 ≤ c ∨ (c - 18) % 4 ≠ 1)) : a00 c = fun _ => 0 := funext fun _ => a00_0 h
theorem fRd_GC {D : va_G} {T : Nat → ClassId} {B k : Nat} (h1 : 13 ≤ k) (h2 : k < 17) : GC (sh D B T) k (a00 k) = fRd T (vRd B) k := by
  have e : a00 k = fun _ => 0 := a00_z (by omega)
  rw [e]
  have hk : k = 13 ∨ k = 14 ∨ k = 15 ∨ k = 16 := by omega
  rcases hk with rfl | rfl | rfl | rfl <;> rfl
theorem fO_GC {D : va_G} {T : Nat → ClassId} {B i k : Nat} (hi : i < 12) (h1 : 18 + 4 * i ≤ k) (h2 : k < 18 + 4 * i + 1 + 1 + 1 + 1) : GC (sh D B T) k (a00 k) = fO T (18 + 4 * i) (vO B (18 + 4 * i)) (fun _ => -1) k := by
  have hk : k = 18 + 4 * i ∨ k = 18 + 4 * i + 1 ∨ k = 18 + 4 * i + 2 ∨ k = 18 + 4 * i + 3 := by omega
  rcases hk with rfl | rfl | rfl | rfl
  · rw [GC_O hi, a00_z (by omega), fO, if_pos rfl]
    rfl
  · rw [GC_OA hi (by decide) (by decide), show a00 (18 + 4 * i + 1) = fun _ => -1 from funext fun _ => a00_p hi, fO, if_neg (by omega), if_pos rfl]
    rfl
  · rw [GC_OA hi (by decide) (by decide), a00_z (by omega), fO, if_neg (by omega), if_neg (by omega)]
    rfl
  · rw [GC_OA hi (by decide) (by decide), a00_z (by omega), fO, if_neg (by omega), if_neg (by omega)]
    rfl
def fX (D : va_G) (T : Nat → ClassId) (B : Nat) (v : List Value) (g : Nat → Option Nat) : Nat → va_E := fun k => if k = 0 then .inr (5, v) else if k = 17 then xR T 2 12 g else GC (sh D B T) k (a00 k)
abbrev gX (B i : Nat) : Nat → Option Nat := fun j => if j < i then some (B + (18 + 4 * j)) else none
theorem gX_0 (B : Nat) : gX B 0 = fun _ => none := funext fun j => if_neg (Nat.not_lt_zero j)
theorem gX_s (B i : Nat) : gX B (i + 1) = fun j => if j = i then some (B + (18 + 4 * i)) else gX B i j := by
  funext j
  show (if j < i + 1 then some (B + (18 + 4 * j)) else none) = if j = i then some (B + (18 + 4 * i)) else if j < i then some (B + (18 + 4 * j)) else none
  by_cases h : j = i
  · rw [if_pos h, if_pos (by omega), h]
  · rw [if_neg h]
    by_cases h2 : j < i
    · rw [if_pos h2, if_pos (by omega)]
    · rw [if_neg h2, if_neg (by omega)]
theorem fX_o {D : va_G} {T : Nat → ClassId} {B k : Nat} {v : List Value} {g : Nat → Option Nat} (h0 : k ≠ 0) (h1 : k ≠ 17) : fX D T B v g k = GC (sh D B T) k (a00 k) := by
  unfold fX
  rw [if_neg h0, if_neg h1]
abbrev vX0 : List Value := [.null, .null, .null, .null, .null, .null, .null, .int 0, .int 0, .int 0, .int 0, .int 0, .int 0]
set_option maxHeartbeats 4000000 in
set_option maxRecDepth 100000 in
theorem u_X3_init {l : Launch} {D : va_G} {T : Nat → ClassId} {B : Nat} {f : Nat → va_E} (hf : f 0 = .inr (5, vX0)) : KM l yX3_init cX3_init 2 none 2 140 69 1427 [.ref (B + 0)] D T B 0 1 f (QU D B 0 70 (fun k => GC (sh D B T) k (a00 k))) := by
  refine KM.of (by decide) [some (.ref (B + 0)), none] rfl rfl (Nat.le_of_ble_eq_true rfl) ?_
  intro pP eE sS mM argsA belowB methM cC C hr hm
  refine U_like (fX D T B [.null, .null, .null, .null, .null, .null, .null, .int 0, .int 0, .int 0, .int 0, .int 0, .int 0] (gX B 0)) (fun k h1 h2 => Or.inl (by obtain rfl : k = 0 := (by omega); rw [hf]; exact (if_pos rfl).symm)) ?_
  refine U_aload_n C dX3_init_0 rfl ?_
  refine U_obj C wo_X3 wq_oin wq_oco ⟨(by decide), (by decide)⟩ (by decide) dX3_init_1 ?_
  refine U_aload_n C dX3_init_4 rfl ?_
  refine U_new C (ci := 3) (N := 2) (Rn := RX1) (TT := TX1) (fs := [.null, .null]) iw_X1 tyX1 tyX1_ok wk_X3_7 wn_X1 wi_X1 rfl (fun j hj => by rcases (show j = 0 ∨ j = 1 by omega) with rfl | rfl <;> rfl) (by decide) (by decide) (fup (fX D T B [.null, .null, .null, .null, .null, .null, .null, .int 0, .int 0, .int 0, .int 0, .int 0, .int 0] (gX B 0)) (1) (.inr (3, [.null, .null]))) (if_pos rfl) (fun i h1 h2 => if_neg (by omega)) dX3_init_5 ?_
  refine U_dup C dX3_init_8 rfl ?_
  refine U_callIN C (k := 1) (hi := 13) (by omega) (by omega) (u_X1_init (if_pos rfl)) wl_X3_9 wi_X1 wm_X1 wc_X1 rfl wy_X1 ⟨(by decide), (by decide)⟩ (Nat.le_of_ble_eq_true rfl) ⟨(by decide), (by decide)⟩ dX3_init_9 (fX D T B [.null, .null, .null, .null, .null, .null, .null, .int 0, .int 0, .int 0, .int 0, .int 0, .int 0] (gX B 0)) (fun i h1 h2 => (if_neg (by omega)).symm) (fun i h1 h2 => fX_o (by omega) (by omega)) ?_
  refine U_put C hm (k := 0) (by omega) (by omega) (if_pos rfl) (rfl : vwCl[5]? = some (RX3, TX3, 13)) 0 (by decide) iw_X3 rfl wf_X3_10 tyX3 tyX3_ok nmX3 rfl (ty := .object "Classfederation$Records") (by decide +kernel) rfl rfl (Nat.le_of_ble_eq_true rfl) (fX D T B [.ref (B + 1), .null, .null, .null, .null, .null, .null, .int 0, .int 0, .int 0, .int 0, .int 0, .int 0] (gX B 0)) (if_pos rfl) (fun i h1 h2 h3 => by simp only [fX, if_neg h3]) dX3_init_12 ?_
  refine U_aload_n C dX3_init_15 rfl ?_
  refine U_new C (ci := 4) (N := 4) (Rn := RX2) (TT := TX2) (fs := vRd0) iw_X2 tyX2 tyX2_ok wk_X3_16 wn_X2 wi_X2 rfl (fun j hj => by rcases (show j = 0 ∨ j = 1 ∨ j = 2 ∨ j = 3 by omega) with rfl | rfl | rfl | rfl <;> rfl) (by decide) (by decide) (fup (fX D T B [.ref (B + 1), .null, .null, .null, .null, .null, .null, .int 0, .int 0, .int 0, .int 0, .int 0, .int 0] (gX B 0)) (13) (.inr (4, vRd0))) (if_pos rfl) (fun i h1 h2 => if_neg (by omega)) dX3_init_16 ?_
  refine U_dup C dX3_init_19 rfl ?_
  refine U_callIN C (k := 13) (hi := 17) (by omega) (by omega) (u_X2_init (if_pos rfl)) wl_X3_18 wi_X2 wm_X2 wc_X2 rfl wy_X2 ⟨(by decide), (by decide)⟩ (Nat.le_of_ble_eq_true rfl) ⟨(by decide), (by decide)⟩ dX3_init_20 (fX D T B [.ref (B + 1), .null, .null, .null, .null, .null, .null, .int 0, .int 0, .int 0, .int 0, .int 0, .int 0] (gX B 0)) (fun i h1 h2 => (if_neg (by omega)).symm) (fun i h1 h2 => (fX_o (by omega) (by omega)).trans (fRd_GC h1 h2)) ?_
  refine U_put C hm (k := 0) (by omega) (by omega) (if_pos rfl) (rfl : vwCl[5]? = some (RX3, TX3, 13)) 1 (by decide) iw_X3 rfl wf_X3_19 tyX3 tyX3_ok nmX3 rfl (ty := .object "Classfederation$Round") (by decide +kernel) rfl rfl (Nat.le_of_ble_eq_true rfl) (fX D T B [.ref (B + 1), .ref (B + 13), .null, .null, .null, .null, .null, .int 0, .int 0, .int 0, .int 0, .int 0, .int 0] (gX B 0)) (if_pos rfl) (fun i h1 h2 h3 => by simp only [fX, if_neg h3]) dX3_init_23 ?_
  refine U_aload_n C dX3_init_26 rfl ?_
  refine U_bipush (v := 12) C dX3_init_27 (by decide) ?_
  refine U_anew C wk_X3_23 (N := 12) (by decide) (by decide) (by decide) (by decide) (by decide) (fX D T B [.ref (B + 1), .ref (B + 13), .null, .null, .null, .null, .null, .int 0, .int 0, .int 0, .int 0, .int 0, .int 0] (gX B 0)) (by rw [← gX_0 B]; rfl) (fun i h1 h2 => rfl) dX3_init_29 ?_
  refine U_put C hm (k := 0) (by omega) (by omega) (if_pos rfl) (rfl : vwCl[5]? = some (RX3, TX3, 13)) 2 (by decide) iw_X3 rfl wf_X3_25 tyX3 tyX3_ok nmX3 rfl (ty := .array (.object "Classfederation$Offer")) (by decide +kernel) rfl rfl (Nat.le_of_ble_eq_true rfl) (fX D T B [.ref (B + 1), .ref (B + 13), .ref (B + 17), .null, .null, .null, .null, .int 0, .int 0, .int 0, .int 0, .int 0, .int 0] (gX B 0)) (if_pos rfl) (fun i h1 h2 h3 => by simp only [fX, if_neg h3]) dX3_init_32 ?_
  refine U_iconst (v := nI 0) C dX3_init_35 (by decide) ?_
  refine U_istore_n C dX3_init_36 (by decide) rfl ?_
  have L37 : ∀ (fuel i : Nat), i ≤ 12 → 12 < i + fuel → UU pP l eE ({ frames := 2, cells := 69, slots := 1427, locals := 140 } : Room) sS mM argsA belowB methM cC (MQ belowB (QU D B 0 70 (fun k => GC (sh D B T) k (a00 k))) argsA sS 69 1427 (fun q => B + 0 ≤ q)) D B 0 (18 + 4 * i) (fX D T B [.ref (B + 1), .ref (B + 13), .ref (B + 17), .null, .null, .null, .null, .int 0, .int 0, .int 0, .int 0, .int 0, .int 0] (gX B i)) 2 (17 + 4 * i) (930 + 39 * i) 37 [some (.ref (B + 0)), some (.int (nI i))] [] := by
    intro fuel
    induction fuel with
    | zero => intro i h1 h2; omega
    | succ fuel ih =>
      intro i h1 h2
      refine U_iload_n C dX3_init_37 rfl ?_
      refine U_bipush (v := nI 12) C dX3_init_38 (by decide) ?_
      refine U_ge C 62 dX3_init_40 (by decide) (by omega) (by omega) (fun h => ?_) (fun h => ?_)
      · obtain rfl : i = 12 := by omega
        refine U_eqq (n' := 66) (cells' := 65) (slots' := 1398) rfl rfl rfl ?_
        refine U_aload_n C dX3_init_62 rfl ?_
        refine U_iconst (v := 3) C dX3_init_63 (by decide) ?_
        refine U_newa C (at0 := .int) (c0 := 0) (ty := .int) (a0 := (3, .inl (fun _ => 0))) rfl rfl (fun h => h) (fun cA => rfl) (by decide) (by decide) (by decide) (by decide) (by decide) (fX D T B [.ref (B + 1), .ref (B + 13), .ref (B + 17), .null, .null, .null, .null, .int 0, .int 0, .int 0, .int 0, .int 0, .int 0] (gX B 12)) rfl (fun i h1 h2 => rfl) dX3_init_64 ?_
        refine U_put C hm (k := 0) (by omega) (by omega) (if_pos rfl) (rfl : vwCl[5]? = some (RX3, TX3, 13)) 3 (by decide) iw_X3 rfl wf_X3_30 tyX3 tyX3_ok nmX3 rfl (ty := .array .int) (by decide +kernel) rfl rfl (Nat.le_of_ble_eq_true rfl) (fX D T B [.ref (B + 1), .ref (B + 13), .ref (B + 17), .ref (B + 66), .null, .null, .null, .int 0, .int 0, .int 0, .int 0, .int 0, .int 0] (gX B 12)) (if_pos rfl) (fun i h1 h2 h3 => by simp only [fX, if_neg h3]) dX3_init_66 ?_
        refine U_aload_n C dX3_init_69 rfl ?_
        refine U_bipush (v := 10) C dX3_init_70 (by decide) ?_
        refine U_newa C (at0 := .int) (c0 := 0) (ty := .int) (a0 := (10, .inl (fun _ => 0))) rfl rfl (fun h => h) (fun cA => rfl) (by decide) (by decide) (by decide) (by decide) (by decide) (fX D T B [.ref (B + 1), .ref (B + 13), .ref (B + 17), .ref (B + 66), .null, .null, .null, .int 0, .int 0, .int 0, .int 0, .int 0, .int 0] (gX B 12)) rfl (fun i h1 h2 => rfl) dX3_init_72 ?_
        refine U_put C hm (k := 0) (by omega) (by omega) (if_pos rfl) (rfl : vwCl[5]? = some (RX3, TX3, 13)) 4 (by decide) iw_X3 rfl wf_X3_34 tyX3 tyX3_ok nmX3 rfl (ty := .array .int) (by decide +kernel) rfl rfl (Nat.le_of_ble_eq_true rfl) (fX D T B [.ref (B + 1), .ref (B + 13), .ref (B + 17), .ref (B + 66), .ref (B + 67), .null, .null, .int 0, .int 0, .int 0, .int 0, .int 0, .int 0] (gX B 12)) (if_pos rfl) (fun i h1 h2 h3 => by simp only [fX, if_neg h3]) dX3_init_74 ?_
        refine U_aload_n C dX3_init_77 rfl ?_
        refine U_bipush (v := 10) C dX3_init_78 (by decide) ?_
        refine U_newa C (at0 := .int) (c0 := 0) (ty := .int) (a0 := (10, .inl (fun _ => 0))) rfl rfl (fun h => h) (fun cA => rfl) (by decide) (by decide) (by decide) (by decide) (by decide) (fX D T B [.ref (B + 1), .ref (B + 13), .ref (B + 17), .ref (B + 66), .ref (B + 67), .null, .null, .int 0, .int 0, .int 0, .int 0, .int 0, .int 0] (gX B 12)) rfl (fun i h1 h2 => rfl) dX3_init_80 ?_
        refine U_put C hm (k := 0) (by omega) (by omega) (if_pos rfl) (rfl : vwCl[5]? = some (RX3, TX3, 13)) 5 (by decide) iw_X3 rfl wf_X3_37 tyX3 tyX3_ok nmX3 rfl (ty := .array .int) (by decide +kernel) rfl rfl (Nat.le_of_ble_eq_true rfl) (fX D T B [.ref (B + 1), .ref (B + 13), .ref (B + 17), .ref (B + 66), .ref (B + 67), .ref (B + 68), .null, .int 0, .int 0, .int 0, .int 0, .int 0, .int 0] (gX B 12)) (if_pos rfl) (fun i h1 h2 h3 => by simp only [fX, if_neg h3]) dX3_init_82 ?_
        refine U_aload_n C dX3_init_85 rfl ?_
        refine U_bipush (v := 6) C dX3_init_86 (by decide) ?_
        refine U_newa C (at0 := .boolean) (c0 := 1) (ty := .boolean) (a0 := (6, .inl (fun _ => 0))) rfl rfl (fun h => h) (fun cA => rfl) (by decide) (by decide) (by decide) (by decide) (by decide) (fX D T B [.ref (B + 1), .ref (B + 13), .ref (B + 17), .ref (B + 66), .ref (B + 67), .ref (B + 68), .null, .int 0, .int 0, .int 0, .int 0, .int 0, .int 0] (gX B 12)) rfl (fun i h1 h2 => rfl) dX3_init_88 ?_
        refine U_put C hm (k := 0) (by omega) (by omega) (if_pos rfl) (rfl : vwCl[5]? = some (RX3, TX3, 13)) 6 (by decide) iw_X3 rfl wf_X3_40 tyX3 tyX3_ok nmX3 rfl (ty := .array .boolean) (by decide +kernel) rfl rfl (Nat.le_of_ble_eq_true rfl) (fX D T B [.ref (B + 1), .ref (B + 13), .ref (B + 17), .ref (B + 66), .ref (B + 67), .ref (B + 68), .ref (B + 69), .int 0, .int 0, .int 0, .int 0, .int 0, .int 0] (gX B 12)) (if_pos rfl) (fun i h1 h2 h3 => by simp only [fX, if_neg h3]) dX3_init_90 ?_
        refine U_vret C hr (by decide) (by decide) dX3_init_93 (fun k h1 h2 => ?_)
        by_cases e0 : k = 0
        · subst e0
          exact Or.inl (by show _ = GC (sh D B T) 0 (a00 0); rw [a00_z (by omega)]; rfl)
        · by_cases e1 : k = 17
          · subst e1
            exact Or.inl rfl
          · exact Or.inl (fX_o e0 e1)
      ·
        refine U_aload_n C dX3_init_43 rfl ?_
        refine U_get C (k := 0) (by omega) (by omega) (if_pos rfl) (rfl : vwCl[5]? = some (RX3, TX3, 13)) 2 (by decide) iw_X3 rfl wf_X3_25 rfl dX3_init_44 ?_
        refine U_iload_n C dX3_init_47 rfl ?_
        refine U_new C (ci := 2) (N := 9) (Rn := RX0) (TT := TX0) (fs := vO0) iw_X0 tyX0 tyX0_ok wk_X3_23 wn_X0 wi_X0 rfl (fun j hj => by rcases (show j = 0 ∨ j = 1 ∨ j = 2 ∨ j = 3 ∨ j = 4 ∨ j = 5 ∨ j = 6 ∨ j = 7 ∨ j = 8 by omega) with rfl | rfl | rfl | rfl | rfl | rfl | rfl | rfl | rfl <;> rfl) (by show 17 + 4 * i + 1 ≤ 69; omega) (by show 930 + 39 * i + 9 ≤ 1427; omega) (fup (fX D T B [.ref (B + 1), .ref (B + 13), .ref (B + 17), .null, .null, .null, .null, .int 0, .int 0, .int 0, .int 0, .int 0, .int 0] (gX B i)) (18 + 4 * i) (.inr (2, vO0))) (if_pos rfl) (fun i h1 h2 => if_neg (by omega)) dX3_init_48 ?_
        refine U_dup C dX3_init_51 rfl ?_
        refine U_callIN C (k := 18 + 4 * i) (hi := 18 + 4 * i + 1 + 1 + 1 + 1) (by omega) (by omega) (u_X0_init (if_pos rfl)) wl_X3_29 wi_X0 wm_X0 wc_X0 rfl wy_X0 ⟨(by decide), (by decide)⟩ (Nat.le_of_ble_eq_true rfl) ⟨(by show 17 + 4 * i + 1 + 3 ≤ 69; omega), (by show 930 + 39 * i + 9 + 30 ≤ 1427; omega)⟩ dX3_init_52 (fX D T B [.ref (B + 1), .ref (B + 13), .ref (B + 17), .null, .null, .null, .null, .int 0, .int 0, .int 0, .int 0, .int 0, .int 0] (gX B i)) (fun i h1 h2 => (if_neg (by omega)).symm) (fun j h3 h4 => (fX_o (by omega) (by omega)).trans (fO_GC h h3 h4)) ?_
        refine U_aast C (k := 17) (N := 12) (kv := 18 + 4 * i) (by omega) (by omega) rfl i h (by decide) (by omega) (by omega) ((fX_o (by omega) (by omega)).trans (GC_O h)) (fX D T B [.ref (B + 1), .ref (B + 13), .ref (B + 17), .null, .null, .null, .null, .int 0, .int 0, .int 0, .int 0, .int 0, .int 0] (gX B (i + 1))) (by rw [← gX_s]; rfl) (fun j h3 h4 h5 => by simp only [fX, if_neg h5]) dX3_init_55 ?_
        refine U_iinc C (v := nI (i + 1)) dX3_init_56 rfl (nI_1 _) (by decide) rfl ?_
        refine U_goto C 37 dX3_init_59 (by decide) ?_
        refine U_eqq (n' := 18 + 4 * (i + 1)) (cells' := 17 + 4 * (i + 1)) (slots' := 930 + 39 * (i + 1)) (by omega) (by omega) (by omega) ?_
        exact ih (i + 1) (by omega) (by omega)
  exact L37 13 0 (by omega) (by omega)
