theorem fa_and (a b : Nat) : nI a &&& nI b = nI (a &&& b) := by
  apply Int32.toBitVec_inj.1
  show BitVec.ofNat 32 a &&& BitVec.ofNat 32 b = BitVec.ofNat 32 (a &&& b)
  apply BitVec.eq_of_getLsbD_eq
  intro i hi
  simp [hi]
theorem fa_or (a b : Nat) : nI a ||| nI b = nI (a ||| b) := by
  apply Int32.toBitVec_inj.1
  show BitVec.ofNat 32 a ||| BitVec.ofNat 32 b = BitVec.ofNat 32 (a ||| b)
  apply BitVec.eq_of_getLsbD_eq
  intro i hi
  simp [hi]
theorem giveA_s {a : Mem} {i p : Nat} {V : Int32} {c k : Nat} (h : c ≠ 67 ∧ (c < 18 ∨ 66 ≤ c ∨ ((c - 18) % 4 = 0 ∧ k ≠ 8))) (hn : nO a ≤ 12) (hi : i < 12) : giveA a i p V c k = a c k := by
  unfold giveA
  rw [gvA_01 (by omega) hn, up2_o (by omega), up2_o (by omega)]
theorem muA_s {a : Mem} {i c k : Nat} (h : c ≠ 67 ∧ (c < 18 ∨ 66 ≤ c ∨ ((c - 18) % 4 = 0 ∧ k ≠ 8))) (hn : nO a ≤ 12) (hi : i < 12) : muA a i c k = a c k := by
  unfold muA
  split
  · rfl
  · split
    · exact giveA_s h hn hi
    · rfl
theorem muA_no {a : Mem} (hW : WC a) {i : Nat} (hi : i < 12) (h : muF a i = -1) : muA a i = a := by
  unfold muF at h
  unfold muA
  split
  · rfl
  · rename_i h1
    rw [if_neg h1] at h
    split
    · rename_i h2
      rw [if_pos h2, hW.wte hi h2] at h
      have := hW.wtl hi h2
      exact absurd h (nI_ne_m1 (by omega))
    · rfl
def satB (a : Mem) (i p : Nat) : Bool := hs a i p && rgB a p (exN a i)
theorem lsK_at {a : Mem} {i p : Nat} (hi : i < 12) : lsK a i p (18 + 4 * i + 1) p = a (18 + 4 * i + 1) p := lsK_o p (by omega) (by omega) (by omega)
theorem lsK_hs {a : Mem} {i p : Nat} (hi : i < 12) : hs (lsK a i p) i p = hs a i p := by simp only [hs, lsK_at hi]
theorem lsK_rg {a : Mem} {i n p e : Nat} : rgB (lsK a i n) p e = rgB a p e := rgB_congr (fun r hr => lsK_o n (by omega) (by omega) (by omega))
/-! clashes, by masks -/
def zN (a : Mem) (i : Nat) : Nat := if a (18 + 4 * i) 4 = 0 then 0 else 1
def mS (a : Mem) (p : Nat) (g : Nat → Nat) : Nat → Nat
  | 0 => 0
  | n + 1 => if hs a n p = true then mS a p g n ||| 2 ^ g n else mS a p g n
theorem mS_bit {a : Mem} {p t : Nat} {g : Nat → Nat} : ∀ n, (mS a p g n).testBit t = anyN (fun i => hs a i p && decide (g i = t)) n := by
  intro n
  induction n with
  | zero => simp [mS, anyN]
  | succ n ih =>
    simp only [mS, anyN]
    split
    · rename_i h
      rw [Nat.testBit_or, ih, Nat.testBit_two_pow, h]
      simp
    · rename_i h
      rw [ih]
      simp [h]
theorem mS_and {a : Mem} {p n : Nat} {g : Nat → Nat} (h : ∀ i, i < n → hs a i p = true → g i ≠ g n) : nI (mS a p g n) &&& nI (2 ^ g n) = 0 := by
  have hb : (mS a p g n).testBit (g n) = false := by
    rw [mS_bit, anyN_f.mpr (fun i hi => by
      cases hh : hs a i p with
      | false => rfl
      | true => simp [h i hi hh])]
  have h0 : mS a p g n &&& 2 ^ g n = 0 := by
    apply Nat.eq_of_testBit_eq
    intro j
    rw [Nat.testBit_and, Nat.testBit_two_pow, Nat.zero_testBit]
    by_cases e : g n = j
    · rw [← e, hb]; rfl
    · simp [e]
  rw [fa_and, h0]
  rfl
theorem shl_12 : ∀ s, s < 12 → (1 : Int32) <<< (nI s &&& 31) = nI (2 ^ s) := by decide
/-- no two seats of p at one slot, or of one exam, first and resit apart -/
def noClash (a : Mem) (p : Nat) : Prop := ∀ i j, i < j → j < nO a → hs a i p = true → hs a j p = true → sl a i ≠ sl a j ∧ 2 * exN a i + zN a i ≠ 2 * exN a j + zN a j
set_option maxHeartbeats 4000000 in
set_option maxRecDepth 100000 in
theorem c_X3_isSeatLostByMove {l : Launch} {x : Sh} {a b : Mem} {o : Out} (hfl : l.stackTraces = false) (hW : WC a) {p : Nat} (hp : p < 10) {i : Nat} (hi : i < 12) {ns : Int32} : MG l x yX3_isSeatLostByMove cX3_isSeatLostByMove 5 (some .boolean) 2 120 [.ref (x.2.1 0), .int (nI p), .ref (x.2.1 (18 + 4 * i)), .int ns] a b o (QI x o (FI (bI (lostB a p ns)) (lostA a i p ns) b)) := by
  refine MG.of (maxL := 5) (ret := (some .boolean)) hfl (by decide) [some (.ref (x.2.1 0)), some (.int (nI p)), some (.ref (x.2.1 (18 + 4 * i))), some (.int ns), none] rfl rfl (Nat.le_of_ble_eq_true rfl) ?_
  intro pP eE sS mM argsA belowB methM cC C hr
  have ho12 := hW.ol
  refine V_aload_n C dX3_isSeatLostByMove_0 rfl ?_
  refine V_iload_n C dX3_isSeatLostByMove_1 rfl ?_
  refine V_iload_n C dX3_isSeatLostByMove_2 rfl ?_
  refine V_callf (R_V C (c_X3_offerHeldAt hfl hW hp) mi_X3_offerHeldAt mk_X3_309 rfl (by omega) rfl (rfl : vwCl[5]? = some (RX3, TX3, 13)) (by decide) rfl (Nat.le_of_ble_eq_true rfl) (by decide) dX3_isSeatLostByMove_3) ?_
  refine V_iconst (v := -1) C dX3_isSeatLostByMove_6 (by decide) ?_
  refine V_icmp_eq C 22 dX3_isSeatLostByMove_7 (by decide) (fun h7 => ?_) (fun h7 => ?_)
  · have q7 : lostB a p ns = false := (fI_any (n := nO a) (by omega)).mp h7
    refine V_aload_n C dX3_isSeatLostByMove_22 rfl ?_
    refine gt_X0_paidBy C (by omega) fk_X3_184 dX3_isSeatLostByMove_23 ?_
    refine V_iload_n C dX3_isSeatLostByMove_26 rfl ?_
    refine la_paidBy C (by omega) _ rfl (by omega) dX3_isSeatLostByMove_27 ?_
    refine V_iconst (v := 2) C dX3_isSeatLostByMove_28 (by decide) ?_
    refine V_idiv C dX3_isSeatLostByMove_29 (by decide) ?_
    refine V_istore_4 C dX3_isSeatLostByMove_30 (by decide) ?_
    refine V_aload_n C dX3_isSeatLostByMove_32 rfl ?_
    refine gt_X0_paidBy C (by omega) fk_X3_184 dX3_isSeatLostByMove_33 ?_
    refine V_iload_n C dX3_isSeatLostByMove_36 rfl ?_
    refine V_dup2 C dX3_isSeatLostByMove_37 rfl rfl ?_
    refine la_paidBy C (by omega) _ rfl (by omega) dX3_isSeatLostByMove_38 ?_
    refine V_iload C dX3_isSeatLostByMove_39 rfl ?_
    refine V_isub C dX3_isSeatLostByMove_41 ?_
    refine sa_paidBy C (by omega) _ rfl (by omega) dX3_isSeatLostByMove_42 ?_
    refine V_aload_n C dX3_isSeatLostByMove_43 rfl ?_
    refine V_iload_n C dX3_isSeatLostByMove_44 rfl ?_
    refine V_iload C dX3_isSeatLostByMove_45 rfl ?_
    refine V_callfv (R_V C (c_X3_payBack hfl hp) mi_X3_payBack mk_X3_200 rfl (by omega) rfl (rfl : vwCl[5]? = some (RX3, TX3, 13)) (by decide) rfl (Nat.le_of_ble_eq_true rfl) (by decide) dX3_isSeatLostByMove_47) ?_
    refine V_iconst (v := 0) C dX3_isSeatLostByMove_50 (by decide) ?_
    exact V_iretz C hr (by first | exact Or.inl rfl | exact Or.inr rfl | exact bI_or _) dX3_isSeatLostByMove_51 ⟨by rw [q7]; rfl, by rw [lostA, if_neg (by rw [q7]; decide)], rfl⟩
  · have q7 : lostB a p ns = true := by
      cases hx : lostB a p ns with
      | true => rfl
      | false => exact absurd ((fI_any (n := nO a) (by omega)).mpr hx) h7
    refine V_aload_n C dX3_isSeatLostByMove_10 rfl ?_
    refine V_iload_n C dX3_isSeatLostByMove_11 rfl ?_
    refine V_aload_n C dX3_isSeatLostByMove_12 rfl ?_
    refine V_iload_n C dX3_isSeatLostByMove_13 rfl ?_
    refine V_callf (R_VN C (c_X0_unseat hfl hi hp) mi_X0_unseat mk_X3_197 rfl (by omega) ((GE_C (by omega)).trans (GC_O (by omega))) (rfl : vwCl[2]? = some (RX0, TX0, 9)) (by decide) rfl (Nat.le_of_ble_eq_true rfl) (by decide) dX3_isSeatLostByMove_14) ?_
    refine V_callfv (R_V C (c_X3_payBack hfl hp) mi_X3_payBack mk_X3_200 rfl (by omega) rfl (rfl : vwCl[5]? = some (RX3, TX3, 13)) (by decide) rfl (Nat.le_of_ble_eq_true rfl) (by decide) dX3_isSeatLostByMove_17) ?_
    refine V_iconst (v := 1) C dX3_isSeatLostByMove_20 (by decide) ?_
    exact V_iretz C hr (by first | exact Or.inl rfl | exact Or.inr rfl | exact bI_or _) dX3_isSeatLostByMove_21 ⟨by rw [q7]; rfl, by rw [lostA, if_pos q7], rfl⟩
set_option maxHeartbeats 4000000 in
set_option maxRecDepth 100000 in
theorem c_X3_letSit {l : Launch} {x : Sh} {a b : Mem} {o : Out} (hfl : l.stackTraces = false) (hW : WC a) {i : Nat} (hi : i < 12) : MG l x yX3_letSit cX3_letSit 4 (some .int) 4 200 [.ref (x.2.1 0), .ref (x.2.1 (18 + 4 * i))] a b o (QI x o (FI (nI (cntN (satB a i) (nP a))) (lsK a i (nP a)) b)) := by
  refine MG.of (maxL := 4) (ret := (some .int)) hfl (by decide) [some (.ref (x.2.1 0)), some (.ref (x.2.1 (18 + 4 * i))), none, none] rfl rfl (Nat.le_of_ble_eq_true rfl) ?_
  intro pP eE sS mM argsA belowB methM cC C hr
  have hp10 := hW.pl
  have he5 := hW.exl hi
  have hW9 := hW.ls hi
  refine V_iconst (v := 0) C dX3_letSit_0 (by decide) ?_
  refine V_istore_n2 C dX3_letSit_1 (by decide) ?_
  refine V_iconst (v := 0) C dX3_letSit_2 (by decide) ?_
  refine V_istore_n3 C dX3_letSit_3 (by decide) ?_
  have L4 : ∀ (fuel : Nat) (k : Nat), k ≤ nP a → nP a - k < fuel → VV pP l eE ({ frames := 4, cells := 0, slots := 0, locals := 200 } : Room) sS mM argsA belowB methM cC (MQ belowB (QI x o (FI (nI (cntN (satB a i) (nP a))) (lsK a i (nP a)) b) sS.heap.size) argsA sS 0 0 (AW x sS.heap.size)) x 4 (lsK a i k) b o 0 0 4 [some (.ref (x.2.1 0)), some (.ref (x.2.1 (18 + 4 * i))), some (.int (nI (cntN (satB a i) k))), some (.int (nI k))] [] := by
    intro fuel
    induction fuel with
    | zero => intro k hk hm; exact absurd hm (Nat.not_lt_zero _)
    | succ fuel ih4 =>
      intro k hk hm
      refine V_iload_n C dX3_letSit_4 rfl ?_
      refine V_aload_n C dX3_letSit_5 rfl ?_
      refine gt_X3_pupilCount C fk_X3_65 dX3_letSit_6 ?_
      refine V_topi ((lsK_o _ (by omega) (by omega) (by omega)).trans hW.pe) ?_
      refine V_lt C 60 dX3_letSit_9 (by decide) (by omega) (by omega) (fun h9 => ?_) (fun h9 => ?_)
      · have e9 : k = nP a := by omega
        subst e9
        refine V_iload_n C dX3_letSit_60 rfl ?_
        exact V_ireti C hr dX3_letSit_61 ⟨rfl, rfl, rfl⟩
      · refine V_aload_n C dX3_letSit_12 rfl ?_
        refine V_iload_n C dX3_letSit_13 rfl ?_
        refine V_callf (R_VN C (c_X0_hasSeated hfl hi (by omega)) mi_X0_hasSeated mk_X3_178 rfl (by omega) ((GE_C (by omega)).trans (GC_O (by omega))) (rfl : vwCl[2]? = some (RX0, TX0, 9)) (by decide) rfl (Nat.le_of_ble_eq_true rfl) (by decide) dX3_letSit_14) ?_
        refine V_ifb_ne C 23 dX3_letSit_17 (by decide) (fun h17 => ?_) (fun h17 => ?_)
        · rw [lsK_hs hi] at h17
          refine V_aload_n C dX3_letSit_23 rfl ?_
          refine gt_X3_records C fk_X3_10 dX3_letSit_24 ?_
          refine V_iload_n C dX3_letSit_27 rfl ?_
          refine V_aload_n C dX3_letSit_28 rfl ?_
          refine gt_X0_exam C (by omega) fk_X3_314 dX3_letSit_29 ?_
          refine V_topi ((lsK_o _ (by omega) (by omega) (by omega)).trans (hW.exe hi)) ?_
          refine V_callf (R_VN C (c_X1_isRightGiven hfl ((hW9 k).owe (by decide)) (by have := (hW9 k).owl (k := 0) (by decide); omega) (by omega) (by omega)) mi_X1_isRightGiven mk_X3_258 rfl (by omega) rfl (rfl : vwCl[3]? = some (RX1, TX1, 2)) (by decide) rfl (Nat.le_of_ble_eq_true rfl) (by decide) dX3_letSit_32) ?_
          refine V_ifb_eq C 44 dX3_letSit_35 (by decide) (fun h35 => ?_) (fun h35 => ?_)
          · rw [lsK_rg] at h35
            refine V_aload_n C dX3_letSit_44 rfl ?_
            refine V_iload_n C dX3_letSit_45 rfl ?_
            refine V_aload_n C dX3_letSit_46 rfl ?_
            refine V_iload_n C dX3_letSit_47 rfl ?_
            refine V_callf (R_VN C (c_X0_unseat hfl hi (by omega)) mi_X0_unseat mk_X3_197 rfl (by omega) ((GE_C (by omega)).trans (GC_O (by omega))) (rfl : vwCl[2]? = some (RX0, TX0, 9)) (by decide) rfl (Nat.le_of_ble_eq_true rfl) (by decide) dX3_letSit_48) ?_
            refine V_topi (lsK_at hi) ?_
            refine V_callfv (R_V C (c_X3_payBack hfl (by omega)) mi_X3_payBack mk_X3_200 rfl (by omega) rfl (rfl : vwCl[5]? = some (RX3, TX3, 13)) (by decide) rfl (Nat.le_of_ble_eq_true rfl) (by decide) dX3_letSit_51) ?_
            refine V_iinc_3 C _ dX3_letSit_54 (nI_1 _) (by decide) ?_
            refine V_goto C 4 dX3_letSit_57 (by decide) ?_
            have ih := ih4 (k + 1) (by omega) (by omega)
            first
              | (rw [cntN_f (n := k) (show satB a i k = false by simp [satB, h17]), show lsK a i (k + 1) = lsK a i k by simp only [lsK]; rw [if_neg (by simp [h17])]] at ih; exact ih)
              | (rw [cntN_t (n := k) (show satB a i k = true by simp [satB, h17, h35]), show lsK a i (k + 1) = lsK a i k by simp only [lsK]; rw [if_neg (by simp [h35])]] at ih; exact ih)
              | (rw [cntN_f (n := k) (show satB a i k = false by simp [satB, h35]), show lsK a i (k + 1) = payA (up2 (lsK a i k) (18 + 4 * i + 1) k (-1)) k (a (18 + 4 * i + 1) k) by simp only [lsK]; rw [if_pos (by simp [h17, h35])]] at ih; exact ih)
          · rw [lsK_rg] at h35
            refine V_iinc_2 C _ dX3_letSit_38 (nI_1 _) (by decide) ?_
            refine V_goto C 54 dX3_letSit_41 (by decide) ?_
            refine V_iinc_3 C _ dX3_letSit_54 (nI_1 _) (by decide) ?_
            refine V_goto C 4 dX3_letSit_57 (by decide) ?_
            have ih := ih4 (k + 1) (by omega) (by omega)
            first
              | (rw [cntN_f (n := k) (show satB a i k = false by simp [satB, h17]), show lsK a i (k + 1) = lsK a i k by simp only [lsK]; rw [if_neg (by simp [h17])]] at ih; exact ih)
              | (rw [cntN_t (n := k) (show satB a i k = true by simp [satB, h17, h35]), show lsK a i (k + 1) = lsK a i k by simp only [lsK]; rw [if_neg (by simp [h35])]] at ih; exact ih)
              | (rw [cntN_f (n := k) (show satB a i k = false by simp [satB, h35]), show lsK a i (k + 1) = payA (up2 (lsK a i k) (18 + 4 * i + 1) k (-1)) k (a (18 + 4 * i + 1) k) by simp only [lsK]; rw [if_pos (by simp [h17, h35])]] at ih; exact ih)
        · rw [lsK_hs hi] at h17
          refine V_goto C 54 dX3_letSit_20 (by decide) ?_
          refine V_iinc_3 C _ dX3_letSit_54 (nI_1 _) (by decide) ?_
          refine V_goto C 4 dX3_letSit_57 (by decide) ?_
          have ih := ih4 (k + 1) (by omega) (by omega)
          first
            | (rw [cntN_f (n := k) (show satB a i k = false by simp [satB, h17]), show lsK a i (k + 1) = lsK a i k by simp only [lsK]; rw [if_neg (by simp [h17])]] at ih; exact ih)
            | (rw [cntN_t (n := k) (show satB a i k = true by simp [satB, h17, h35]), show lsK a i (k + 1) = lsK a i k by simp only [lsK]; rw [if_neg (by simp [h35])]] at ih; exact ih)
            | (rw [cntN_f (n := k) (show satB a i k = false by simp [satB, h35]), show lsK a i (k + 1) = payA (up2 (lsK a i k) (18 + 4 * i + 1) k (-1)) k (a (18 + 4 * i + 1) k) by simp only [lsK]; rw [if_pos (by simp [h17, h35])]] at ih; exact ih)
  exact L4 _ 0 (Nat.zero_le _) (Nat.lt_succ_self _)
set_option maxHeartbeats 4000000 in
set_option maxRecDepth 100000 in
theorem c_X3_hasSeatsThatClash {l : Launch} {x : Sh} {a b : Mem} {o : Out} (hfl : l.stackTraces = false) (hW : WC a) {p : Nat} (hp : p < 10) (hno : noClash a p) : MG l x yX3_hasSeatsThatClash cX3_hasSeatsThatClash 7 (some .boolean) 1 80 [.ref (x.2.1 0), .int (nI p)] a b o (QI x o (FI (bI false) a b)) := by
  refine MG.of (maxL := 7) (ret := (some .boolean)) hfl (by decide) [some (.ref (x.2.1 0)), some (.int (nI p)), none, none, none, none, none] rfl rfl (Nat.le_of_ble_eq_true rfl) ?_
  intro pP eE sS mM argsA belowB methM cC C hr
  have ho12 := hW.ol
  refine V_iconst (v := 0) C dX3_hasSeatsThatClash_0 (by decide) ?_
  refine V_istore_n2 C dX3_hasSeatsThatClash_1 (by decide) ?_
  refine V_iconst (v := 0) C dX3_hasSeatsThatClash_2 (by decide) ?_
  refine V_istore_n3 C dX3_hasSeatsThatClash_3 (by decide) ?_
  refine V_iconst (v := 0) C dX3_hasSeatsThatClash_4 (by decide) ?_
  refine V_istore_4 C dX3_hasSeatsThatClash_5 (by decide) ?_
  have L7 : ∀ (fuel : Nat) (k : Nat), k ≤ nO a → nO a - k < fuel → VV pP l eE ({ frames := 1, cells := 0, slots := 0, locals := 80 } : Room) sS mM argsA belowB methM cC (MQ belowB (QI x o (FI (bI false) a b) sS.heap.size) argsA sS 0 0 (AW x sS.heap.size)) x 7 a b o 0 0 7 [some (.ref (x.2.1 0)), some (.int (nI p)), some (.int (nI (mS a p (sl a) k))), some (.int (nI (mS a p (fun i => 2 * exN a i + zN a i) k))), some (.int (nI k)), none, none] [] := by
    intro fuel
    induction fuel with
    | zero => intro k hk hm; exact absurd hm (Nat.not_lt_zero _)
    | succ fuel ih7 =>
      intro k hk hm
      refine V_iload C dX3_hasSeatsThatClash_7 rfl ?_
      refine V_aload_n C dX3_hasSeatsThatClash_9 rfl ?_
      refine gt_X3_offerCount C fk_X3_91 dX3_hasSeatsThatClash_10 ?_
      refine V_topi hW.oe ?_
      refine V_lt C 114 dX3_hasSeatsThatClash_13 (by decide) (by omega) (by omega) (fun h13 => ?_) (fun h13 => ?_)
      · refine V_iconst (v := 0) C dX3_hasSeatsThatClash_114 (by decide) ?_
        exact V_iretz C hr (by first | exact Or.inl rfl | exact Or.inr rfl | exact bI_or _) dX3_hasSeatsThatClash_115 ⟨rfl, rfl, rfl⟩
      · have hs5 := hW.sll (i := k) (by omega)
        have he5 := hW.exl (i := k) (by omega)
        have hz1 : zN a k ≤ 1 := by unfold zN; split <;> omega
        refine V_aload_n C dX3_hasSeatsThatClash_16 rfl ?_
        refine gt_X3_offers C fk_X3_25 dX3_hasSeatsThatClash_17 ?_
        refine V_iload C dX3_hasSeatsThatClash_20 rfl ?_
        refine la_offers C _ rfl (by omega) dX3_hasSeatsThatClash_22 ?_
        refine V_iload_n C dX3_hasSeatsThatClash_23 rfl ?_
        refine V_callf (R_VN C (c_X0_hasSeated hfl (by omega) (by omega)) mi_X0_hasSeated mk_X3_178 rfl (by omega) ((GE_C (by omega)).trans (GC_O (by omega))) (rfl : vwCl[2]? = some (RX0, TX0, 9)) (by decide) rfl (Nat.le_of_ble_eq_true rfl) (by decide) dX3_hasSeatsThatClash_24) ?_
        refine V_ifb_ne C 33 dX3_hasSeatsThatClash_27 (by decide) (fun h27 => ?_) (fun h27 => ?_)
        · refine V_iconst (v := 1) C dX3_hasSeatsThatClash_33 (by decide) ?_
          refine V_aload_n C dX3_hasSeatsThatClash_34 rfl ?_
          refine gt_X3_offers C fk_X3_25 dX3_hasSeatsThatClash_35 ?_
          refine V_iload C dX3_hasSeatsThatClash_38 rfl ?_
          refine la_offers C _ rfl (by omega) dX3_hasSeatsThatClash_40 ?_
          refine gt_X0_slot C (by omega) fk_X3_104 dX3_hasSeatsThatClash_41 ?_
          refine V_topi (hW.sle (by omega)) ?_
          refine V_ishl C dX3_hasSeatsThatClash_44 ?_
          refine V_topi (shl_12 _ (by omega)) ?_
          refine V_istore_5 C dX3_hasSeatsThatClash_45 (by decide) ?_
          refine V_iconst (v := 1) C dX3_hasSeatsThatClash_47 (by decide) ?_
          refine V_iconst (v := nI 2) C dX3_hasSeatsThatClash_48 (by decide) ?_
          refine V_aload_n C dX3_hasSeatsThatClash_49 rfl ?_
          refine gt_X3_offers C fk_X3_25 dX3_hasSeatsThatClash_50 ?_
          refine V_iload C dX3_hasSeatsThatClash_53 rfl ?_
          refine la_offers C _ rfl (by omega) dX3_hasSeatsThatClash_55 ?_
          refine gt_X0_exam C (by omega) fk_X3_314 dX3_hasSeatsThatClash_56 ?_
          refine V_topi (hW.exe (by omega)) ?_
          refine V_imul C dX3_hasSeatsThatClash_59 ?_
          refine V_topi (pk_mul 2 _) ?_
          refine V_aload_n C dX3_hasSeatsThatClash_60 rfl ?_
          refine gt_X3_offers C fk_X3_25 dX3_hasSeatsThatClash_61 ?_
          refine V_iload C dX3_hasSeatsThatClash_64 rfl ?_
          refine la_offers C _ rfl (by omega) dX3_hasSeatsThatClash_66 ?_
          refine gt_X0_isResit C (by omega) fk_X3_317 dX3_hasSeatsThatClash_67 ?_
          refine V_if_eq C 77 dX3_hasSeatsThatClash_70 (by decide) (fun h70 => ?_) (fun h70 => ?_)
          · refine V_iconst (v := nI 0) C dX3_hasSeatsThatClash_77 (by decide) ?_
            refine V_iadd C dX3_hasSeatsThatClash_78 ?_
            refine V_topi (show _ = nI (2 * exN a k + zN a k) by first | (rw [zN, if_pos h70]; exact nI_add _ 0) | (rw [zN, if_neg h70]; exact nI_add _ 1)) ?_
            refine V_ishl C dX3_hasSeatsThatClash_79 ?_
            refine V_topi (shl_12 _ (by omega)) ?_
            refine V_istore_6 C dX3_hasSeatsThatClash_80 (by decide) ?_
            refine V_iload_n C dX3_hasSeatsThatClash_82 rfl ?_
            refine V_iload C dX3_hasSeatsThatClash_83 rfl ?_
            refine V_iand C dX3_hasSeatsThatClash_85 ?_
            refine V_topi (mS_and (g := sl a) (fun j hj hh => (hno j k hj h13 hh h27).1)) ?_
            refine V_if_ne C 96 dX3_hasSeatsThatClash_86 (by decide) (fun h86 => ?_) (fun h86 => ?_)
            · exact absurd rfl h86
            · refine V_iload_n C dX3_hasSeatsThatClash_89 rfl ?_
              refine V_iload C dX3_hasSeatsThatClash_90 rfl ?_
              refine V_iand C dX3_hasSeatsThatClash_92 ?_
              refine V_topi (mS_and (g := fun i => 2 * exN a i + zN a i) (fun j hj hh => (hno j k hj h13 hh h27).2)) ?_
              refine V_if_eq C 98 dX3_hasSeatsThatClash_93 (by decide) (fun h93 => ?_) (fun h93 => ?_)
              · refine V_iload_n C dX3_hasSeatsThatClash_98 rfl ?_
                refine V_iload C dX3_hasSeatsThatClash_99 rfl ?_
                refine V_ior C dX3_hasSeatsThatClash_101 ?_
                refine V_topi (fa_or _ _) ?_
                refine V_istore_n2 C dX3_hasSeatsThatClash_102 (by decide) ?_
                refine V_iload_n C dX3_hasSeatsThatClash_103 rfl ?_
                refine V_iload C dX3_hasSeatsThatClash_104 rfl ?_
                refine V_ior C dX3_hasSeatsThatClash_106 ?_
                refine V_topi (fa_or _ _) ?_
                refine V_istore_n3 C dX3_hasSeatsThatClash_107 (by decide) ?_
                refine V_iinc_4 C _ dX3_hasSeatsThatClash_108 (nI_1 _) (by decide) ?_
                refine V_goto C 7 dX3_hasSeatsThatClash_111 (by decide) ?_
                refine V_forget (lvLe.same (lvLe.same (lvLe.same (lvLe.same (lvLe.same (lvLe.drop (lvLe.drop lvLe.nil))))))) ?_
                have ih := ih7 (k + 1) (by omega) (by omega)
                simp only [mS] at ih
                first
                  | (rw [if_pos h27, if_pos h27] at ih; exact ih)
                  | (rw [if_neg (by rw [h27]; decide), if_neg (by rw [h27]; decide)] at ih; exact ih)
              · exact absurd rfl h93
          · refine V_iconst (v := nI 1) C dX3_hasSeatsThatClash_73 (by decide) ?_
            refine V_goto C 78 dX3_hasSeatsThatClash_74 (by decide) ?_
            refine V_iadd C dX3_hasSeatsThatClash_78 ?_
            refine V_topi (show _ = nI (2 * exN a k + zN a k) by first | (rw [zN, if_pos h70]; exact nI_add _ 0) | (rw [zN, if_neg h70]; exact nI_add _ 1)) ?_
            refine V_ishl C dX3_hasSeatsThatClash_79 ?_
            refine V_topi (shl_12 _ (by omega)) ?_
            refine V_istore_6 C dX3_hasSeatsThatClash_80 (by decide) ?_
            refine V_iload_n C dX3_hasSeatsThatClash_82 rfl ?_
            refine V_iload C dX3_hasSeatsThatClash_83 rfl ?_
            refine V_iand C dX3_hasSeatsThatClash_85 ?_
            refine V_topi (mS_and (g := sl a) (fun j hj hh => (hno j k hj h13 hh h27).1)) ?_
            refine V_if_ne C 96 dX3_hasSeatsThatClash_86 (by decide) (fun h86 => ?_) (fun h86 => ?_)
            · exact absurd rfl h86
            · refine V_iload_n C dX3_hasSeatsThatClash_89 rfl ?_
              refine V_iload C dX3_hasSeatsThatClash_90 rfl ?_
              refine V_iand C dX3_hasSeatsThatClash_92 ?_
              refine V_topi (mS_and (g := fun i => 2 * exN a i + zN a i) (fun j hj hh => (hno j k hj h13 hh h27).2)) ?_
              refine V_if_eq C 98 dX3_hasSeatsThatClash_93 (by decide) (fun h93 => ?_) (fun h93 => ?_)
              · refine V_iload_n C dX3_hasSeatsThatClash_98 rfl ?_
                refine V_iload C dX3_hasSeatsThatClash_99 rfl ?_
                refine V_ior C dX3_hasSeatsThatClash_101 ?_
                refine V_topi (fa_or _ _) ?_
                refine V_istore_n2 C dX3_hasSeatsThatClash_102 (by decide) ?_
                refine V_iload_n C dX3_hasSeatsThatClash_103 rfl ?_
                refine V_iload C dX3_hasSeatsThatClash_104 rfl ?_
                refine V_ior C dX3_hasSeatsThatClash_106 ?_
                refine V_topi (fa_or _ _) ?_
                refine V_istore_n3 C dX3_hasSeatsThatClash_107 (by decide) ?_
                refine V_iinc_4 C _ dX3_hasSeatsThatClash_108 (nI_1 _) (by decide) ?_
                refine V_goto C 7 dX3_hasSeatsThatClash_111 (by decide) ?_
                refine V_forget (lvLe.same (lvLe.same (lvLe.same (lvLe.same (lvLe.same (lvLe.drop (lvLe.drop lvLe.nil))))))) ?_
                have ih := ih7 (k + 1) (by omega) (by omega)
                simp only [mS] at ih
                first
                  | (rw [if_pos h27, if_pos h27] at ih; exact ih)
                  | (rw [if_neg (by rw [h27]; decide), if_neg (by rw [h27]; decide)] at ih; exact ih)
              · exact absurd rfl h93
        · refine V_goto C 108 dX3_hasSeatsThatClash_30 (by decide) ?_
          refine V_iinc_4 C _ dX3_hasSeatsThatClash_108 (nI_1 _) (by decide) ?_
          refine V_goto C 7 dX3_hasSeatsThatClash_111 (by decide) ?_
          have ih := ih7 (k + 1) (by omega) (by omega)
          simp only [mS] at ih
          first
            | (rw [if_pos h27, if_pos h27] at ih; exact ih)
            | (rw [if_neg (by rw [h27]; decide), if_neg (by rw [h27]; decide)] at ih; exact ih)
  exact L7 _ 0 (Nat.zero_le _) (Nat.lt_succ_self _)
