def bAt (a : Mem) (P O : Int32) (k : Nat) : Bool := decide (a 14 k = P) && decide (a 15 k = O)
def ptB (a : Mem) (P O : Int32) (w : Nat) : Int32 := if firN (bAt a P O) w < w then a 16 (firN (bAt a P O) w) else 0
def smB (a : Mem) (P : Int32) (k : Nat) : Int32 := if a 14 k = P then a 16 k else 0
def insPl (g : Nat → Int32) (V : Int32) : Nat → Nat
  | 0 => 0
  | n + 1 => if g n < V then insPl g V n else n + 1
theorem insPl_le {g : Nat → Int32} {V : Int32} {n : Nat} : insPl g V n ≤ n := by
  induction n with
  | zero => exact Nat.le_refl _
  | succ n ih => simp only [insPl]; split <;> omega
def shK (a : Mem) (w k : Nat) : Mem := fun c j => if (c = 14 ∨ c = 15 ∨ c = 16) ∧ k < j ∧ j ≤ w then a c (j - 1) else a c j
def tellP (a : Mem) (P O V : Int32) (w pl : Nat) : Mem := fun c j => if c = 13 ∧ j = 3 then nI (w + 1) else if c = 14 ∧ j = pl then P else if c = 15 ∧ j = pl then O else if c = 16 ∧ j = pl then V else if (c = 14 ∨ c = 15 ∨ c = 16) ∧ pl < j ∧ j ≤ w then a c (j - 1) else a c j
def tellA (a : Mem) (P O V : Int32) (w : Nat) : Mem := if 120 ≤ w then a else tellP a P O V w (insPl (a 16) V w)
theorem shK_0 {a : Mem} {w : Nat} : a = shK a w w := by
  funext c j
  simp only [shK]
  rw [if_neg (by omega)]
theorem shK_s {a : Mem} {w k : Nat} (h : k < w) : up2 (up2 (up2 (shK a w (k + 1)) 14 (k + 1) (a 14 k)) 15 (k + 1) (a 15 k)) 16 (k + 1) (a 16 k) = shK a w k := by
  funext c j
  simp only [up2, shK]
  grind
theorem shK_lo {a : Mem} {w k c j : Nat} (h : j ≤ k) : shK a w k c j = a c j := by
  simp only [shK]
  rw [if_neg (by omega)]
theorem shK_13 {a : Mem} {w k j : Nat} : shK a w k 13 j = a 13 j := by
  simp only [shK]
  rw [if_neg (by omega)]
theorem tellP_e {a : Mem} {P O V : Int32} {w k : Nat} : up2 (up2 (up2 (up2 (shK a w k) 14 k P) 15 k O) 16 k V) 13 3 (nI (w + 1)) = tellP a P O V w k := by
  funext c j
  simp only [up2, shK, tellP]
  grind
def del3 (a : Mem) (pl w k : Nat) : Mem := fun c j => if c = 13 ∧ j = 3 then nI (w - 1) else if (c = 14 ∨ c = 15 ∨ c = 16) ∧ pl ≤ j ∧ j < k then a c (j + 1) else a c j
def outA (a : Mem) (P O : Int32) (w : Nat) : Mem := if firN (bAt a P O) w < w then del3 a (firN (bAt a P O) w) w (w - 1) else a
theorem del3_0 {a : Mem} {pl w : Nat} : up2 a 13 3 (nI (w - 1)) = del3 a pl w pl := by
  funext c j
  simp only [up2, del3]
  split
  · rfl
  · rw [if_neg (by omega)]
theorem del3_s {a : Mem} {pl w k : Nat} (h : pl ≤ k) : up2 (up2 (up2 (del3 a pl w k) 14 k (a 14 (k + 1))) 15 k (a 15 (k + 1))) 16 k (a 16 (k + 1)) = del3 a pl w (k + 1) := by
  funext c j
  simp only [up2, del3]
  grind
theorem del3_hi {a : Mem} {pl w k c j : Nat} (hc : c ≠ 13) (h : k ≤ j) : del3 a pl w k c j = a c j := by
  simp only [del3]
  rw [if_neg (by omega), if_neg (by omega)]
theorem del3_n {a : Mem} {pl w k : Nat} : del3 a pl w k 13 3 = nI (w - 1) := by simp [del3]
/-! records -/
def rngB (f v : Int32) : Bool := if f = 0 then decide (¬ v < 0) && decide (¬ 1 < v) else if f = 1 then decide (¬ v < -1) && decide (¬ 100 < v) else decide (¬ v < 0) && decide (¬ 60 < v)
def dif (a : Mem) (r1 r2 c : Nat) : Bool := decide (¬ a (3 + r2) c = a (3 + r1) c)
def cpR (a : Mem) (r1 r2 k : Nat) : Mem := fun c j => if c = 3 + r2 ∧ j < k then a (3 + r1) j else a c j
theorem cpR_0 {a : Mem} {r1 r2 : Nat} : cpR a r1 r2 0 = a := by
  funext c j
  simp only [cpR]
  rw [if_neg (by omega)]
theorem cpR_s {a : Mem} {r1 r2 k : Nat} : up2 (cpR a r1 r2 k) (3 + r2) k (a (3 + r1) k) = cpR a r1 r2 (k + 1) := by
  funext c j
  simp only [up2, cpR]
  grind
theorem cpR_e {a : Mem} {r1 r2 k : Nat} (h : a (3 + r2) k = a (3 + r1) k) : cpR a r1 r2 k = cpR a r1 r2 (k + 1) := by
  funext c j
  simp only [cpR]
  grind
theorem cpR_1 {a : Mem} {r1 r2 k j : Nat} (h : r1 ≠ r2) : cpR a r1 r2 k (3 + r1) j = a (3 + r1) j := by
  simp only [cpR]
  rw [if_neg (by omega)]
theorem cpR_2 {a : Mem} {r1 r2 k j : Nat} (h : k ≤ j) : cpR a r1 r2 k (3 + r2) j = a (3 + r2) j := by
  simp only [cpR]
  rw [if_neg (by omega)]
def cpO (a : Mem) (s t : Nat) : Nat → Mem
  | 0 => a
  | f + 1 => if a 12 f = nI s then cpR (cpO a s t f) (s * 3 + f) (t * 3 + f) 60 else cpO a s t f
def cnO (a : Mem) (s t : Nat) : Nat → Nat
  | 0 => 0
  | f + 1 => cnO a s t f + (if a 12 f = nI s then cntN (dif (cpO a s t f) (s * 3 + f) (t * 3 + f)) 60 else 0)
theorem cpO_t {a : Mem} {s t f : Nat} (h : a 12 f = nI s) : cpO a s t (f + 1) = cpR (cpO a s t f) (s * 3 + f) (t * 3 + f) 60 := by simp only [cpO]; rw [if_pos h]
theorem cpO_f {a : Mem} {s t f : Nat} (h : ¬ a 12 f = nI s) : cpO a s t (f + 1) = cpO a s t f := by simp only [cpO]; rw [if_neg h]
theorem cnO_t {a : Mem} {s t f : Nat} (h : a 12 f = nI s) : cnO a s t (f + 1) = cnO a s t f + cntN (dif (cpO a s t f) (s * 3 + f) (t * 3 + f)) 60 := by simp only [cnO]; rw [if_pos h]
theorem cnO_f {a : Mem} {s t f : Nat} (h : ¬ a 12 f = nI s) : cnO a s t (f + 1) = cnO a s t f := by simp only [cnO]; rw [if_neg h, Nat.add_zero]
theorem cpO_12 {a : Mem} {s t f j : Nat} (ht : t * 3 + f ≤ 9) : cpO a s t f 12 j = a 12 j := by
  induction f with
  | zero => rfl
  | succ f ih =>
    simp only [cpO]
    split
    · simp only [cpR]
      rw [if_neg (by omega)]
      exact ih (by omega)
    · exact ih (by omega)
def agN (a : Mem) (f c : Nat) (j : Nat) : Bool := decide (¬ a (3 + ((j + 1) * 3 + f)) c = a (3 + (0 * 3 + f)) c)
def agB (a : Mem) (f c : Nat) : Bool := !anyN (agN a f c) 2
theorem agB_own {a : Mem} {f c k : Nat} (h : agB a f c = true) (hk : k < 3) : a (3 + (k * 3 + f)) c = a (3 + (0 * 3 + f)) c := by
  simp only [agB, Bool.not_eq_true'] at h
  have h2 := anyN_f.mp h
  match k, hk with
  | 0, _ => rfl
  | 1, _ => simpa [agN] using h2 0 (by omega)
  | 2, _ => simpa [agN] using h2 1 (by omega)
def rgB (a : Mem) (p e : Nat) : Bool := agB a 0 (p * 6 + e) && decide (a 3 (p * 6 + e) = 1)
def roB (a : Mem) (p e : Nat) : Bool := agB a 1 (p * 6 + e) && decide (¬ a 4 (p * 6 + e) < 0) && decide (¬ 49 < a 4 (p * 6 + e))
set_option maxHeartbeats 4000000 in
set_option maxRecDepth 100000 in
theorem c_X2_placeOf {l : Launch} {x : Sh} {a b : Mem} {o : Out} (hfl : l.stackTraces = false) {w : Nat} (hw : a 13 3 = nI w) (hw120 : w ≤ 120) {P O : Int32} : MG l x yX2_placeOf cX2_placeOf 4 (some .int) 0 40 [.ref (x.2.1 13), .int P, .int O] a b o (QI x o (FI (fI (bAt a P O) w) a b)) := by
  refine MG.of (maxL := 4) (ret := (some .int)) hfl (by decide) [some (.ref (x.2.1 13)), some (.int P), some (.int O), none] rfl rfl (Nat.le_of_ble_eq_true rfl) ?_
  intro pP eE sS mM argsA belowB methM cC C hr
  refine V_iconst (v := 0) C dX2_placeOf_0 (by decide) ?_
  refine V_istore_n3 C dX2_placeOf_1 (by decide) ?_
  have L2 : ∀ (fuel : Nat) (k : Nat), k ≤ w → (∀ j, j < k → bAt a P O j = false) → w - k < fuel → VV pP l eE ({ frames := 0, cells := 0, slots := 0, locals := 40 } : Room) sS mM argsA belowB methM cC (MQ belowB (QI x o (FI (fI (bAt a P O) w) a b) sS.heap.size) argsA sS 0 0 (AW x sS.heap.size)) x 4 a b o 0 0 2 [some (.ref (x.2.1 13)), some (.int P), some (.int O), some (.int (nI k))] [] := by
    intro fuel
    induction fuel with
    | zero => intro k hk hno hm; exact absurd hm (Nat.not_lt_zero _)
    | succ fuel ih2 =>
      intro k hk hno hm
      refine V_iload_n C dX2_placeOf_2 rfl ?_
      refine V_aload_n C dX2_placeOf_3 rfl ?_
      refine gt_X2_count C fk_X2_21 dX2_placeOf_4 ?_
      refine V_topi hw ?_
      refine V_lt C 38 dX2_placeOf_7 (by decide) (by omega) (by omega) (fun h7 => ?_) (fun h7 => ?_)
      · refine V_iconst (v := -1) C dX2_placeOf_38 (by decide) ?_
        exact V_ireti C hr dX2_placeOf_39 ⟨by rw [fI, firN_eq (Nat.le_refl w) (fun j hj => hno j (by omega)) (fun h => absurd h (Nat.lt_irrefl _)), if_neg (Nat.lt_irrefl _)], rfl, rfl⟩
      · refine V_aload_n C dX2_placeOf_10 rfl ?_
        refine gt_X2_pupils C fk_X2_11 dX2_placeOf_11 ?_
        refine V_iload_n C dX2_placeOf_14 rfl ?_
        refine la_rpupils C _ rfl (by omega) dX2_placeOf_15 ?_
        refine V_iload_n C dX2_placeOf_16 rfl ?_
        refine V_icmp_ne C 32 dX2_placeOf_17 (by decide) (fun h17 => ?_) (fun h17 => ?_)
        · refine V_iinc_3 C _ dX2_placeOf_32 (nI_1 _) (by decide) ?_
          refine V_goto C 2 dX2_placeOf_35 (by decide) ?_
          exact ih2 (k + 1) (by omega) (lt_s hno (by first | simp [bAt, h27] | simp [bAt, h17])) (by omega)
        · refine V_aload_n C dX2_placeOf_20 rfl ?_
          refine gt_X2_offers C fk_X2_15 dX2_placeOf_21 ?_
          refine V_iload_n C dX2_placeOf_24 rfl ?_
          refine la_roffers C _ rfl (by omega) dX2_placeOf_25 ?_
          refine V_iload_n C dX2_placeOf_26 rfl ?_
          refine V_icmp_ne C 32 dX2_placeOf_27 (by decide) (fun h27 => ?_) (fun h27 => ?_)
          · refine V_iinc_3 C _ dX2_placeOf_32 (nI_1 _) (by decide) ?_
            refine V_goto C 2 dX2_placeOf_35 (by decide) ?_
            exact ih2 (k + 1) (by omega) (lt_s hno (by first | simp [bAt, h27] | simp [bAt, h17])) (by omega)
          · refine V_iload_n C dX2_placeOf_30 rfl ?_
            exact V_ireti C hr dX2_placeOf_31 ⟨by rw [fI, firN_eq (by omega) hno (fun _ => by simp [bAt, show a 14 k = P by simpa using h17, show a 15 k = O by simpa using h27]), if_pos h7], rfl, rfl⟩
  exact L2 _ 0 (Nat.zero_le _) (fun j hj => absurd hj (Nat.not_lt_zero _)) (Nat.lt_succ_self _)
set_option maxHeartbeats 4000000 in
set_option maxRecDepth 100000 in
theorem c_X2_pointsBid {l : Launch} {x : Sh} {a b : Mem} {o : Out} (hfl : l.stackTraces = false) {w : Nat} (hw : a 13 3 = nI w) (hw120 : w ≤ 120) {P O : Int32} : MG l x yX2_pointsBid cX2_pointsBid 4 (some .int) 1 80 [.ref (x.2.1 13), .int P, .int O] a b o (QI x o (FI (ptB a P O w) a b)) := by
  refine MG.of (maxL := 4) (ret := (some .int)) hfl (by decide) [some (.ref (x.2.1 13)), some (.int P), some (.int O), none] rfl rfl (Nat.le_of_ble_eq_true rfl) ?_
  intro pP eE sS mM argsA belowB methM cC C hr
  refine V_aload_n C dX2_pointsBid_0 rfl ?_
  refine V_iload_n C dX2_pointsBid_1 rfl ?_
  refine V_iload_n C dX2_pointsBid_2 rfl ?_
  refine V_callf (R_V C (c_X2_placeOf hfl hw hw120) mi_X2_placeOf mk_X2_25 rfl (by omega) rfl (rfl : vwCl[4]? = some (RX2, TX2, 4)) (by decide) rfl (Nat.le_of_ble_eq_true rfl) (by decide) dX2_pointsBid_3) ?_
  refine V_istore_n3 C dX2_pointsBid_6 (by decide) ?_
  refine V_iload_n C dX2_pointsBid_7 rfl ?_
  refine V_iconst (v := -1) C dX2_pointsBid_8 (by decide) ?_
  refine V_icmp_ne C 16 dX2_pointsBid_9 (by decide) (fun h9 => ?_) (fun h9 => ?_)
  · have q9 : firN (bAt a P O) w < w := by
      have := mt (fI_m1 (f := bAt a P O) (n := w) (by omega)).mpr h9
      omega
    have e9 : fI (bAt a P O) w = nI (firN (bAt a P O) w) := by rw [fI, if_pos q9]
    refine V_aload_n C dX2_pointsBid_16 rfl ?_
    refine gt_X2_points C fk_X2_18 dX2_pointsBid_17 ?_
    refine V_iload_n C dX2_pointsBid_20 rfl ?_
    refine la_rpoints C _ e9 (by omega) dX2_pointsBid_21 ?_
    exact V_ireti C hr dX2_pointsBid_22 ⟨by first | rw [ptB, if_pos q9] | rw [ptB, if_neg q9], rfl, rfl⟩
  · have q9 : ¬ firN (bAt a P O) w < w := (fI_m1 (by omega)).mp (by simpa using h9)
    refine V_iconst (v := 0) C dX2_pointsBid_12 (by decide) ?_
    refine V_goto C 22 dX2_pointsBid_13 (by decide) ?_
    exact V_ireti C hr dX2_pointsBid_22 ⟨by first | rw [ptB, if_pos q9] | rw [ptB, if_neg q9], rfl, rfl⟩
set_option maxHeartbeats 4000000 in
set_option maxRecDepth 100000 in
theorem c_X2_sumOf {l : Launch} {x : Sh} {a b : Mem} {o : Out} (hfl : l.stackTraces = false) {w : Nat} (hw : a 13 3 = nI w) (hw120 : w ≤ 120) {P : Int32} : MG l x yX2_sumOf cX2_sumOf 4 (some .int) 0 40 [.ref (x.2.1 13), .int P] a b o (QI x o (FI (sumN (smB a P) w) a b)) := by
  refine MG.of (maxL := 4) (ret := (some .int)) hfl (by decide) [some (.ref (x.2.1 13)), some (.int P), none, none] rfl rfl (Nat.le_of_ble_eq_true rfl) ?_
  intro pP eE sS mM argsA belowB methM cC C hr
  refine V_iconst (v := 0) C dX2_sumOf_0 (by decide) ?_
  refine V_istore_n2 C dX2_sumOf_1 (by decide) ?_
  refine V_iconst (v := 0) C dX2_sumOf_2 (by decide) ?_
  refine V_istore_n3 C dX2_sumOf_3 (by decide) ?_
  have L4 : ∀ (fuel : Nat) (k : Nat), k ≤ w → w - k < fuel → VV pP l eE ({ frames := 0, cells := 0, slots := 0, locals := 40 } : Room) sS mM argsA belowB methM cC (MQ belowB (QI x o (FI (sumN (smB a P) w) a b) sS.heap.size) argsA sS 0 0 (AW x sS.heap.size)) x 4 a b o 0 0 4 [some (.ref (x.2.1 13)), some (.int P), some (.int (sumN (smB a P) k)), some (.int (nI k))] [] := by
    intro fuel
    induction fuel with
    | zero => intro k hk hm; exact absurd hm (Nat.not_lt_zero _)
    | succ fuel ih4 =>
      intro k hk hm
      refine V_iload_n C dX2_sumOf_4 rfl ?_
      refine V_aload_n C dX2_sumOf_5 rfl ?_
      refine gt_X2_count C fk_X2_21 dX2_sumOf_6 ?_
      refine V_topi hw ?_
      refine V_lt C 37 dX2_sumOf_9 (by decide) (by omega) (by omega) (fun h9 => ?_) (fun h9 => ?_)
      · refine V_iload_n C dX2_sumOf_37 rfl ?_
        exact V_ireti C hr dX2_sumOf_38 ⟨by rw [show w = k by omega], rfl, rfl⟩
      · refine V_aload_n C dX2_sumOf_12 rfl ?_
        refine gt_X2_pupils C fk_X2_11 dX2_sumOf_13 ?_
        refine V_iload_n C dX2_sumOf_16 rfl ?_
        refine la_rpupils C _ rfl (by omega) dX2_sumOf_17 ?_
        refine V_iload_n C dX2_sumOf_18 rfl ?_
        refine V_icmp_ne C 31 dX2_sumOf_19 (by decide) (fun h19 => ?_) (fun h19 => ?_)
        · refine V_iinc_3 C _ dX2_sumOf_31 (nI_1 _) (by decide) ?_
          refine V_goto C 4 dX2_sumOf_34 (by decide) ?_
          have ih := ih4 (k + 1) (by omega) (by omega)
          have e1 : sumN (smB a P) (k + 1) = sumN (smB a P) k + smB a P k := rfl
          rw [e1] at ih
          first
            | (rw [show smB a P k = a 16 k by rw [smB, if_pos (by simpa using h19)]] at ih; exact ih)
            | (rw [show smB a P k = 0 by rw [smB, if_neg (by simpa using h19)], show ∀ z : Int32, z + 0 = z from fun z => by simp] at ih; exact ih)
        · refine V_iload_n C dX2_sumOf_22 rfl ?_
          refine V_aload_n C dX2_sumOf_23 rfl ?_
          refine gt_X2_points C fk_X2_18 dX2_sumOf_24 ?_
          refine V_iload_n C dX2_sumOf_27 rfl ?_
          refine la_rpoints C _ rfl (by omega) dX2_sumOf_28 ?_
          refine V_iadd C dX2_sumOf_29 ?_
          refine V_istore_n2 C dX2_sumOf_30 (by decide) ?_
          refine V_iinc_3 C _ dX2_sumOf_31 (nI_1 _) (by decide) ?_
          refine V_goto C 4 dX2_sumOf_34 (by decide) ?_
          have ih := ih4 (k + 1) (by omega) (by omega)
          have e1 : sumN (smB a P) (k + 1) = sumN (smB a P) k + smB a P k := rfl
          rw [e1] at ih
          first
            | (rw [show smB a P k = a 16 k by rw [smB, if_pos (by simpa using h19)]] at ih; exact ih)
            | (rw [show smB a P k = 0 by rw [smB, if_neg (by simpa using h19)], show ∀ z : Int32, z + 0 = z from fun z => by simp] at ih; exact ih)
  exact L4 _ 0 (Nat.zero_le _) (Nat.lt_succ_self _)
set_option maxHeartbeats 4000000 in
set_option maxRecDepth 100000 in
theorem c_X2_tell {l : Launch} {x : Sh} {a b : Mem} {o : Out} (hfl : l.stackTraces = false) {w : Nat} (hw : a 13 3 = nI w) (hw120 : w ≤ 120) {P O V : Int32} : MG l x yX2_tell cX2_tell 5 none 0 40 [.ref (x.2.1 13), .int P, .int O, .int V] a b o (QV x o (FV (tellA a P O V w) b)) := by
  refine MG.of (maxL := 5) (ret := none) hfl (by decide) [some (.ref (x.2.1 13)), some (.int P), some (.int O), some (.int V), none] rfl rfl (Nat.le_of_ble_eq_true rfl) ?_
  intro pP eE sS mM argsA belowB methM cC C hr
  refine V_aload_n C dX2_tell_0 rfl ?_
  refine gt_X2_count C fk_X2_21 dX2_tell_1 ?_
  refine V_topi hw ?_
  refine V_bipush (v := nI 120) C dX2_tell_4 (by decide) ?_
  refine V_icmp_lt C 10 dX2_tell_6 (by decide) (fun h6 => ?_) (fun h6 => ?_)
  · have q6 : w < 120 := (nI_ltI (by omega) (by omega)).mp h6
    refine V_aload_n C dX2_tell_10 rfl ?_
    refine gt_X2_count C fk_X2_21 dX2_tell_11 ?_
    refine V_topi hw ?_
    refine V_istore_4 C dX2_tell_14 (by decide) ?_
    refine V_eqa (shK_0 (w := w)) rfl ?_
    have L16 : ∀ (fuel : Nat) (k : Nat), k ≤ w → insPl (a 16) V w = insPl (a 16) V k → k < fuel → VV pP l eE ({ frames := 0, cells := 0, slots := 0, locals := 40 } : Room) sS mM argsA belowB methM cC (MQ belowB (QV x o (FV (tellA a P O V w) b) sS.heap.size) argsA sS 0 0 (AW x sS.heap.size)) x 5 (shK a w k) b o 0 0 16 [some (.ref (x.2.1 13)), some (.int P), some (.int O), some (.int V), some (.int (nI k))] [] := by
      intro fuel
      induction fuel with
      | zero => intro k hk hpl hm; exact absurd hm (Nat.not_lt_zero _)
      | succ fuel ih16 =>
        intro k hk hpl hm
        refine V_iload C dX2_tell_16 rfl ?_
        refine V_if_le C 88 dX2_tell_18 (by decide) (fun h18 => ?_) (fun h18 => ?_)
        · have q18 : k = 0 := by
            have := (nI_leI (a := k) (b := 0) (by omega) (by omega)).mp h18
            omega
          have hfin : insPl (a 16) V k = k := by subst q18; rfl
          refine V_aload_n C dX2_tell_88 rfl ?_
          refine gt_X2_pupils C fk_X2_11 dX2_tell_89 ?_
          refine V_iload C dX2_tell_92 rfl ?_
          refine V_iload_n C dX2_tell_94 rfl ?_
          refine sa_rpupils C _ rfl (by omega) dX2_tell_95 ?_
          refine V_aload_n C dX2_tell_96 rfl ?_
          refine gt_X2_offers C fk_X2_15 dX2_tell_97 ?_
          refine V_iload C dX2_tell_100 rfl ?_
          refine V_iload_n C dX2_tell_102 rfl ?_
          refine sa_roffers C _ rfl (by omega) dX2_tell_103 ?_
          refine V_aload_n C dX2_tell_104 rfl ?_
          refine gt_X2_points C fk_X2_18 dX2_tell_105 ?_
          refine V_iload C dX2_tell_108 rfl ?_
          refine V_iload_n C dX2_tell_110 rfl ?_
          refine sa_rpoints C _ rfl (by omega) dX2_tell_111 ?_
          refine V_aload_n C dX2_tell_112 rfl ?_
          refine V_dup C dX2_tell_113 rfl ?_
          refine gt_X2_count C fk_X2_21 dX2_tell_114 ?_
          refine V_topi ((up2_o (by omega)).trans ((up2_o (by omega)).trans ((up2_o (by omega)).trans (shK_13.trans hw)))) ?_
          refine V_iconst (v := 1) C dX2_tell_117 (by decide) ?_
          refine V_iadd C dX2_tell_118 ?_
          refine V_topi (nI_1 _) ?_
          refine pt_X2_count C fk_X2_21 dX2_tell_119 ?_
          exact V_vret C hr dX2_tell_122 ⟨by rw [tellP_e, tellA, if_neg (by omega), hpl, hfin], rfl⟩
        · have q18 : ¬ k = 0 := by
            intro e
            subst e
            exact h18 (by decide)
          obtain ⟨k, rfl⟩ : ∃ k9, k = k9 + 1 := ⟨k - 1, by omega⟩
          refine V_aload_n C dX2_tell_21 rfl ?_
          refine gt_X2_points C fk_X2_18 dX2_tell_22 ?_
          refine V_iload C dX2_tell_25 rfl ?_
          refine V_iconst (v := 1) C dX2_tell_27 (by decide) ?_
          refine V_isub C dX2_tell_28 ?_
          refine V_topi (nI_pred _) ?_
          refine la_rpoints C _ rfl (by omega) dX2_tell_29 ?_
          refine V_topi (shK_lo (by omega)) ?_
          refine V_iload_n C dX2_tell_30 rfl ?_
          refine V_icmp_ge C 88 dX2_tell_31 (by decide) (fun h31 => ?_) (fun h31 => ?_)
          · have hfin : insPl (a 16) V (k + 1) = k + 1 := by
              simp only [insPl]
              rw [if_neg (Int32.not_lt.mpr h31)]
            refine V_aload_n C dX2_tell_88 rfl ?_
            refine gt_X2_pupils C fk_X2_11 dX2_tell_89 ?_
            refine V_iload C dX2_tell_92 rfl ?_
            refine V_iload_n C dX2_tell_94 rfl ?_
            refine sa_rpupils C _ rfl (by omega) dX2_tell_95 ?_
            refine V_aload_n C dX2_tell_96 rfl ?_
            refine gt_X2_offers C fk_X2_15 dX2_tell_97 ?_
            refine V_iload C dX2_tell_100 rfl ?_
            refine V_iload_n C dX2_tell_102 rfl ?_
            refine sa_roffers C _ rfl (by omega) dX2_tell_103 ?_
            refine V_aload_n C dX2_tell_104 rfl ?_
            refine gt_X2_points C fk_X2_18 dX2_tell_105 ?_
            refine V_iload C dX2_tell_108 rfl ?_
            refine V_iload_n C dX2_tell_110 rfl ?_
            refine sa_rpoints C _ rfl (by omega) dX2_tell_111 ?_
            refine V_aload_n C dX2_tell_112 rfl ?_
            refine V_dup C dX2_tell_113 rfl ?_
            refine gt_X2_count C fk_X2_21 dX2_tell_114 ?_
            refine V_topi ((up2_o (by omega)).trans ((up2_o (by omega)).trans ((up2_o (by omega)).trans (shK_13.trans hw)))) ?_
            refine V_iconst (v := 1) C dX2_tell_117 (by decide) ?_
            refine V_iadd C dX2_tell_118 ?_
            refine V_topi (nI_1 _) ?_
            refine pt_X2_count C fk_X2_21 dX2_tell_119 ?_
            exact V_vret C hr dX2_tell_122 ⟨by rw [tellP_e, tellA, if_neg (by omega), hpl, hfin], rfl⟩
          · have q31 : a 16 k < V := Int32.not_le.mp h31
            refine V_aload_n C dX2_tell_34 rfl ?_
            refine gt_X2_pupils C fk_X2_11 dX2_tell_35 ?_
            refine V_iload C dX2_tell_38 rfl ?_
            refine V_aload_n C dX2_tell_40 rfl ?_
            refine gt_X2_pupils C fk_X2_11 dX2_tell_41 ?_
            refine V_iload C dX2_tell_44 rfl ?_
            refine V_iconst (v := 1) C dX2_tell_46 (by decide) ?_
            refine V_isub C dX2_tell_47 ?_
            refine V_topi (nI_pred _) ?_
            refine la_rpupils C _ rfl (by omega) dX2_tell_48 ?_
            refine V_topi (shK_lo (by omega)) ?_
            refine sa_rpupils C _ rfl (by omega) dX2_tell_49 ?_
            refine V_aload_n C dX2_tell_50 rfl ?_
            refine gt_X2_offers C fk_X2_15 dX2_tell_51 ?_
            refine V_iload C dX2_tell_54 rfl ?_
            refine V_aload_n C dX2_tell_56 rfl ?_
            refine gt_X2_offers C fk_X2_15 dX2_tell_57 ?_
            refine V_iload C dX2_tell_60 rfl ?_
            refine V_iconst (v := 1) C dX2_tell_62 (by decide) ?_
            refine V_isub C dX2_tell_63 ?_
            refine V_topi (nI_pred _) ?_
            refine la_roffers C _ rfl (by omega) dX2_tell_64 ?_
            refine V_topi ((up2_o (by omega)).trans (shK_lo (by omega))) ?_
            refine sa_roffers C _ rfl (by omega) dX2_tell_65 ?_
            refine V_aload_n C dX2_tell_66 rfl ?_
            refine gt_X2_points C fk_X2_18 dX2_tell_67 ?_
            refine V_iload C dX2_tell_70 rfl ?_
            refine V_aload_n C dX2_tell_72 rfl ?_
            refine gt_X2_points C fk_X2_18 dX2_tell_73 ?_
            refine V_iload C dX2_tell_76 rfl ?_
            refine V_iconst (v := 1) C dX2_tell_78 (by decide) ?_
            refine V_isub C dX2_tell_79 ?_
            refine V_topi (nI_pred _) ?_
            refine la_rpoints C _ rfl (by omega) dX2_tell_80 ?_
            refine V_topi ((up2_o (by omega)).trans ((up2_o (by omega)).trans (shK_lo (by omega)))) ?_
            refine sa_rpoints C _ rfl (by omega) dX2_tell_81 ?_
            refine V_iinc_4 C (nI k) dX2_tell_82 (pk_m1 _) (by decide) ?_
            refine V_goto C 16 dX2_tell_85 (by decide) ?_
            rw [shK_s (by omega)]
            exact ih16 k (by omega) (by rw [hpl]; simp only [insPl]; rw [if_pos q31]) (by omega)
    exact L16 _ w (Nat.le_refl _) rfl (Nat.lt_succ_self _)
  · have q6 : 120 ≤ w := by
      have := mt (nI_ltI (a := w) (b := 120) (by omega) (by omega)).mpr h6
      omega
    exact V_vret C hr dX2_tell_9 ⟨by rw [tellA, if_pos q6], rfl⟩
set_option maxHeartbeats 4000000 in
set_option maxRecDepth 100000 in
theorem c_X2_takeOut {l : Launch} {x : Sh} {a b : Mem} {o : Out} (hfl : l.stackTraces = false) {w : Nat} (hw : a 13 3 = nI w) (hw120 : w ≤ 120) {P O : Int32} : MG l x yX2_takeOut cX2_takeOut 5 none 1 80 [.ref (x.2.1 13), .int P, .int O] a b o (QV x o (FV (outA a P O w) b)) := by
  refine MG.of (maxL := 5) (ret := none) hfl (by decide) [some (.ref (x.2.1 13)), some (.int P), some (.int O), none, none] rfl rfl (Nat.le_of_ble_eq_true rfl) ?_
  intro pP eE sS mM argsA belowB methM cC C hr
  refine V_aload_n C dX2_takeOut_0 rfl ?_
  refine V_iload_n C dX2_takeOut_1 rfl ?_
  refine V_iload_n C dX2_takeOut_2 rfl ?_
  refine V_callf (R_V C (c_X2_placeOf hfl hw hw120) mi_X2_placeOf mk_X2_25 rfl (by omega) rfl (rfl : vwCl[4]? = some (RX2, TX2, 4)) (by decide) rfl (Nat.le_of_ble_eq_true rfl) (by decide) dX2_takeOut_3) ?_
  refine V_istore_n3 C dX2_takeOut_6 (by decide) ?_
  refine V_iload_n C dX2_takeOut_7 rfl ?_
  refine V_iconst (v := -1) C dX2_takeOut_8 (by decide) ?_
  refine V_icmp_ne C 13 dX2_takeOut_9 (by decide) (fun h9 => ?_) (fun h9 => ?_)
  · have q8 : firN (bAt a P O) w < w := by
      have := mt (fI_m1 (f := bAt a P O) (n := w) (by omega)).mpr h9
      omega
    rw [fI, if_pos q8]
    generalize hpl : firN (bAt a P O) w = pl at q8 ⊢
    refine V_aload_n C dX2_takeOut_13 rfl ?_
    refine V_dup C dX2_takeOut_14 rfl ?_
    refine gt_X2_count C fk_X2_21 dX2_takeOut_15 ?_
    refine V_topi hw ?_
    refine V_iconst (v := 1) C dX2_takeOut_18 (by decide) ?_
    refine V_isub C dX2_takeOut_19 ?_
    refine V_topi (show nI w - 1 = nI (w - 1) from pk_sub (b := 1) (by omega)) ?_
    refine pt_X2_count C fk_X2_21 dX2_takeOut_20 ?_
    rw [del3_0 (pl := pl)]
    refine V_iload_n C dX2_takeOut_23 rfl ?_
    refine V_istore_4 C dX2_takeOut_24 (by decide) ?_
    have L26 : ∀ (fuel : Nat) (k : Nat), pl ≤ k → k ≤ w - 1 → w - 1 - k < fuel → VV pP l eE ({ frames := 1, cells := 0, slots := 0, locals := 80 } : Room) sS mM argsA belowB methM cC (MQ belowB (QV x o (FV (outA a P O w) b) sS.heap.size) argsA sS 0 0 (AW x sS.heap.size)) x 5 (del3 a pl w k) b o 0 0 26 [some (.ref (x.2.1 13)), some (.int P), some (.int O), some (.int (nI pl)), some (.int (nI k))] [] := by
      intro fuel
      induction fuel with
      | zero => intro k hk0 hk hm; exact absurd hm (Nat.not_lt_zero _)
      | succ fuel ih26 =>
        intro k hk0 hk hm
        refine V_iload C dX2_takeOut_26 rfl ?_
        refine V_aload_n C dX2_takeOut_28 rfl ?_
        refine gt_X2_count C fk_X2_21 dX2_takeOut_29 ?_
        refine V_topi del3_n ?_
        refine V_lt C 89 dX2_takeOut_32 (by decide) (by omega) (by omega) (fun h32 => ?_) (fun h32 => ?_)
        · exact V_vret C hr dX2_takeOut_89 ⟨by rw [outA, hpl, if_pos q8, show w - 1 = k by omega], rfl⟩
        · refine V_aload_n C dX2_takeOut_35 rfl ?_
          refine gt_X2_pupils C fk_X2_11 dX2_takeOut_36 ?_
          refine V_iload C dX2_takeOut_39 rfl ?_
          refine V_aload_n C dX2_takeOut_41 rfl ?_
          refine gt_X2_pupils C fk_X2_11 dX2_takeOut_42 ?_
          refine V_iload C dX2_takeOut_45 rfl ?_
          refine V_iconst (v := 1) C dX2_takeOut_47 (by decide) ?_
          refine V_iadd C dX2_takeOut_48 ?_
          refine V_topi (nI_1 _) ?_
          refine la_rpupils C _ rfl (by omega) dX2_takeOut_49 ?_
          refine V_topi (del3_hi (by omega) (by omega)) ?_
          refine sa_rpupils C _ rfl (by omega) dX2_takeOut_50 ?_
          refine V_aload_n C dX2_takeOut_51 rfl ?_
          refine gt_X2_offers C fk_X2_15 dX2_takeOut_52 ?_
          refine V_iload C dX2_takeOut_55 rfl ?_
          refine V_aload_n C dX2_takeOut_57 rfl ?_
          refine gt_X2_offers C fk_X2_15 dX2_takeOut_58 ?_
          refine V_iload C dX2_takeOut_61 rfl ?_
          refine V_iconst (v := 1) C dX2_takeOut_63 (by decide) ?_
          refine V_iadd C dX2_takeOut_64 ?_
          refine V_topi (nI_1 _) ?_
          refine la_roffers C _ rfl (by omega) dX2_takeOut_65 ?_
          refine V_topi ((up2_o (by omega)).trans (del3_hi (by omega) (by omega))) ?_
          refine sa_roffers C _ rfl (by omega) dX2_takeOut_66 ?_
          refine V_aload_n C dX2_takeOut_67 rfl ?_
          refine gt_X2_points C fk_X2_18 dX2_takeOut_68 ?_
          refine V_iload C dX2_takeOut_71 rfl ?_
          refine V_aload_n C dX2_takeOut_73 rfl ?_
          refine gt_X2_points C fk_X2_18 dX2_takeOut_74 ?_
          refine V_iload C dX2_takeOut_77 rfl ?_
          refine V_iconst (v := 1) C dX2_takeOut_79 (by decide) ?_
          refine V_iadd C dX2_takeOut_80 ?_
          refine V_topi (nI_1 _) ?_
          refine la_rpoints C _ rfl (by omega) dX2_takeOut_81 ?_
          refine V_topi ((up2_o (by omega)).trans ((up2_o (by omega)).trans (del3_hi (by omega) (by omega)))) ?_
          refine sa_rpoints C _ rfl (by omega) dX2_takeOut_82 ?_
          refine V_iinc_4 C _ dX2_takeOut_83 (nI_1 _) (by decide) ?_
          refine V_goto C 26 dX2_takeOut_86 (by decide) ?_
          rw [del3_s hk0]
          exact ih26 (k + 1) (by omega) (by omega) (by omega)
    exact L26 _ pl (Nat.le_refl _) (by omega) (Nat.lt_succ_self _)
  · have q8 : ¬ firN (bAt a P O) w < w := (fI_m1 (by omega)).mp (by simpa using h9)
    exact V_vret C hr dX2_takeOut_12 ⟨by rw [outA, if_neg q8], rfl⟩
set_option maxHeartbeats 4000000 in
set_option maxRecDepth 100000 in
theorem c_X1_rowOf {l : Launch} {x : Sh} {a b : Mem} {o : Out} (hfl : l.stackTraces = false) {s f : Nat} : MG l x yX1_rowOf cX1_rowOf 2 (some .int) 0 40 [.int (nI s), .int (nI f)] a b o (QI x o (FI (nI (s * 3 + f)) a b)) := by
  refine MG.of (maxL := 2) (ret := (some .int)) hfl (by decide) [some (.int (nI s)), some (.int (nI f))] rfl rfl (Nat.le_of_ble_eq_true rfl) ?_
  intro pP eE sS mM argsA belowB methM cC C hr
  refine V_iload_n C dX1_rowOf_0 rfl ?_
  refine V_iconst (v := nI 3) C dX1_rowOf_1 (by decide) ?_
  refine V_imul C dX1_rowOf_2 ?_
  refine V_topi (pk_mul _ _) ?_
  refine V_iload_n C dX1_rowOf_3 rfl ?_
  refine V_iadd C dX1_rowOf_4 ?_
  refine V_topi (nI_add _ _) ?_
  exact V_ireti C hr dX1_rowOf_5 ⟨rfl, rfl, rfl⟩
set_option maxHeartbeats 4000000 in
set_option maxRecDepth 100000 in
theorem c_X1_cellOf {l : Launch} {x : Sh} {a b : Mem} {o : Out} (hfl : l.stackTraces = false) {q r : Nat} : MG l x yX1_cellOf cX1_cellOf 2 (some .int) 0 40 [.int (nI q), .int (nI r)] a b o (QI x o (FI (nI (q * 6 + r)) a b)) := by
  refine MG.of (maxL := 2) (ret := (some .int)) hfl (by decide) [some (.int (nI q)), some (.int (nI r))] rfl rfl (Nat.le_of_ble_eq_true rfl) ?_
  intro pP eE sS mM argsA belowB methM cC C hr
  refine V_iload_n C dX1_cellOf_0 rfl ?_
  refine V_bipush (v := nI 6) C dX1_cellOf_1 (by decide) ?_
  refine V_imul C dX1_cellOf_3 ?_
  refine V_topi (pk_mul _ _) ?_
  refine V_iload_n C dX1_cellOf_4 rfl ?_
  refine V_iadd C dX1_cellOf_5 ?_
  refine V_topi (nI_add _ _) ?_
  exact V_ireti C hr dX1_cellOf_6 ⟨rfl, rfl, rfl⟩
set_option maxHeartbeats 4000000 in
set_option maxRecDepth 100000 in
theorem c_X1_isInRange {l : Launch} {x : Sh} {a b : Mem} {o : Out} (hfl : l.stackTraces = false) {f v : Int32} : MG l x yX1_isInRange cX1_isInRange 2 (some .boolean) 0 40 [.int f, .int v] a b o (QI x o (FI (bI (rngB f v)) a b)) := by
  refine MG.of (maxL := 2) (ret := (some .boolean)) hfl (by decide) [some (.int f), some (.int v)] rfl rfl (Nat.le_of_ble_eq_true rfl) ?_
  intro pP eE sS mM argsA belowB methM cC C hr
  refine V_iload_n C dX1_isInRange_0 rfl ?_
  refine V_if_ne C 19 dX1_isInRange_1 (by decide) (fun h1 => ?_) (fun h1 => ?_)
  · refine V_iload_n C dX1_isInRange_19 rfl ?_
    refine V_iconst (v := 1) C dX1_isInRange_20 (by decide) ?_
    refine V_icmp_ne C 41 dX1_isInRange_21 (by decide) (fun h21 => ?_) (fun h21 => ?_)
    · refine V_iload_n C dX1_isInRange_41 rfl ?_
      refine V_if_lt C 55 dX1_isInRange_42 (by decide) (fun h42 => ?_) (fun h42 => ?_)
      · refine V_iconst (v := 0) C dX1_isInRange_55 (by decide) ?_
        exact V_iretz C hr (by first | exact Or.inl rfl | exact Or.inr rfl | exact bI_or _) dX1_isInRange_56 ⟨by first | simp [rngB, bI, h1, h5, h10] | simp [rngB, bI, h1, h5] | simp [rngB, bI, h1, h21, h26, h32] | simp [rngB, bI, h1, h21, h26] | simp [rngB, bI, h1, h21, h42, h48] | simp [rngB, bI, h1, h21, h42], rfl, rfl⟩
      · refine V_iload_n C dX1_isInRange_45 rfl ?_
        refine V_bipush (v := 60) C dX1_isInRange_46 (by decide) ?_
        refine V_icmp_gt C 55 dX1_isInRange_48 (by decide) (fun h48 => ?_) (fun h48 => ?_)
        · refine V_iconst (v := 0) C dX1_isInRange_55 (by decide) ?_
          exact V_iretz C hr (by first | exact Or.inl rfl | exact Or.inr rfl | exact bI_or _) dX1_isInRange_56 ⟨by first | simp [rngB, bI, h1, h5, h10] | simp [rngB, bI, h1, h5] | simp [rngB, bI, h1, h21, h26, h32] | simp [rngB, bI, h1, h21, h26] | simp [rngB, bI, h1, h21, h42, h48] | simp [rngB, bI, h1, h21, h42], rfl, rfl⟩
        · refine V_iconst (v := 1) C dX1_isInRange_51 (by decide) ?_
          refine V_goto C 56 dX1_isInRange_52 (by decide) ?_
          exact V_iretz C hr (by first | exact Or.inl rfl | exact Or.inr rfl | exact bI_or _) dX1_isInRange_56 ⟨by first | simp [rngB, bI, h1, h5, h10] | simp [rngB, bI, h1, h5] | simp [rngB, bI, h1, h21, h26, h32] | simp [rngB, bI, h1, h21, h26] | simp [rngB, bI, h1, h21, h42, h48] | simp [rngB, bI, h1, h21, h42], rfl, rfl⟩
    · have h21 : f = 1 := by simpa using h21
      refine V_iload_n C dX1_isInRange_24 rfl ?_
      refine V_iconst (v := -1) C dX1_isInRange_25 (by decide) ?_
      refine V_icmp_lt C 39 dX1_isInRange_26 (by decide) (fun h26 => ?_) (fun h26 => ?_)
      · refine V_iconst (v := 0) C dX1_isInRange_39 (by decide) ?_
        exact V_iretz C hr (by first | exact Or.inl rfl | exact Or.inr rfl | exact bI_or _) dX1_isInRange_40 ⟨by first | simp [rngB, bI, h1, h5, h10] | simp [rngB, bI, h1, h5] | simp [rngB, bI, h1, h21, h26, h32] | simp [rngB, bI, h1, h21, h26] | simp [rngB, bI, h1, h21, h42, h48] | simp [rngB, bI, h1, h21, h42], rfl, rfl⟩
      · refine V_iload_n C dX1_isInRange_29 rfl ?_
        refine V_bipush (v := 100) C dX1_isInRange_30 (by decide) ?_
        refine V_icmp_gt C 39 dX1_isInRange_32 (by decide) (fun h32 => ?_) (fun h32 => ?_)
        · refine V_iconst (v := 0) C dX1_isInRange_39 (by decide) ?_
          exact V_iretz C hr (by first | exact Or.inl rfl | exact Or.inr rfl | exact bI_or _) dX1_isInRange_40 ⟨by first | simp [rngB, bI, h1, h5, h10] | simp [rngB, bI, h1, h5] | simp [rngB, bI, h1, h21, h26, h32] | simp [rngB, bI, h1, h21, h26] | simp [rngB, bI, h1, h21, h42, h48] | simp [rngB, bI, h1, h21, h42], rfl, rfl⟩
        · refine V_iconst (v := 1) C dX1_isInRange_35 (by decide) ?_
          refine V_goto C 40 dX1_isInRange_36 (by decide) ?_
          exact V_iretz C hr (by first | exact Or.inl rfl | exact Or.inr rfl | exact bI_or _) dX1_isInRange_40 ⟨by first | simp [rngB, bI, h1, h5, h10] | simp [rngB, bI, h1, h5] | simp [rngB, bI, h1, h21, h26, h32] | simp [rngB, bI, h1, h21, h26] | simp [rngB, bI, h1, h21, h42, h48] | simp [rngB, bI, h1, h21, h42], rfl, rfl⟩
  · have h1 : f = 0 := by simpa using h1
    refine V_iload_n C dX1_isInRange_4 rfl ?_
    refine V_if_lt C 17 dX1_isInRange_5 (by decide) (fun h5 => ?_) (fun h5 => ?_)
    · refine V_iconst (v := 0) C dX1_isInRange_17 (by decide) ?_
      exact V_iretz C hr (by first | exact Or.inl rfl | exact Or.inr rfl | exact bI_or _) dX1_isInRange_18 ⟨by first | simp [rngB, bI, h1, h5, h10] | simp [rngB, bI, h1, h5] | simp [rngB, bI, h1, h21, h26, h32] | simp [rngB, bI, h1, h21, h26] | simp [rngB, bI, h1, h21, h42, h48] | simp [rngB, bI, h1, h21, h42], rfl, rfl⟩
    · refine V_iload_n C dX1_isInRange_8 rfl ?_
      refine V_iconst (v := 1) C dX1_isInRange_9 (by decide) ?_
      refine V_icmp_gt C 17 dX1_isInRange_10 (by decide) (fun h10 => ?_) (fun h10 => ?_)
      · refine V_iconst (v := 0) C dX1_isInRange_17 (by decide) ?_
        exact V_iretz C hr (by first | exact Or.inl rfl | exact Or.inr rfl | exact bI_or _) dX1_isInRange_18 ⟨by first | simp [rngB, bI, h1, h5, h10] | simp [rngB, bI, h1, h5] | simp [rngB, bI, h1, h21, h26, h32] | simp [rngB, bI, h1, h21, h26] | simp [rngB, bI, h1, h21, h42, h48] | simp [rngB, bI, h1, h21, h42], rfl, rfl⟩
      · refine V_iconst (v := 1) C dX1_isInRange_13 (by decide) ?_
        refine V_goto C 18 dX1_isInRange_14 (by decide) ?_
        exact V_iretz C hr (by first | exact Or.inl rfl | exact Or.inr rfl | exact bI_or _) dX1_isInRange_18 ⟨by first | simp [rngB, bI, h1, h5, h10] | simp [rngB, bI, h1, h5] | simp [rngB, bI, h1, h21, h26, h32] | simp [rngB, bI, h1, h21, h26] | simp [rngB, bI, h1, h21, h42, h48] | simp [rngB, bI, h1, h21, h42], rfl, rfl⟩
set_option maxHeartbeats 4000000 in
set_option maxRecDepth 100000 in
theorem c_X1_valueIn {l : Launch} {x : Sh} {a b : Mem} {o : Out} (hfl : l.stackTraces = false) {s f q r : Nat} (hs : s < 3) (hf : f < 3) (hq : q < 10) (hr6 : r < 6) : MG l x yX1_valueIn cX1_valueIn 5 (some .int) 1 80 [.ref (x.2.1 1), .int (nI s), .int (nI f), .int (nI q), .int (nI r)] a b o (QI x o (FI (a (3 + (s * 3 + f)) (q * 6 + r)) a b)) := by
  refine MG.of (maxL := 5) (ret := (some .int)) hfl (by decide) [some (.ref (x.2.1 1)), some (.int (nI s)), some (.int (nI f)), some (.int (nI q)), some (.int (nI r))] rfl rfl (Nat.le_of_ble_eq_true rfl) ?_
  intro pP eE sS mM argsA belowB methM cC C hr
  refine V_aload_n C dX1_valueIn_0 rfl ?_
  refine gt_X1_values C fk_X1_13 dX1_valueIn_1 ?_
  refine V_iload_n C dX1_valueIn_4 rfl ?_
  refine V_iload_n C dX1_valueIn_5 rfl ?_
  refine V_callf (R_S C (c_X1_rowOf hfl) mi_X1_rowOf mk_X1_16 rfl (by decide) rfl (Nat.le_of_ble_eq_true rfl) (by decide) dX1_valueIn_6) ?_
  refine la_values C _ rfl (by omega) dX1_valueIn_9 ?_
  refine V_iload_n C dX1_valueIn_10 rfl ?_
  refine V_iload C dX1_valueIn_11 rfl ?_
  refine V_callf (R_S C (c_X1_cellOf hfl) mi_X1_cellOf mk_X1_24 rfl (by decide) rfl (Nat.le_of_ble_eq_true rfl) (by decide) dX1_valueIn_13) ?_
  refine la_rows C (by omega) _ rfl (by omega) dX1_valueIn_16 ?_
  exact V_ireti C hr dX1_valueIn_17 ⟨rfl, rfl, rfl⟩
set_option maxHeartbeats 4000000 in
set_option maxRecDepth 100000 in
theorem c_X1_valueByOwner {l : Launch} {x : Sh} {a b : Mem} {o : Out} (hfl : l.stackTraces = false) {f q r k : Nat} (hf : f < 3) (ho : a 12 f = nI k) (hk : k < 3) (hq : q < 10) (hr6 : r < 6) : MG l x yX1_valueByOwner cX1_valueByOwner 4 (some .int) 2 120 [.ref (x.2.1 1), .int (nI f), .int (nI q), .int (nI r)] a b o (QI x o (FI (a (3 + (k * 3 + f)) (q * 6 + r)) a b)) := by
  refine MG.of (maxL := 4) (ret := (some .int)) hfl (by decide) [some (.ref (x.2.1 1)), some (.int (nI f)), some (.int (nI q)), some (.int (nI r))] rfl rfl (Nat.le_of_ble_eq_true rfl) ?_
  intro pP eE sS mM argsA belowB methM cC C hr
  refine V_aload_n C dX1_valueByOwner_0 rfl ?_
  refine V_aload_n C dX1_valueByOwner_1 rfl ?_
  refine gt_X1_owners C fk_X1_20 dX1_valueByOwner_2 ?_
  refine V_iload_n C dX1_valueByOwner_5 rfl ?_
  refine la_owners C _ rfl (by omega) dX1_valueByOwner_6 ?_
  refine V_topi ho ?_
  refine V_iload_n C dX1_valueByOwner_7 rfl ?_
  refine V_iload_n C dX1_valueByOwner_8 rfl ?_
  refine V_iload_n C dX1_valueByOwner_9 rfl ?_
  refine V_callf (R_V C (c_X1_valueIn hfl (by omega) (by omega) (by omega) (by omega)) mi_X1_valueIn mk_X1_27 rfl (by omega) rfl (rfl : vwCl[3]? = some (RX1, TX1, 2)) (by decide) rfl (Nat.le_of_ble_eq_true rfl) (by decide) dX1_valueByOwner_10) ?_
  exact V_ireti C hr dX1_valueByOwner_13 ⟨rfl, rfl, rfl⟩
set_option maxHeartbeats 4000000 in
set_option maxRecDepth 100000 in
theorem c_X1_put {l : Launch} {x : Sh} {a b : Mem} {o : Out} (hfl : l.stackTraces = false) {s f q r : Nat} {v : Int32} (hs : s < 3) (hf : f < 3) (hq : q < 10) (hr6 : r < 6) : MG l x yX1_put cX1_put 6 none 1 80 [.ref (x.2.1 1), .int (nI s), .int (nI f), .int (nI q), .int (nI r), .int v] a b o (QV x o (FV (up2 a (3 + (s * 3 + f)) (q * 6 + r) v) b)) := by
  refine MG.of (maxL := 6) (ret := none) hfl (by decide) [some (.ref (x.2.1 1)), some (.int (nI s)), some (.int (nI f)), some (.int (nI q)), some (.int (nI r)), some (.int v)] rfl rfl (Nat.le_of_ble_eq_true rfl) ?_
  intro pP eE sS mM argsA belowB methM cC C hr
  refine V_aload_n C dX1_put_0 rfl ?_
  refine gt_X1_values C fk_X1_13 dX1_put_1 ?_
  refine V_iload_n C dX1_put_4 rfl ?_
  refine V_iload_n C dX1_put_5 rfl ?_
  refine V_callf (R_S C (c_X1_rowOf hfl) mi_X1_rowOf mk_X1_16 rfl (by decide) rfl (Nat.le_of_ble_eq_true rfl) (by decide) dX1_put_6) ?_
  refine la_values C _ rfl (by omega) dX1_put_9 ?_
  refine V_iload_n C dX1_put_10 rfl ?_
  refine V_iload C dX1_put_11 rfl ?_
  refine V_callf (R_S C (c_X1_cellOf hfl) mi_X1_cellOf mk_X1_24 rfl (by decide) rfl (Nat.le_of_ble_eq_true rfl) (by decide) dX1_put_13) ?_
  refine V_iload C dX1_put_16 rfl ?_
  refine sa_rows C (by omega) _ rfl (by omega) dX1_put_18 ?_
  exact V_vret C hr dX1_put_19 ⟨rfl, rfl⟩
set_option maxHeartbeats 4000000 in
set_option maxRecDepth 100000 in
theorem c_X1_copyRow {l : Launch} {x : Sh} {a b : Mem} {o : Out} (hfl : l.stackTraces = false) {r1 r2 : Nat} (h1 : r1 < 9) (h2 : r2 < 9) (hne : r1 ≠ r2) : MG l x yX1_copyRow cX1_copyRow 4 (some .int) 0 40 [.ref (x.2.1 (3 + r1)), .ref (x.2.1 (3 + r2))] a b o (QI x o (FI (nI (cntN (dif a r1 r2) 60)) (cpR a r1 r2 60) b)) := by
  refine MG.of (maxL := 4) (ret := (some .int)) hfl (by decide) [some (.ref (x.2.1 (3 + r1))), some (.ref (x.2.1 (3 + r2))), none, none] rfl rfl (Nat.le_of_ble_eq_true rfl) ?_
  intro pP eE sS mM argsA belowB methM cC C hr
  refine V_iconst (v := 0) C dX1_copyRow_0 (by decide) ?_
  refine V_istore_n2 C dX1_copyRow_1 (by decide) ?_
  refine V_iconst (v := 0) C dX1_copyRow_2 (by decide) ?_
  refine V_istore_n3 C dX1_copyRow_3 (by decide) ?_
  refine V_eqa (cpR_0 (r1 := r1) (r2 := r2)).symm rfl ?_
  have L4 : ∀ (fuel : Nat) (k : Nat), k ≤ 60 → 60 - k < fuel → VV pP l eE ({ frames := 0, cells := 0, slots := 0, locals := 40 } : Room) sS mM argsA belowB methM cC (MQ belowB (QI x o (FI (nI (cntN (dif a r1 r2) 60)) (cpR a r1 r2 60) b) sS.heap.size) argsA sS 0 0 (AW x sS.heap.size)) x 4 (cpR a r1 r2 k) b o 0 0 4 [some (.ref (x.2.1 (3 + r1))), some (.ref (x.2.1 (3 + r2))), some (.int (nI (cntN (dif a r1 r2) k))), some (.int (nI k))] [] := by
    intro fuel
    induction fuel with
    | zero => intro k hk hm; exact absurd hm (Nat.not_lt_zero _)
    | succ fuel ih4 =>
      intro k hk hm
      refine V_iload_n C dX1_copyRow_4 rfl ?_
      refine V_bipush (v := nI 60) C dX1_copyRow_5 (by decide) ?_
      refine V_lt C 34 dX1_copyRow_7 (by decide) (by omega) (by omega) (fun h7 => ?_) (fun h7 => ?_)
      · have e60 : k = 60 := by omega
        subst e60
        refine V_iload_n C dX1_copyRow_34 rfl ?_
        exact V_ireti C hr dX1_copyRow_35 ⟨rfl, rfl, rfl⟩
      · refine V_aload_n C dX1_copyRow_10 rfl ?_
        refine V_iload_n C dX1_copyRow_11 rfl ?_
        refine la_rows C (by omega) _ rfl (by omega) dX1_copyRow_12 ?_
        refine V_topi (cpR_2 (Nat.le_refl _)) ?_
        refine V_aload_n C dX1_copyRow_13 rfl ?_
        refine V_iload_n C dX1_copyRow_14 rfl ?_
        refine la_rows C (by omega) _ rfl (by omega) dX1_copyRow_15 ?_
        refine V_topi (cpR_1 hne) ?_
        refine V_icmp_eq C 28 dX1_copyRow_16 (by decide) (fun h16 => ?_) (fun h16 => ?_)
        · refine V_iinc_3 C _ dX1_copyRow_28 (nI_1 _) (by decide) ?_
          refine V_goto C 4 dX1_copyRow_31 (by decide) ?_
          have ih := ih4 (k + 1) (by omega) (by omega)
          first
            | (rw [cntN_t (n := k) (show dif a r1 r2 k = true by simp [dif, h16]), ← cpR_s (a := a) (r1 := r1) (r2 := r2) (k := k)] at ih; exact ih)
            | (rw [cntN_f (n := k) (show dif a r1 r2 k = false by simp [dif, h16]), ← cpR_e (a := a) h16] at ih; exact ih)
        · refine V_aload_n C dX1_copyRow_19 rfl ?_
          refine V_iload_n C dX1_copyRow_20 rfl ?_
          refine V_aload_n C dX1_copyRow_21 rfl ?_
          refine V_iload_n C dX1_copyRow_22 rfl ?_
          refine la_rows C (by omega) _ rfl (by omega) dX1_copyRow_23 ?_
          refine V_topi (cpR_1 hne) ?_
          refine sa_rows C (by omega) _ rfl (by omega) dX1_copyRow_24 ?_
          refine V_iinc_2 C _ dX1_copyRow_25 (nI_1 _) (by decide) ?_
          refine V_iinc_3 C _ dX1_copyRow_28 (nI_1 _) (by decide) ?_
          refine V_goto C 4 dX1_copyRow_31 (by decide) ?_
          have ih := ih4 (k + 1) (by omega) (by omega)
          first
            | (rw [cntN_t (n := k) (show dif a r1 r2 k = true by simp [dif, h16]), ← cpR_s (a := a) (r1 := r1) (r2 := r2) (k := k)] at ih; exact ih)
            | (rw [cntN_f (n := k) (show dif a r1 r2 k = false by simp [dif, h16]), ← cpR_e (a := a) h16] at ih; exact ih)
  exact L4 _ 0 (Nat.zero_le _) (Nat.lt_succ_self _)
set_option maxHeartbeats 4000000 in
set_option maxRecDepth 100000 in
theorem c_X1_copyOwned {l : Launch} {x : Sh} {a b : Mem} {o : Out} (hfl : l.stackTraces = false) {s t : Nat} (hs : s < 3) (ht3 : t < 3) (hne : s ≠ t) : MG l x yX1_copyOwned cX1_copyOwned 5 (some .int) 1 80 [.ref (x.2.1 1), .int (nI s), .int (nI t)] a b o (QI x o (FI (nI (cnO a s t 3)) (cpO a s t 3) b)) := by
  refine MG.of (maxL := 5) (ret := (some .int)) hfl (by decide) [some (.ref (x.2.1 1)), some (.int (nI s)), some (.int (nI t)), none, none] rfl rfl (Nat.le_of_ble_eq_true rfl) ?_
  intro pP eE sS mM argsA belowB methM cC C hr
  refine V_iconst (v := 0) C dX1_copyOwned_0 (by decide) ?_
  refine V_istore_n3 C dX1_copyOwned_1 (by decide) ?_
  refine V_iconst (v := 0) C dX1_copyOwned_2 (by decide) ?_
  refine V_istore_4 C dX1_copyOwned_3 (by decide) ?_
  have L5 : ∀ (fuel : Nat) (k : Nat), k ≤ 3 → 3 - k < fuel → VV pP l eE ({ frames := 1, cells := 0, slots := 0, locals := 80 } : Room) sS mM argsA belowB methM cC (MQ belowB (QI x o (FI (nI (cnO a s t 3)) (cpO a s t 3) b) sS.heap.size) argsA sS 0 0 (AW x sS.heap.size)) x 5 (cpO a s t k) b o 0 0 5 [some (.ref (x.2.1 1)), some (.int (nI s)), some (.int (nI t)), some (.int (nI (cnO a s t k))), some (.int (nI k))] [] := by
    intro fuel
    induction fuel with
    | zero => intro k hk hm; exact absurd hm (Nat.not_lt_zero _)
    | succ fuel ih5 =>
      intro k hk hm
      refine V_iload C dX1_copyOwned_5 rfl ?_
      refine V_iconst (v := nI 3) C dX1_copyOwned_7 (by decide) ?_
      refine V_lt C 56 dX1_copyOwned_8 (by decide) (by omega) (by omega) (fun h8 => ?_) (fun h8 => ?_)
      · have e3 : k = 3 := by omega
        subst e3
        refine V_iload_n C dX1_copyOwned_56 rfl ?_
        exact V_ireti C hr dX1_copyOwned_57 ⟨rfl, rfl, rfl⟩
      · refine V_aload_n C dX1_copyOwned_11 rfl ?_
        refine gt_X1_owners C fk_X1_20 dX1_copyOwned_12 ?_
        refine V_iload C dX1_copyOwned_15 rfl ?_
        refine la_owners C _ rfl (by omega) dX1_copyOwned_17 ?_
        refine V_topi (cpO_12 (by omega)) ?_
        refine V_iload_n C dX1_copyOwned_18 rfl ?_
        refine V_icmp_ne C 50 dX1_copyOwned_19 (by decide) (fun h19 => ?_) (fun h19 => ?_)
        · refine V_iinc_4 C _ dX1_copyOwned_50 (nI_1 _) (by decide) ?_
          refine V_goto C 5 dX1_copyOwned_53 (by decide) ?_
          have ih := ih5 (k + 1) (by omega) (by omega)
          first
            | (rw [cpO_t (f := k) (by simpa using h19), cnO_t (f := k) (by simpa using h19)] at ih; exact ih)
            | (rw [cpO_f (f := k) h19, cnO_f (f := k) h19] at ih; exact ih)
        · refine V_iload_n C dX1_copyOwned_22 rfl ?_
          refine V_aload_n C dX1_copyOwned_23 rfl ?_
          refine gt_X1_values C fk_X1_13 dX1_copyOwned_24 ?_
          refine V_iload_n C dX1_copyOwned_27 rfl ?_
          refine V_iload C dX1_copyOwned_28 rfl ?_
          refine V_callf (R_S C (c_X1_rowOf hfl) mi_X1_rowOf mk_X1_16 rfl (by decide) rfl (Nat.le_of_ble_eq_true rfl) (by decide) dX1_copyOwned_30) ?_
          refine la_values C _ rfl (by omega) dX1_copyOwned_33 ?_
          refine V_aload_n C dX1_copyOwned_34 rfl ?_
          refine gt_X1_values C fk_X1_13 dX1_copyOwned_35 ?_
          refine V_iload_n C dX1_copyOwned_38 rfl ?_
          refine V_iload C dX1_copyOwned_39 rfl ?_
          refine V_callf (R_S C (c_X1_rowOf hfl) mi_X1_rowOf mk_X1_16 rfl (by decide) rfl (Nat.le_of_ble_eq_true rfl) (by decide) dX1_copyOwned_41) ?_
          refine la_values C _ rfl (by omega) dX1_copyOwned_44 ?_
          refine V_callf (R_S C (c_X1_copyRow hfl (by omega) (by omega) (by omega)) mi_X1_copyRow mk_X1_31 rfl (by decide) rfl (Nat.le_of_ble_eq_true rfl) (by decide) dX1_copyOwned_45) ?_
          refine V_iadd C dX1_copyOwned_48 ?_
          refine V_topi (nI_add _ _) ?_
          refine V_istore_n3 C dX1_copyOwned_49 (by decide) ?_
          refine V_iinc_4 C _ dX1_copyOwned_50 (nI_1 _) (by decide) ?_
          refine V_goto C 5 dX1_copyOwned_53 (by decide) ?_
          have ih := ih5 (k + 1) (by omega) (by omega)
          first
            | (rw [cpO_t (f := k) (by simpa using h19), cnO_t (f := k) (by simpa using h19)] at ih; exact ih)
            | (rw [cpO_f (f := k) h19, cnO_f (f := k) h19] at ih; exact ih)
  exact L5 _ 0 (Nat.zero_le _) (Nat.lt_succ_self _)
set_option maxHeartbeats 4000000 in
set_option maxRecDepth 100000 in
theorem c_X1_areSame {l : Launch} {x : Sh} {a b : Mem} {o : Out} (hfl : l.stackTraces = false) {f s t : Nat} (hf : f < 3) (hs : s < 3) (ht3 : t < 3) : MG l x yX1_areSame cX1_areSame 5 (some .boolean) 1 80 [.ref (x.2.1 1), .int (nI f), .int (nI s), .int (nI t)] a b o (QI x o (FI (bI (!anyN (dif a (s * 3 + f) (t * 3 + f)) 60)) a b)) := by
  refine MG.of (maxL := 5) (ret := (some .boolean)) hfl (by decide) [some (.ref (x.2.1 1)), some (.int (nI f)), some (.int (nI s)), some (.int (nI t)), none] rfl rfl (Nat.le_of_ble_eq_true rfl) ?_
  intro pP eE sS mM argsA belowB methM cC C hr
  refine V_iconst (v := 0) C dX1_areSame_0 (by decide) ?_
  refine V_istore_4 C dX1_areSame_1 (by decide) ?_
  have L3 : ∀ (fuel : Nat) (k : Nat), k ≤ 60 → anyN (dif a (s * 3 + f) (t * 3 + f)) k = false → 60 - k < fuel → VV pP l eE ({ frames := 1, cells := 0, slots := 0, locals := 80 } : Room) sS mM argsA belowB methM cC (MQ belowB (QI x o (FI (bI (!anyN (dif a (s * 3 + f) (t * 3 + f)) 60)) a b) sS.heap.size) argsA sS 0 0 (AW x sS.heap.size)) x 5 a b o 0 0 3 [some (.ref (x.2.1 1)), some (.int (nI f)), some (.int (nI s)), some (.int (nI t)), some (.int (nI k))] [] := by
    intro fuel
    induction fuel with
    | zero => intro k hk hno hm; exact absurd hm (Nat.not_lt_zero _)
    | succ fuel ih3 =>
      intro k hk hno hm
      refine V_iload C dX1_areSame_3 rfl ?_
      refine V_bipush (v := nI 60) C dX1_areSame_5 (by decide) ?_
      refine V_lt C 47 dX1_areSame_7 (by decide) (by omega) (by omega) (fun h7 => ?_) (fun h7 => ?_)
      · refine V_iconst (v := 1) C dX1_areSame_47 (by decide) ?_
        exact V_iretz C hr (by first | exact Or.inl rfl | exact Or.inr rfl | exact bI_or _) dX1_areSame_48 ⟨by rw [show 60 = k by omega, hno]; rfl, rfl, rfl⟩
      · refine V_aload_n C dX1_areSame_10 rfl ?_
        refine gt_X1_values C fk_X1_13 dX1_areSame_11 ?_
        refine V_iload_n C dX1_areSame_14 rfl ?_
        refine V_iload_n C dX1_areSame_15 rfl ?_
        refine V_callf (R_S C (c_X1_rowOf hfl) mi_X1_rowOf mk_X1_16 rfl (by decide) rfl (Nat.le_of_ble_eq_true rfl) (by decide) dX1_areSame_16) ?_
        refine la_values C _ rfl (by omega) dX1_areSame_19 ?_
        refine V_iload C dX1_areSame_20 rfl ?_
        refine la_rows C (by omega) _ rfl (by omega) dX1_areSame_22 ?_
        refine V_aload_n C dX1_areSame_23 rfl ?_
        refine gt_X1_values C fk_X1_13 dX1_areSame_24 ?_
        refine V_iload_n C dX1_areSame_27 rfl ?_
        refine V_iload_n C dX1_areSame_28 rfl ?_
        refine V_callf (R_S C (c_X1_rowOf hfl) mi_X1_rowOf mk_X1_16 rfl (by decide) rfl (Nat.le_of_ble_eq_true rfl) (by decide) dX1_areSame_29) ?_
        refine la_values C _ rfl (by omega) dX1_areSame_32 ?_
        refine V_iload C dX1_areSame_33 rfl ?_
        refine la_rows C (by omega) _ rfl (by omega) dX1_areSame_35 ?_
        refine V_icmp_eq C 41 dX1_areSame_36 (by decide) (fun h36 => ?_) (fun h36 => ?_)
        · refine V_iinc_4 C _ dX1_areSame_41 (nI_1 _) (by decide) ?_
          refine V_goto C 3 dX1_areSame_44 (by decide) ?_
          exact ih3 (k + 1) (by omega) (anyN_s hno (by simp [dif, h36])) (by omega)
        · refine V_iconst (v := 0) C dX1_areSame_39 (by decide) ?_
          exact V_iretz C hr (by first | exact Or.inl rfl | exact Or.inr rfl | exact bI_or _) dX1_areSame_40 ⟨by rw [anyN_t h7 (show dif a (s * 3 + f) (t * 3 + f) k = true by simp only [dif, decide_eq_true_eq]; exact fun e => h36 e.symm)]; rfl, rfl, rfl⟩
  exact L3 _ 0 (Nat.zero_le _) rfl (Nat.lt_succ_self _)
set_option maxHeartbeats 4000000 in
set_option maxRecDepth 100000 in
theorem c_X1_isAgreed {l : Launch} {x : Sh} {a b : Mem} {o : Out} (hfl : l.stackTraces = false) {f c : Nat} (hf : f < 3) (hc : c < 60) : MG l x yX1_isAgreed cX1_isAgreed 5 (some .boolean) 1 80 [.ref (x.2.1 1), .int (nI f), .int (nI c)] a b o (QI x o (FI (bI (agB a f c)) a b)) := by
  refine MG.of (maxL := 5) (ret := (some .boolean)) hfl (by decide) [some (.ref (x.2.1 1)), some (.int (nI f)), some (.int (nI c)), none, none] rfl rfl (Nat.le_of_ble_eq_true rfl) ?_
  intro pP eE sS mM argsA belowB methM cC C hr
  refine V_aload_n C dX1_isAgreed_0 rfl ?_
  refine gt_X1_values C fk_X1_13 dX1_isAgreed_1 ?_
  refine V_iconst (v := nI 0) C dX1_isAgreed_4 (by decide) ?_
  refine V_iload_n C dX1_isAgreed_5 rfl ?_
  refine V_callf (R_S C (c_X1_rowOf hfl) mi_X1_rowOf mk_X1_16 rfl (by decide) rfl (Nat.le_of_ble_eq_true rfl) (by decide) dX1_isAgreed_6) ?_
  refine la_values C _ rfl (by omega) dX1_isAgreed_9 ?_
  refine V_iload_n C dX1_isAgreed_10 rfl ?_
  refine la_rows C (by omega) _ rfl (by omega) dX1_isAgreed_11 ?_
  refine V_istore_n3 C dX1_isAgreed_12 (by decide) ?_
  refine V_iconst (v := 1) C dX1_isAgreed_13 (by decide) ?_
  refine V_istore_4 C dX1_isAgreed_14 (by decide) ?_
  have L16 : ∀ (fuel : Nat) (k : Nat), k ≤ 2 → anyN (agN a f c) k = false → 2 - k < fuel → VV pP l eE ({ frames := 1, cells := 0, slots := 0, locals := 80 } : Room) sS mM argsA belowB methM cC (MQ belowB (QI x o (FI (bI (agB a f c)) a b) sS.heap.size) argsA sS 0 0 (AW x sS.heap.size)) x 5 a b o 0 0 16 [some (.ref (x.2.1 1)), some (.int (nI f)), some (.int (nI c)), some (.int (a (3 + (0 * 3 + f)) c)), some (.int (nI (k + 1)))] [] := by
    intro fuel
    induction fuel with
    | zero => intro k hk hno hm; exact absurd hm (Nat.not_lt_zero _)
    | succ fuel ih16 =>
      intro k hk hno hm
      refine V_iload C dX1_isAgreed_16 rfl ?_
      refine V_iconst (v := nI 3) C dX1_isAgreed_18 (by decide) ?_
      refine V_lt C 47 dX1_isAgreed_19 (by decide) (by omega) (by omega) (fun h19 => ?_) (fun h19 => ?_)
      · refine V_iconst (v := 1) C dX1_isAgreed_47 (by decide) ?_
        exact V_iretz C hr (by first | exact Or.inl rfl | exact Or.inr rfl | exact bI_or _) dX1_isAgreed_48 ⟨by rw [agB, show 2 = k by omega, hno]; rfl, rfl, rfl⟩
      · refine V_aload_n C dX1_isAgreed_22 rfl ?_
        refine gt_X1_values C fk_X1_13 dX1_isAgreed_23 ?_
        refine V_iload C dX1_isAgreed_26 rfl ?_
        refine V_iload_n C dX1_isAgreed_28 rfl ?_
        refine V_callf (R_S C (c_X1_rowOf hfl) mi_X1_rowOf mk_X1_16 rfl (by decide) rfl (Nat.le_of_ble_eq_true rfl) (by decide) dX1_isAgreed_29) ?_
        refine la_values C _ rfl (by omega) dX1_isAgreed_32 ?_
        refine V_iload_n C dX1_isAgreed_33 rfl ?_
        refine la_rows C (by omega) _ rfl (by omega) dX1_isAgreed_34 ?_
        refine V_iload_n C dX1_isAgreed_35 rfl ?_
        refine V_icmp_eq C 41 dX1_isAgreed_36 (by decide) (fun h36 => ?_) (fun h36 => ?_)
        · refine V_iinc_4 C _ dX1_isAgreed_41 (nI_1 _) (by decide) ?_
          refine V_goto C 16 dX1_isAgreed_44 (by decide) ?_
          exact ih16 (k + 1) (by omega) (anyN_s hno (by simp [agN, h36])) (by omega)
        · refine V_iconst (v := 0) C dX1_isAgreed_39 (by decide) ?_
          exact V_iretz C hr (by first | exact Or.inl rfl | exact Or.inr rfl | exact bI_or _) dX1_isAgreed_40 ⟨by rw [agB, anyN_t (show k < 2 by omega) (show agN a f c k = true by simpa [agN] using h36)]; rfl, rfl, rfl⟩
  exact L16 _ 0 (Nat.zero_le _) rfl (Nat.lt_succ_self _)
set_option maxHeartbeats 4000000 in
set_option maxRecDepth 100000 in
theorem c_X1_countApart {l : Launch} {x : Sh} {a b : Mem} {o : Out} (hfl : l.stackTraces = false) {f : Nat} (hf : f < 3) : MG l x yX1_countApart cX1_countApart 4 (some .int) 2 120 [.ref (x.2.1 1), .int (nI f)] a b o (QI x o (FI (nI (cntN (fun c => !agB a f c) 60)) a b)) := by
  refine MG.of (maxL := 4) (ret := (some .int)) hfl (by decide) [some (.ref (x.2.1 1)), some (.int (nI f)), none, none] rfl rfl (Nat.le_of_ble_eq_true rfl) ?_
  intro pP eE sS mM argsA belowB methM cC C hr
  refine V_iconst (v := 0) C dX1_countApart_0 (by decide) ?_
  refine V_istore_n2 C dX1_countApart_1 (by decide) ?_
  refine V_iconst (v := 0) C dX1_countApart_2 (by decide) ?_
  refine V_istore_n3 C dX1_countApart_3 (by decide) ?_
  have L4 : ∀ (fuel : Nat) (k : Nat), k ≤ 60 → 60 - k < fuel → VV pP l eE ({ frames := 2, cells := 0, slots := 0, locals := 120 } : Room) sS mM argsA belowB methM cC (MQ belowB (QI x o (FI (nI (cntN (fun c => !agB a f c) 60)) a b) sS.heap.size) argsA sS 0 0 (AW x sS.heap.size)) x 4 a b o 0 0 4 [some (.ref (x.2.1 1)), some (.int (nI f)), some (.int (nI (cntN (fun c => !agB a f c) k))), some (.int (nI k))] [] := by
    intro fuel
    induction fuel with
    | zero => intro k hk hm; exact absurd hm (Nat.not_lt_zero _)
    | succ fuel ih4 =>
      intro k hk hm
      refine V_iload_n C dX1_countApart_4 rfl ?_
      refine V_bipush (v := nI 60) C dX1_countApart_5 (by decide) ?_
      refine V_lt C 28 dX1_countApart_7 (by decide) (by omega) (by omega) (fun h7 => ?_) (fun h7 => ?_)
      · have e60 : k = 60 := by omega
        subst e60
        refine V_iload_n C dX1_countApart_28 rfl ?_
        exact V_ireti C hr dX1_countApart_29 ⟨rfl, rfl, rfl⟩
      · refine V_aload_n C dX1_countApart_10 rfl ?_
        refine V_iload_n C dX1_countApart_11 rfl ?_
        refine V_iload_n C dX1_countApart_12 rfl ?_
        refine V_callf (R_V C (c_X1_isAgreed hfl (by omega) (by omega)) mi_X1_isAgreed mk_X1_35 rfl (by omega) rfl (rfl : vwCl[3]? = some (RX1, TX1, 2)) (by decide) rfl (Nat.le_of_ble_eq_true rfl) (by decide) dX1_countApart_13) ?_
        refine V_ifb_ne C 22 dX1_countApart_16 (by decide) (fun h16 => ?_) (fun h16 => ?_)
        · refine V_iinc_3 C _ dX1_countApart_22 (nI_1 _) (by decide) ?_
          refine V_goto C 4 dX1_countApart_25 (by decide) ?_
          have ih := ih4 (k + 1) (by omega) (by omega)
          first
            | (rw [cntN_t (f := fun c => !agB a f c) (n := k) (by simp [h16])] at ih; exact ih)
            | (rw [cntN_f (f := fun c => !agB a f c) (n := k) (by simp [h16])] at ih; exact ih)
        · refine V_iinc_2 C _ dX1_countApart_19 (nI_1 _) (by decide) ?_
          refine V_iinc_3 C _ dX1_countApart_22 (nI_1 _) (by decide) ?_
          refine V_goto C 4 dX1_countApart_25 (by decide) ?_
          have ih := ih4 (k + 1) (by omega) (by omega)
          first
            | (rw [cntN_t (f := fun c => !agB a f c) (n := k) (by simp [h16])] at ih; exact ih)
            | (rw [cntN_f (f := fun c => !agB a f c) (n := k) (by simp [h16])] at ih; exact ih)
  exact L4 _ 0 (Nat.zero_le _) (Nat.lt_succ_self _)
set_option maxHeartbeats 4000000 in
set_option maxRecDepth 100000 in
theorem c_X1_isRightGiven {l : Launch} {x : Sh} {a b : Mem} {o : Out} (hfl : l.stackTraces = false) {q r k : Nat} (ho : a 12 0 = nI k) (hk : k < 3) (hq : q < 10) (hr6 : r < 6) : MG l x yX1_isRightGiven cX1_isRightGiven 4 (some .boolean) 3 160 [.ref (x.2.1 1), .int (nI q), .int (nI r)] a b o (QI x o (FI (bI (rgB a q r)) a b)) := by
  refine MG.of (maxL := 4) (ret := (some .boolean)) hfl (by decide) [some (.ref (x.2.1 1)), some (.int (nI q)), some (.int (nI r)), none] rfl rfl (Nat.le_of_ble_eq_true rfl) ?_
  intro pP eE sS mM argsA belowB methM cC C hr
  refine V_iload_n C dX1_isRightGiven_0 rfl ?_
  refine V_iload_n C dX1_isRightGiven_1 rfl ?_
  refine V_callf (R_S C (c_X1_cellOf hfl) mi_X1_cellOf mk_X1_24 rfl (by decide) rfl (Nat.le_of_ble_eq_true rfl) (by decide) dX1_isRightGiven_2) ?_
  refine V_istore_n3 C dX1_isRightGiven_5 (by decide) ?_
  refine V_aload_n C dX1_isRightGiven_6 rfl ?_
  refine V_iconst (v := nI 0) C dX1_isRightGiven_7 (by decide) ?_
  refine V_iload_n C dX1_isRightGiven_8 rfl ?_
  refine V_callf (R_V C (c_X1_isAgreed hfl (by omega) (by omega)) mi_X1_isAgreed mk_X1_35 rfl (by omega) rfl (rfl : vwCl[3]? = some (RX1, TX1, 2)) (by decide) rfl (Nat.le_of_ble_eq_true rfl) (by decide) dX1_isRightGiven_9) ?_
  refine V_ifb_eq C 40 dX1_isRightGiven_12 (by decide) (fun h12 => ?_) (fun h12 => ?_)
  · refine V_iconst (v := 0) C dX1_isRightGiven_40 (by decide) ?_
    exact V_iretz C hr (by first | exact Or.inl rfl | exact Or.inr rfl | exact bI_or _) dX1_isRightGiven_41 ⟨by first | simp [rgB, h12, h33, bI] | simp [rgB, h12, bI], rfl, rfl⟩
  · have q10 : a (3 + (k * 3 + 0)) (q * 6 + r) = a 3 (q * 6 + r) := agB_own h12 hk
    refine V_aload_n C dX1_isRightGiven_15 rfl ?_
    refine gt_X1_values C fk_X1_13 dX1_isRightGiven_16 ?_
    refine V_aload_n C dX1_isRightGiven_19 rfl ?_
    refine gt_X1_owners C fk_X1_20 dX1_isRightGiven_20 ?_
    refine V_iconst (v := nI 0) C dX1_isRightGiven_23 (by decide) ?_
    refine la_owners C _ rfl (by omega) dX1_isRightGiven_24 ?_
    refine V_topi ho ?_
    refine V_iconst (v := nI 0) C dX1_isRightGiven_25 (by decide) ?_
    refine V_callf (R_S C (c_X1_rowOf hfl) mi_X1_rowOf mk_X1_16 rfl (by decide) rfl (Nat.le_of_ble_eq_true rfl) (by decide) dX1_isRightGiven_26) ?_
    refine la_values C _ rfl (by omega) dX1_isRightGiven_29 ?_
    refine V_iload_n C dX1_isRightGiven_30 rfl ?_
    refine la_rows C (by omega) _ rfl (by omega) dX1_isRightGiven_31 ?_
    refine V_topi q10 ?_
    refine V_iconst (v := 1) C dX1_isRightGiven_32 (by decide) ?_
    refine V_icmp_ne C 40 dX1_isRightGiven_33 (by decide) (fun h33 => ?_) (fun h33 => ?_)
    · refine V_iconst (v := 0) C dX1_isRightGiven_40 (by decide) ?_
      exact V_iretz C hr (by first | exact Or.inl rfl | exact Or.inr rfl | exact bI_or _) dX1_isRightGiven_41 ⟨by first | simp [rgB, h12, h33, bI] | simp [rgB, h12, bI], rfl, rfl⟩
    · refine V_iconst (v := 1) C dX1_isRightGiven_36 (by decide) ?_
      refine V_goto C 41 dX1_isRightGiven_37 (by decide) ?_
      exact V_iretz C hr (by first | exact Or.inl rfl | exact Or.inr rfl | exact bI_or _) dX1_isRightGiven_41 ⟨by first | simp [rgB, h12, h33, bI] | simp [rgB, h12, bI], rfl, rfl⟩
set_option maxHeartbeats 4000000 in
set_option maxRecDepth 100000 in
theorem c_X1_isResitOpen {l : Launch} {x : Sh} {a b : Mem} {o : Out} (hfl : l.stackTraces = false) {q r k : Nat} (ho : a 12 1 = nI k) (hk : k < 3) (hq : q < 10) (hr6 : r < 6) : MG l x yX1_isResitOpen cX1_isResitOpen 5 (some .boolean) 3 160 [.ref (x.2.1 1), .int (nI q), .int (nI r)] a b o (QI x o (FI (bI (roB a q r)) a b)) := by
  refine MG.of (maxL := 5) (ret := (some .boolean)) hfl (by decide) [some (.ref (x.2.1 1)), some (.int (nI q)), some (.int (nI r)), none, none] rfl rfl (Nat.le_of_ble_eq_true rfl) ?_
  intro pP eE sS mM argsA belowB methM cC C hr
  refine V_iload_n C dX1_isResitOpen_0 rfl ?_
  refine V_iload_n C dX1_isResitOpen_1 rfl ?_
  refine V_callf (R_S C (c_X1_cellOf hfl) mi_X1_cellOf mk_X1_24 rfl (by decide) rfl (Nat.le_of_ble_eq_true rfl) (by decide) dX1_isResitOpen_2) ?_
  refine V_istore_n3 C dX1_isResitOpen_5 (by decide) ?_
  refine V_aload_n C dX1_isResitOpen_6 rfl ?_
  refine gt_X1_values C fk_X1_13 dX1_isResitOpen_7 ?_
  refine V_aload_n C dX1_isResitOpen_10 rfl ?_
  refine gt_X1_owners C fk_X1_20 dX1_isResitOpen_11 ?_
  refine V_iconst (v := nI 1) C dX1_isResitOpen_14 (by decide) ?_
  refine la_owners C _ rfl (by omega) dX1_isResitOpen_15 ?_
  refine V_topi ho ?_
  refine V_iconst (v := nI 1) C dX1_isResitOpen_16 (by decide) ?_
  refine V_callf (R_S C (c_X1_rowOf hfl) mi_X1_rowOf mk_X1_16 rfl (by decide) rfl (Nat.le_of_ble_eq_true rfl) (by decide) dX1_isResitOpen_17) ?_
  refine la_values C _ rfl (by omega) dX1_isResitOpen_20 ?_
  refine V_iload_n C dX1_isResitOpen_21 rfl ?_
  refine la_rows C (by omega) _ rfl (by omega) dX1_isResitOpen_22 ?_
  refine V_istore_4 C dX1_isResitOpen_23 (by decide) ?_
  refine V_aload_n C dX1_isResitOpen_25 rfl ?_
  refine V_iconst (v := nI 1) C dX1_isResitOpen_26 (by decide) ?_
  refine V_iload_n C dX1_isResitOpen_27 rfl ?_
  refine V_callf (R_V C (c_X1_isAgreed hfl (by omega) (by omega)) mi_X1_isAgreed mk_X1_35 rfl (by omega) rfl (rfl : vwCl[3]? = some (RX1, TX1, 2)) (by decide) rfl (Nat.le_of_ble_eq_true rfl) (by decide) dX1_isResitOpen_28) ?_
  refine V_ifb_eq C 50 dX1_isResitOpen_31 (by decide) (fun h31 => ?_) (fun h31 => ?_)
  · refine V_iconst (v := 0) C dX1_isResitOpen_50 (by decide) ?_
    exact V_iretz C hr (by first | exact Or.inl rfl | exact Or.inr rfl | exact bI_or _) dX1_isResitOpen_51 ⟨by first | simp [roB, h31, h36, h43, bI] | simp [roB, h31, h36, bI] | simp [roB, h31, bI], rfl, rfl⟩
  · have q10 : a (3 + (k * 3 + 1)) (q * 6 + r) = a 4 (q * 6 + r) := agB_own h31 hk
    refine V_iload C dX1_isResitOpen_34 rfl ?_
    refine V_if_lt C 50 dX1_isResitOpen_36 (by decide) (fun h36 => ?_) (fun h36 => ?_)
    · rw [q10] at h36
      refine V_iconst (v := 0) C dX1_isResitOpen_50 (by decide) ?_
      exact V_iretz C hr (by first | exact Or.inl rfl | exact Or.inr rfl | exact bI_or _) dX1_isResitOpen_51 ⟨by first | simp [roB, h31, h36, h43, bI] | simp [roB, h31, h36, bI] | simp [roB, h31, bI], rfl, rfl⟩
    · rw [q10] at h36
      refine V_iload C dX1_isResitOpen_39 rfl ?_
      refine V_bipush (v := 49) C dX1_isResitOpen_41 (by decide) ?_
      refine V_icmp_gt C 50 dX1_isResitOpen_43 (by decide) (fun h43 => ?_) (fun h43 => ?_)
      · rw [q10] at h43
        refine V_iconst (v := 0) C dX1_isResitOpen_50 (by decide) ?_
        exact V_iretz C hr (by first | exact Or.inl rfl | exact Or.inr rfl | exact bI_or _) dX1_isResitOpen_51 ⟨by first | simp [roB, h31, h36, h43, bI] | simp [roB, h31, h36, bI] | simp [roB, h31, bI], rfl, rfl⟩
      · rw [q10] at h43
        refine V_iconst (v := 1) C dX1_isResitOpen_46 (by decide) ?_
        refine V_goto C 51 dX1_isResitOpen_47 (by decide) ?_
        exact V_iretz C hr (by first | exact Or.inl rfl | exact Or.inr rfl | exact bI_or _) dX1_isResitOpen_51 ⟨by first | simp [roB, h31, h36, h43, bI] | simp [roB, h31, h36, bI] | simp [roB, h31, bI], rfl, rfl⟩
