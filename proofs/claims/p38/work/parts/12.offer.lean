theorem up2_s {a : Mem} {k j : Nat} {v : Int32} : up2 a k j v k j = v := by simp [up2]
theorem up2_o {a : Mem} {k j k' j' : Nat} {v : Int32} (h : k' ≠ k ∨ j' ≠ j) : up2 a k j v k' j' = a k' j' := by
  simp only [up2]
  rw [if_neg (by omega)]
def hs (a : Mem) (i p : Nat) : Bool := decide (¬ a (18 + 4 * i + 1) p = -1)
def nTaken (a : Mem) (i : Nat) : Nat := cntN (hs a i) 10
def isFullB (a : Mem) (i : Nat) : Bool := decide (¬ nI (nTaken a i) < a (18 + 4 * i) 3)
def isOfB (a : Mem) (i : Nat) (ex z : Int32) : Bool := decide (a (18 + 4 * i) 0 = ex) && decide (a (18 + 4 * i) 4 = z)
def qAt (a : Mem) (i : Nat) (p : Int32) (k : Nat) : Bool := decide (a (18 + 4 * i + 2) k = p)
def qW (a : Mem) (i : Nat) : Nat := (a (18 + 4 * i) 8).toNatClampNeg
/-- the k-th who has a seat -/
def nthS (f : Nat → Bool) (idx : Int32) (k : Nat) : Bool := f k && decide (nI (cntN f k) = idx)
def letW (a : Mem) (i : Nat) (p pts : Int32) (w : Nat) : Mem := if firN (qAt a i p) w < w ∨ 10 ≤ w then a else up2 (up2 (up2 a (18 + 4 * i + 2) w p) (18 + 4 * i + 3) w pts) (18 + 4 * i) 8 (nI (w + 1))
def delK (a : Mem) (i pl w k : Nat) : Mem := fun c j => if c = 18 + 4 * i ∧ j = 8 then nI (w - 1) else if (c = 18 + 4 * i + 2 ∨ c = 18 + 4 * i + 3) ∧ pl ≤ j ∧ j < k then a c (j + 1) else a c j
def noMore (a : Mem) (i : Nat) (p : Int32) (w : Nat) : Mem := if firN (qAt a i p) w < w then delK a i (firN (qAt a i p) w) w (w - 1) else a
theorem fI_m1 {f : Nat → Bool} {n : Nat} (hn : n < 2 ^ 31) : fI f n = -1 ↔ ¬ firN f n < n := by
  unfold fI
  split
  · rename_i h
    constructor
    · intro e; exact absurd e (nI_ne_m1 (by omega))
    · intro e; exact absurd h e
  · rename_i h
    exact ⟨fun _ => h, fun _ => rfl⟩
theorem delK_0 {a : Mem} {i pl w : Nat} : up2 a (18 + 4 * i) 8 (nI (w - 1)) = delK a i pl w pl := by
  funext c j
  simp only [up2, delK]
  split
  · rfl
  · rw [if_neg (by omega)]
theorem delK_s {a : Mem} {i pl w k : Nat} (h : pl ≤ k) : up2 (up2 (delK a i pl w k) (18 + 4 * i + 2) k (a (18 + 4 * i + 2) (k + 1))) (18 + 4 * i + 3) k (a (18 + 4 * i + 3) (k + 1)) = delK a i pl w (k + 1) := by
  funext c j
  simp only [up2, delK]
  grind
theorem delK_2 {a : Mem} {i pl w k : Nat} (j : Nat) (h : k ≤ j) : delK a i pl w k (18 + 4 * i + 2) j = a (18 + 4 * i + 2) j := by
  simp only [delK]
  rw [if_neg (by omega), if_neg (by omega)]
theorem delK_3 {a : Mem} {i pl w k : Nat} (j : Nat) (h : k ≤ j) : delK a i pl w k (18 + 4 * i + 3) j = a (18 + 4 * i + 3) j := by
  simp only [delK]
  rw [if_neg (by omega), if_neg (by omega)]
theorem delK_8 {a : Mem} {i pl w k : Nat} : delK a i pl w k (18 + 4 * i) 8 = nI (w - 1) := by simp [delK]
set_option maxHeartbeats 4000000 in
set_option maxRecDepth 100000 in
theorem c_X0_hasSeated {l : Launch} {x : Sh} {a b : Mem} {o : Out} (hfl : l.stackTraces = false) {i : Nat} (hi : i < 12) {p : Nat} (hp : p < 10) : MG l x yX0_hasSeated cX0_hasSeated 2 (some .boolean) 0 40 [.ref (x.2.1 (18 + 4 * i)), .int (nI p)] a b o (QI x o (FI (bI (hs a i p)) a b)) := by
  refine MG.of (maxL := 2) (ret := (some .boolean)) hfl (by decide) [some (.ref (x.2.1 (18 + 4 * i))), some (.int (nI p))] rfl rfl (Nat.le_of_ble_eq_true rfl) ?_
  intro pP eE sS mM argsA belowB methM cC C hr
  refine V_aload_n C dX0_hasSeated_0 rfl ?_
  refine gt_X0_paidBy C (by omega) fk_X0_9 dX0_hasSeated_1 ?_
  refine V_iload_n C dX0_hasSeated_4 rfl ?_
  refine la_paidBy C (by omega) _ rfl (by omega) dX0_hasSeated_5 ?_
  refine V_iconst (v := -1) C dX0_hasSeated_6 (by decide) ?_
  refine V_icmp_eq C 14 dX0_hasSeated_7 (by decide) (fun h7 => ?_) (fun h7 => ?_)
  · refine V_iconst (v := 0) C dX0_hasSeated_14 (by decide) ?_
    exact V_iretz C hr (by first | exact Or.inl rfl | exact Or.inr rfl | exact bI_or _) dX0_hasSeated_15 ⟨by simp [hs, h7, bI], rfl, rfl⟩
  · refine V_iconst (v := 1) C dX0_hasSeated_10 (by decide) ?_
    refine V_goto C 15 dX0_hasSeated_11 (by decide) ?_
    exact V_iretz C hr (by first | exact Or.inl rfl | exact Or.inr rfl | exact bI_or _) dX0_hasSeated_15 ⟨by simp [hs, h7, bI], rfl, rfl⟩
set_option maxHeartbeats 4000000 in
set_option maxRecDepth 100000 in
theorem c_X0_isOf {l : Launch} {x : Sh} {a b : Mem} {o : Out} (hfl : l.stackTraces = false) {i : Nat} (hi : i < 12) {ex z : Int32} : MG l x yX0_isOf cX0_isOf 3 (some .boolean) 0 40 [.ref (x.2.1 (18 + 4 * i)), .int ex, .int z] a b o (QI x o (FI (bI (isOfB a i ex z)) a b)) := by
  refine MG.of (maxL := 3) (ret := (some .boolean)) hfl (by decide) [some (.ref (x.2.1 (18 + 4 * i))), some (.int ex), some (.int z)] rfl rfl (Nat.le_of_ble_eq_true rfl) ?_
  intro pP eE sS mM argsA belowB methM cC C hr
  refine V_aload_n C dX0_isOf_0 rfl ?_
  refine gt_X0_exam C (by omega) fk_X0_21 dX0_isOf_1 ?_
  refine V_iload_n C dX0_isOf_4 rfl ?_
  refine V_icmp_ne C 20 dX0_isOf_5 (by decide) (fun h5 => ?_) (fun h5 => ?_)
  · refine V_iconst (v := 0) C dX0_isOf_20 (by decide) ?_
    exact V_iretz C hr (by first | exact Or.inl rfl | exact Or.inr rfl | exact bI_or _) dX0_isOf_21 ⟨by first | simp [isOfB, h5, bI, h13] | simp [isOfB, h5, bI], rfl, rfl⟩
  · refine V_aload_n C dX0_isOf_8 rfl ?_
    refine gt_X0_isResit C (by omega) fk_X0_34 dX0_isOf_9 ?_
    refine V_iload_n C dX0_isOf_12 rfl ?_
    refine V_icmp_ne C 20 dX0_isOf_13 (by decide) (fun h13 => ?_) (fun h13 => ?_)
    · refine V_iconst (v := 0) C dX0_isOf_20 (by decide) ?_
      exact V_iretz C hr (by first | exact Or.inl rfl | exact Or.inr rfl | exact bI_or _) dX0_isOf_21 ⟨by first | simp [isOfB, h5, bI, h13] | simp [isOfB, h5, bI], rfl, rfl⟩
    · refine V_iconst (v := 1) C dX0_isOf_16 (by decide) ?_
      refine V_goto C 21 dX0_isOf_17 (by decide) ?_
      exact V_iretz C hr (by first | exact Or.inl rfl | exact Or.inr rfl | exact bI_or _) dX0_isOf_21 ⟨by first | simp [isOfB, h5, bI, h13] | simp [isOfB, h5, bI], rfl, rfl⟩
set_option maxHeartbeats 4000000 in
set_option maxRecDepth 100000 in
theorem c_X0_countTaken {l : Launch} {x : Sh} {a b : Mem} {o : Out} (hfl : l.stackTraces = false) {i : Nat} (hi : i < 12) : MG l x yX0_countTaken cX0_countTaken 3 (some .int) 1 80 [.ref (x.2.1 (18 + 4 * i))] a b o (QI x o (FI (nI (nTaken a i)) a b)) := by
  refine MG.of (maxL := 3) (ret := (some .int)) hfl (by decide) [some (.ref (x.2.1 (18 + 4 * i))), none, none] rfl rfl (Nat.le_of_ble_eq_true rfl) ?_
  intro pP eE sS mM argsA belowB methM cC C hr
  refine V_iconst (v := 0) C dX0_countTaken_0 (by decide) ?_
  refine V_istore_n1 C dX0_countTaken_1 (by decide) ?_
  refine V_iconst (v := 0) C dX0_countTaken_2 (by decide) ?_
  refine V_istore_n2 C dX0_countTaken_3 (by decide) ?_
  have L4 : ∀ (fuel : Nat) (k : Nat), k ≤ 10 → 10 - k < fuel → VV pP l eE ({ frames := 1, cells := 0, slots := 0, locals := 80 } : Room) sS mM argsA belowB methM cC (MQ belowB (QI x o (FI (nI (nTaken a i)) a b) sS.heap.size) argsA sS 0 0 (AW x sS.heap.size)) x 3 a b o 0 0 4 [some (.ref (x.2.1 (18 + 4 * i))), some (.int (nI (cntN (hs a i) k))), some (.int (nI k))] [] := by
    intro fuel
    induction fuel with
    | zero => intro k hk hm; exact absurd hm (Nat.not_lt_zero _)
    | succ fuel ih4 =>
      intro k hk hm
      refine V_iload_n C dX0_countTaken_4 rfl ?_
      refine V_bipush (v := nI 10) C dX0_countTaken_5 (by decide) ?_
      refine V_lt C 27 dX0_countTaken_7 (by decide) (by omega) (by omega) (fun h7 => ?_) (fun h7 => ?_)
      · have hk10 : k = 10 := by omega
        subst hk10
        refine V_iload_n C dX0_countTaken_27 rfl ?_
        exact V_ireti C hr dX0_countTaken_28 ⟨rfl, rfl, rfl⟩
      · refine V_aload_n C dX0_countTaken_10 rfl ?_
        refine V_iload_n C dX0_countTaken_11 rfl ?_
        refine V_callf (R_V C (c_X0_hasSeated hfl (by omega) (by omega)) mi_X0_hasSeated mk_X0_38 rfl (by omega) ((GE_C (by omega)).trans (GC_O (by omega))) (rfl : vwCl[2]? = some (RX0, TX0, 9)) (by decide) rfl (Nat.le_of_ble_eq_true rfl) (by decide) dX0_countTaken_12) ?_
        refine V_ifb_eq C 21 dX0_countTaken_15 (by decide) (fun h15 => ?_) (fun h15 => ?_)
        · refine V_iinc_2 C _ dX0_countTaken_21 (nI_1 _) (by decide) ?_
          refine V_goto C 4 dX0_countTaken_24 (by decide) ?_
          have ih := ih4 (k + 1) (by omega) (by omega)
          first
            | (rw [cntN_t (by assumption)] at ih; exact ih)
            | (rw [cntN_f (by assumption)] at ih; exact ih)
        · refine V_iinc_1 C _ dX0_countTaken_18 (nI_1 _) (by decide) ?_
          refine V_iinc_2 C _ dX0_countTaken_21 (nI_1 _) (by decide) ?_
          refine V_goto C 4 dX0_countTaken_24 (by decide) ?_
          have ih := ih4 (k + 1) (by omega) (by omega)
          first
            | (rw [cntN_t (by assumption)] at ih; exact ih)
            | (rw [cntN_f (by assumption)] at ih; exact ih)
  exact L4 _ 0 (by decide) (Nat.lt_succ_self _)
set_option maxHeartbeats 4000000 in
set_option maxRecDepth 100000 in
theorem c_X0_isFull {l : Launch} {x : Sh} {a b : Mem} {o : Out} (hfl : l.stackTraces = false) {i : Nat} (hi : i < 12) : MG l x yX0_isFull cX0_isFull 1 (some .boolean) 2 120 [.ref (x.2.1 (18 + 4 * i))] a b o (QI x o (FI (bI (isFullB a i)) a b)) := by
  refine MG.of (maxL := 1) (ret := (some .boolean)) hfl (by decide) [some (.ref (x.2.1 (18 + 4 * i)))] rfl rfl (Nat.le_of_ble_eq_true rfl) ?_
  intro pP eE sS mM argsA belowB methM cC C hr
  refine V_aload_n C dX0_isFull_0 rfl ?_
  refine V_callf (R_V C (c_X0_countTaken hfl (by omega)) mi_X0_countTaken mk_X0_42 rfl (by omega) ((GE_C (by omega)).trans (GC_O (by omega))) (rfl : vwCl[2]? = some (RX0, TX0, 9)) (by decide) rfl (Nat.le_of_ble_eq_true rfl) (by decide) dX0_isFull_1) ?_
  refine V_aload_n C dX0_isFull_4 rfl ?_
  refine gt_X0_seats C (by omega) fk_X0_31 dX0_isFull_5 ?_
  refine V_icmp_lt C 15 dX0_isFull_8 (by decide) (fun h8 => ?_) (fun h8 => ?_)
  · refine V_iconst (v := 0) C dX0_isFull_15 (by decide) ?_
    exact V_iretz C hr (by first | exact Or.inl rfl | exact Or.inr rfl | exact bI_or _) dX0_isFull_16 ⟨by simp [isFullB, h8, bI], rfl, rfl⟩
  · refine V_iconst (v := 1) C dX0_isFull_11 (by decide) ?_
    refine V_goto C 16 dX0_isFull_12 (by decide) ?_
    exact V_iretz C hr (by first | exact Or.inl rfl | exact Or.inr rfl | exact bI_or _) dX0_isFull_16 ⟨by simp [isFullB, h8, bI], rfl, rfl⟩
set_option maxHeartbeats 4000000 in
set_option maxRecDepth 100000 in
theorem c_X0_pupilSeated {l : Launch} {x : Sh} {a b : Mem} {o : Out} (hfl : l.stackTraces = false) {i : Nat} (hi : i < 12) {idx : Int32} : MG l x yX0_pupilSeated cX0_pupilSeated 4 (some .int) 1 80 [.ref (x.2.1 (18 + 4 * i)), .int idx] a b o (QI x o (FI (fI (nthS (hs a i) idx) 10) a b)) := by
  refine MG.of (maxL := 4) (ret := (some .int)) hfl (by decide) [some (.ref (x.2.1 (18 + 4 * i))), some (.int idx), none, none] rfl rfl (Nat.le_of_ble_eq_true rfl) ?_
  intro pP eE sS mM argsA belowB methM cC C hr
  refine V_iconst (v := 0) C dX0_pupilSeated_0 (by decide) ?_
  refine V_istore_n2 C dX0_pupilSeated_1 (by decide) ?_
  refine V_iconst (v := 0) C dX0_pupilSeated_2 (by decide) ?_
  refine V_istore_n3 C dX0_pupilSeated_3 (by decide) ?_
  have L4 : ∀ (fuel : Nat) (k : Nat), k ≤ 10 → (∀ j, j < k → nthS (hs a i) idx j = false) → 10 - k < fuel → VV pP l eE ({ frames := 1, cells := 0, slots := 0, locals := 80 } : Room) sS mM argsA belowB methM cC (MQ belowB (QI x o (FI (fI (nthS (hs a i) idx) 10) a b) sS.heap.size) argsA sS 0 0 (AW x sS.heap.size)) x 4 a b o 0 0 4 [some (.ref (x.2.1 (18 + 4 * i))), some (.int idx), some (.int (nI (cntN (hs a i) k))), some (.int (nI k))] [] := by
    intro fuel
    induction fuel with
    | zero => intro k hk hno hm; exact absurd hm (Nat.not_lt_zero _)
    | succ fuel ih4 =>
      intro k hk hno hm
      refine V_iload_n C dX0_pupilSeated_4 rfl ?_
      refine V_bipush (v := nI 10) C dX0_pupilSeated_5 (by decide) ?_
      refine V_lt C 34 dX0_pupilSeated_7 (by decide) (by omega) (by omega) (fun h7 => ?_) (fun h7 => ?_)
      · refine V_iconst (v := -1) C dX0_pupilSeated_34 (by decide) ?_
        exact V_ireti C hr dX0_pupilSeated_35 ⟨by rw [fI, firN_eq (Nat.le_refl 10) (fun j hj => hno j (by omega)) (fun h => absurd h (Nat.lt_irrefl _)), if_neg (Nat.lt_irrefl _)], rfl, rfl⟩
      · refine V_aload_n C dX0_pupilSeated_10 rfl ?_
        refine V_iload_n C dX0_pupilSeated_11 rfl ?_
        refine V_callf (R_V C (c_X0_hasSeated hfl (by omega) (by omega)) mi_X0_hasSeated mk_X0_38 rfl (by omega) ((GE_C (by omega)).trans (GC_O (by omega))) (rfl : vwCl[2]? = some (RX0, TX0, 9)) (by decide) rfl (Nat.le_of_ble_eq_true rfl) (by decide) dX0_pupilSeated_12) ?_
        refine V_ifb_eq C 28 dX0_pupilSeated_15 (by decide) (fun h15 => ?_) (fun h15 => ?_)
        · refine V_iinc_3 C _ dX0_pupilSeated_28 (nI_1 _) (by decide) ?_
          refine V_goto C 4 dX0_pupilSeated_31 (by decide) ?_
          have ih := ih4 (k + 1) (by omega) (lt_s hno (by first | simp [nthS, h15, h20] | simp [nthS, h15])) (by omega)
          first
            | (rw [cntN_t h15] at ih; exact ih)
            | (rw [cntN_f h15] at ih; exact ih)
        · refine V_iload_n C dX0_pupilSeated_18 rfl ?_
          refine V_iload_n C dX0_pupilSeated_19 rfl ?_
          refine V_icmp_ne C 25 dX0_pupilSeated_20 (by decide) (fun h20 => ?_) (fun h20 => ?_)
          · refine V_iinc_2 C _ dX0_pupilSeated_25 (nI_1 _) (by decide) ?_
            refine V_iinc_3 C _ dX0_pupilSeated_28 (nI_1 _) (by decide) ?_
            refine V_goto C 4 dX0_pupilSeated_31 (by decide) ?_
            have ih := ih4 (k + 1) (by omega) (lt_s hno (by first | simp [nthS, h15, h20] | simp [nthS, h15])) (by omega)
            first
              | (rw [cntN_t h15] at ih; exact ih)
              | (rw [cntN_f h15] at ih; exact ih)
          · refine V_iload_n C dX0_pupilSeated_23 rfl ?_
            exact V_ireti C hr dX0_pupilSeated_24 ⟨by rw [fI, firN_eq (by omega) hno (fun _ => by simp [nthS, h15, by simpa using h20]), if_pos h7], rfl, rfl⟩
  exact L4 _ 0 (by decide) (fun j hj => absurd hj (Nat.not_lt_zero _)) (Nat.lt_succ_self _)
set_option maxHeartbeats 4000000 in
set_option maxRecDepth 100000 in
theorem c_X0_unseat {l : Launch} {x : Sh} {a b : Mem} {o : Out} (hfl : l.stackTraces = false) {i : Nat} (hi : i < 12) {p : Nat} (hp : p < 10) : MG l x yX0_unseat cX0_unseat 3 (some .int) 0 40 [.ref (x.2.1 (18 + 4 * i)), .int (nI p)] a b o (QI x o (FI (a (18 + 4 * i + 1) p) (up2 a (18 + 4 * i + 1) p (-1)) b)) := by
  refine MG.of (maxL := 3) (ret := (some .int)) hfl (by decide) [some (.ref (x.2.1 (18 + 4 * i))), some (.int (nI p)), none] rfl rfl (Nat.le_of_ble_eq_true rfl) ?_
  intro pP eE sS mM argsA belowB methM cC C hr
  refine V_aload_n C dX0_unseat_0 rfl ?_
  refine gt_X0_paidBy C (by omega) fk_X0_9 dX0_unseat_1 ?_
  refine V_iload_n C dX0_unseat_4 rfl ?_
  refine la_paidBy C (by omega) _ rfl (by omega) dX0_unseat_5 ?_
  refine V_istore_n2 C dX0_unseat_6 (by decide) ?_
  refine V_aload_n C dX0_unseat_7 rfl ?_
  refine gt_X0_paidBy C (by omega) fk_X0_9 dX0_unseat_8 ?_
  refine V_iload_n C dX0_unseat_11 rfl ?_
  refine V_iconst (v := -1) C dX0_unseat_12 (by decide) ?_
  refine sa_paidBy C (by omega) _ rfl (by omega) dX0_unseat_13 ?_
  refine V_iload_n C dX0_unseat_14 rfl ?_
  exact V_ireti C hr dX0_unseat_15 ⟨rfl, rfl, rfl⟩
set_option maxHeartbeats 4000000 in
set_option maxRecDepth 100000 in
theorem c_X0_placeInQueue {l : Launch} {x : Sh} {a b : Mem} {o : Out} (hfl : l.stackTraces = false) {i : Nat} (hi : i < 12) {w : Nat} (hw : a (18 + 4 * i) 8 = nI w) (hw10 : w ≤ 10) {p : Int32} : MG l x yX0_placeInQueue cX0_placeInQueue 3 (some .int) 0 40 [.ref (x.2.1 (18 + 4 * i)), .int p] a b o (QI x o (FI (fI (qAt a i p) w) a b)) := by
  refine MG.of (maxL := 3) (ret := (some .int)) hfl (by decide) [some (.ref (x.2.1 (18 + 4 * i))), some (.int p), none] rfl rfl (Nat.le_of_ble_eq_true rfl) ?_
  intro pP eE sS mM argsA belowB methM cC C hr
  refine V_iconst (v := 0) C dX0_placeInQueue_0 (by decide) ?_
  refine V_istore_n2 C dX0_placeInQueue_1 (by decide) ?_
  have L2 : ∀ (fuel : Nat) (k : Nat), k ≤ w → (∀ j, j < k → qAt a i p j = false) → w - k < fuel → VV pP l eE ({ frames := 0, cells := 0, slots := 0, locals := 40 } : Room) sS mM argsA belowB methM cC (MQ belowB (QI x o (FI (fI (qAt a i p) w) a b) sS.heap.size) argsA sS 0 0 (AW x sS.heap.size)) x 3 a b o 0 0 2 [some (.ref (x.2.1 (18 + 4 * i))), some (.int p), some (.int (nI k))] [] := by
    intro fuel
    induction fuel with
    | zero => intro k hk hno hm; exact absurd hm (Nat.not_lt_zero _)
    | succ fuel ih2 =>
      intro k hk hno hm
      refine V_iload_n C dX0_placeInQueue_2 rfl ?_
      refine V_aload_n C dX0_placeInQueue_3 rfl ?_
      refine gt_X0_waiterCount C (by omega) fk_X0_46 dX0_placeInQueue_4 ?_
      refine V_topi hw ?_
      refine V_lt C 28 dX0_placeInQueue_7 (by decide) (by omega) (by omega) (fun h7 => ?_) (fun h7 => ?_)
      · refine V_iconst (v := -1) C dX0_placeInQueue_28 (by decide) ?_
        exact V_ireti C hr dX0_placeInQueue_29 ⟨by rw [fI, firN_eq (Nat.le_refl w) (fun j hj => hno j (by omega)) (fun h => absurd h (Nat.lt_irrefl _)), if_neg (Nat.lt_irrefl _)], rfl, rfl⟩
      · refine V_aload_n C dX0_placeInQueue_10 rfl ?_
        refine gt_X0_waiters C (by omega) fk_X0_15 dX0_placeInQueue_11 ?_
        refine V_iload_n C dX0_placeInQueue_14 rfl ?_
        refine la_waiters C (by omega) _ rfl (by omega) dX0_placeInQueue_15 ?_
        refine V_iload_n C dX0_placeInQueue_16 rfl ?_
        refine V_icmp_ne C 22 dX0_placeInQueue_17 (by decide) (fun h17 => ?_) (fun h17 => ?_)
        · refine V_iinc_2 C _ dX0_placeInQueue_22 (nI_1 _) (by decide) ?_
          refine V_goto C 2 dX0_placeInQueue_25 (by decide) ?_
          exact ih2 (k + 1) (by omega) (lt_s hno (by simp [qAt, h17])) (by omega)
        · refine V_iload_n C dX0_placeInQueue_20 rfl ?_
          exact V_ireti C hr dX0_placeInQueue_21 ⟨by rw [fI, firN_eq (by omega) hno (fun _ => by simpa [qAt] using h17), if_pos h7], rfl, rfl⟩
  exact L2 _ 0 (Nat.zero_le _) (fun j hj => absurd hj (Nat.not_lt_zero _)) (Nat.lt_succ_self _)
set_option maxHeartbeats 4000000 in
set_option maxRecDepth 100000 in
theorem c_X0_letWait {l : Launch} {x : Sh} {a b : Mem} {o : Out} (hfl : l.stackTraces = false) {i : Nat} (hi : i < 12) {w : Nat} (hw : a (18 + 4 * i) 8 = nI w) (hw10 : w ≤ 10) {p pts : Int32} : MG l x yX0_letWait cX0_letWait 3 none 1 80 [.ref (x.2.1 (18 + 4 * i)), .int p, .int pts] a b o (QV x o (FV (letW a i p pts w) b)) := by
  refine MG.of (maxL := 3) (ret := none) hfl (by decide) [some (.ref (x.2.1 (18 + 4 * i))), some (.int p), some (.int pts)] rfl rfl (Nat.le_of_ble_eq_true rfl) ?_
  intro pP eE sS mM argsA belowB methM cC C hr
  refine V_aload_n C dX0_letWait_0 rfl ?_
  refine V_iload_n C dX0_letWait_1 rfl ?_
  refine V_callf (R_V C (c_X0_placeInQueue hfl hi hw hw10) mi_X0_placeInQueue mk_X0_49 rfl (by omega) ((GE_C (by omega)).trans (GC_O (by omega))) (rfl : vwCl[2]? = some (RX0, TX0, 9)) (by decide) rfl (Nat.le_of_ble_eq_true rfl) (by decide) dX0_letWait_2) ?_
  refine V_iconst (v := -1) C dX0_letWait_5 (by decide) ?_
  refine V_icmp_ne C 18 dX0_letWait_6 (by decide) (fun h6 => ?_) (fun h6 => ?_)
  · have q6 : firN (qAt a i p) w < w := by
      have := mt (fI_m1 (f := qAt a i p) (n := w) (by omega)).mpr h6
      omega
    exact V_vret C hr dX0_letWait_18 ⟨by first | rw [letW, if_pos (Or.inl q6)] | rw [letW, if_pos (Or.inr q15)], rfl⟩
  · have q6 : ¬ firN (qAt a i p) w < w := (fI_m1 (by omega)).mp (by simpa using h6)
    refine V_aload_n C dX0_letWait_9 rfl ?_
    refine gt_X0_waiterCount C (by omega) fk_X0_46 dX0_letWait_10 ?_
    refine V_topi hw ?_
    refine V_bipush (v := nI 10) C dX0_letWait_13 (by decide) ?_
    refine V_icmp_lt C 19 dX0_letWait_15 (by decide) (fun h15 => ?_) (fun h15 => ?_)
    · have q15 : w < 10 := (nI_ltI (by omega) (by omega)).mp h15
      refine V_aload_n C dX0_letWait_19 rfl ?_
      refine gt_X0_waiters C (by omega) fk_X0_15 dX0_letWait_20 ?_
      refine V_aload_n C dX0_letWait_23 rfl ?_
      refine gt_X0_waiterCount C (by omega) fk_X0_46 dX0_letWait_24 ?_
      refine V_topi hw ?_
      refine V_iload_n C dX0_letWait_27 rfl ?_
      refine sa_waiters C (by omega) _ rfl (by omega) dX0_letWait_28 ?_
      refine V_aload_n C dX0_letWait_29 rfl ?_
      refine gt_X0_waiterPoints C (by omega) fk_X0_18 dX0_letWait_30 ?_
      refine V_aload_n C dX0_letWait_33 rfl ?_
      refine gt_X0_waiterCount C (by omega) fk_X0_46 dX0_letWait_34 ?_
      refine V_topi ((up2_o (by omega)).trans hw) ?_
      refine V_iload_n C dX0_letWait_37 rfl ?_
      refine sa_waiterPoints C (by omega) _ rfl (by omega) dX0_letWait_38 ?_
      refine V_aload_n C dX0_letWait_39 rfl ?_
      refine V_dup C dX0_letWait_40 rfl ?_
      refine gt_X0_waiterCount C (by omega) fk_X0_46 dX0_letWait_41 ?_
      refine V_topi ((up2_o (by omega)).trans ((up2_o (by omega)).trans hw)) ?_
      refine V_iconst (v := 1) C dX0_letWait_44 (by decide) ?_
      refine V_iadd C dX0_letWait_45 ?_
      refine V_topi (nI_1 _) ?_
      refine pt_X0_waiterCount C (by omega) fk_X0_46 dX0_letWait_46 ?_
      exact V_vret C hr dX0_letWait_49 ⟨by rw [letW, if_neg (by omega)], rfl⟩
    · have q15 : 10 ≤ w := by
        have := mt (nI_ltI (a := w) (b := 10) (by omega) (by omega)).mpr h15
        omega
      exact V_vret C hr dX0_letWait_18 ⟨by first | rw [letW, if_pos (Or.inl q6)] | rw [letW, if_pos (Or.inr q15)], rfl⟩
set_option maxHeartbeats 4000000 in
set_option maxRecDepth 100000 in
theorem c_X0_letWaitNoMore {l : Launch} {x : Sh} {a b : Mem} {o : Out} (hfl : l.stackTraces = false) {i : Nat} (hi : i < 12) {w : Nat} (hw : a (18 + 4 * i) 8 = nI w) (hw10 : w ≤ 10) {p : Int32} : MG l x yX0_letWaitNoMore cX0_letWaitNoMore 4 none 1 80 [.ref (x.2.1 (18 + 4 * i)), .int p] a b o (QV x o (FV (noMore a i p w) b)) := by
  refine MG.of (maxL := 4) (ret := none) hfl (by decide) [some (.ref (x.2.1 (18 + 4 * i))), some (.int p), none, none] rfl rfl (Nat.le_of_ble_eq_true rfl) ?_
  intro pP eE sS mM argsA belowB methM cC C hr
  refine V_aload_n C dX0_letWaitNoMore_0 rfl ?_
  refine V_iload_n C dX0_letWaitNoMore_1 rfl ?_
  refine V_callf (R_V C (c_X0_placeInQueue hfl hi hw hw10) mi_X0_placeInQueue mk_X0_49 rfl (by omega) ((GE_C (by omega)).trans (GC_O (by omega))) (rfl : vwCl[2]? = some (RX0, TX0, 9)) (by decide) rfl (Nat.le_of_ble_eq_true rfl) (by decide) dX0_letWaitNoMore_2) ?_
  refine V_istore_n2 C dX0_letWaitNoMore_5 (by decide) ?_
  refine V_iload_n C dX0_letWaitNoMore_6 rfl ?_
  refine V_iconst (v := -1) C dX0_letWaitNoMore_7 (by decide) ?_
  refine V_icmp_ne C 12 dX0_letWaitNoMore_8 (by decide) (fun h8 => ?_) (fun h8 => ?_)
  · have q8 : firN (qAt a i p) w < w := by
      have := mt (fI_m1 (f := qAt a i p) (n := w) (by omega)).mpr h8
      omega
    rw [fI, if_pos q8]
    generalize hpl : firN (qAt a i p) w = pl at q8 ⊢
    refine V_aload_n C dX0_letWaitNoMore_12 rfl ?_
    refine V_dup C dX0_letWaitNoMore_13 rfl ?_
    refine gt_X0_waiterCount C (by omega) fk_X0_46 dX0_letWaitNoMore_14 ?_
    refine V_topi hw ?_
    refine V_iconst (v := 1) C dX0_letWaitNoMore_17 (by decide) ?_
    refine V_isub C dX0_letWaitNoMore_18 ?_
    refine V_topi (show nI w - 1 = nI (w - 1) from pk_sub (b := 1) (by omega)) ?_
    refine pt_X0_waiterCount C (by omega) fk_X0_46 dX0_letWaitNoMore_19 ?_
    rw [delK_0 (pl := pl)]
    refine V_iload_n C dX0_letWaitNoMore_22 rfl ?_
    refine V_istore_n3 C dX0_letWaitNoMore_23 (by decide) ?_
    have L24 : ∀ (fuel : Nat) (k : Nat), pl ≤ k → k ≤ w - 1 → w - 1 - k < fuel → VV pP l eE ({ frames := 1, cells := 0, slots := 0, locals := 80 } : Room) sS mM argsA belowB methM cC (MQ belowB (QV x o (FV (noMore a i p w) b) sS.heap.size) argsA sS 0 0 (AW x sS.heap.size)) x 4 (delK a i pl w k) b o 0 0 24 [some (.ref (x.2.1 (18 + 4 * i))), some (.int p), some (.int (nI pl)), some (.int (nI k))] [] := by
      intro fuel
      induction fuel with
      | zero => intro k hk0 hk hm; exact absurd hm (Nat.not_lt_zero _)
      | succ fuel ih24 =>
        intro k hk0 hk hm
        refine V_iload_n C dX0_letWaitNoMore_24 rfl ?_
        refine V_aload_n C dX0_letWaitNoMore_25 rfl ?_
        refine gt_X0_waiterCount C (by omega) fk_X0_46 dX0_letWaitNoMore_26 ?_
        refine V_topi delK_8 ?_
        refine V_lt C 66 dX0_letWaitNoMore_29 (by decide) (by omega) (by omega) (fun h29 => ?_) (fun h29 => ?_)
        · exact V_vret C hr dX0_letWaitNoMore_66 ⟨by rw [noMore, hpl, if_pos q8, show w - 1 = k by omega], rfl⟩
        · refine V_aload_n C dX0_letWaitNoMore_32 rfl ?_
          refine gt_X0_waiters C (by omega) fk_X0_15 dX0_letWaitNoMore_33 ?_
          refine V_iload_n C dX0_letWaitNoMore_36 rfl ?_
          refine V_aload_n C dX0_letWaitNoMore_37 rfl ?_
          refine gt_X0_waiters C (by omega) fk_X0_15 dX0_letWaitNoMore_38 ?_
          refine V_iload_n C dX0_letWaitNoMore_41 rfl ?_
          refine V_iconst (v := 1) C dX0_letWaitNoMore_42 (by decide) ?_
          refine V_iadd C dX0_letWaitNoMore_43 ?_
          refine V_topi (nI_1 _) ?_
          refine la_waiters C (by omega) _ rfl (by omega) dX0_letWaitNoMore_44 ?_
          refine V_topi (delK_2 _ (by omega)) ?_
          refine sa_waiters C (by omega) _ rfl (by omega) dX0_letWaitNoMore_45 ?_
          refine V_aload_n C dX0_letWaitNoMore_46 rfl ?_
          refine gt_X0_waiterPoints C (by omega) fk_X0_18 dX0_letWaitNoMore_47 ?_
          refine V_iload_n C dX0_letWaitNoMore_50 rfl ?_
          refine V_aload_n C dX0_letWaitNoMore_51 rfl ?_
          refine gt_X0_waiterPoints C (by omega) fk_X0_18 dX0_letWaitNoMore_52 ?_
          refine V_iload_n C dX0_letWaitNoMore_55 rfl ?_
          refine V_iconst (v := 1) C dX0_letWaitNoMore_56 (by decide) ?_
          refine V_iadd C dX0_letWaitNoMore_57 ?_
          refine V_topi (nI_1 _) ?_
          refine la_waiterPoints C (by omega) _ rfl (by omega) dX0_letWaitNoMore_58 ?_
          refine V_topi ((up2_o (by omega)).trans (delK_3 _ (by omega))) ?_
          refine sa_waiterPoints C (by omega) _ rfl (by omega) dX0_letWaitNoMore_59 ?_
          refine V_iinc_3 C _ dX0_letWaitNoMore_60 (nI_1 _) (by decide) ?_
          refine V_goto C 24 dX0_letWaitNoMore_63 (by decide) ?_
          rw [delK_s hk0]
          exact ih24 (k + 1) (by omega) (by omega) (by omega)
    exact L24 _ pl (Nat.le_refl _) (by omega) (Nat.lt_succ_self _)
  · have q8 : ¬ firN (qAt a i p) w < w := (fI_m1 (by omega)).mp (by simpa using h8)
    exact V_vret C hr dX0_letWaitNoMore_11 ⟨by rw [noMore, if_neg q8], rfl⟩
set_option maxHeartbeats 4000000 in
set_option maxRecDepth 100000 in
theorem c_X0_hasSeatedWaiter {l : Launch} {x : Sh} {a b : Mem} {o : Out} (hfl : l.stackTraces = false) {i : Nat} (hi : i < 12) {w : Nat} (hw : a (18 + 4 * i) 8 = nI w) (hw10 : w ≤ 10) (hq : ∀ k, k < w → ∃ p : Nat, p < 10 ∧ a (18 + 4 * i + 2) k = nI p) : MG l x yX0_hasSeatedWaiter cX0_hasSeatedWaiter 2 (some .boolean) 1 80 [.ref (x.2.1 (18 + 4 * i))] a b o (QI x o (FI (bI (anyN (fun k => hs a i (a (18 + 4 * i + 2) k).toNatClampNeg) w)) a b)) := by
  refine MG.of (maxL := 2) (ret := (some .boolean)) hfl (by decide) [some (.ref (x.2.1 (18 + 4 * i))), none] rfl rfl (Nat.le_of_ble_eq_true rfl) ?_
  intro pP eE sS mM argsA belowB methM cC C hr
  refine V_iconst (v := 0) C dX0_hasSeatedWaiter_0 (by decide) ?_
  refine V_istore_n1 C dX0_hasSeatedWaiter_1 (by decide) ?_
  have L2 : ∀ (fuel : Nat) (k : Nat), k ≤ w → anyN (fun k => hs a i (a (18 + 4 * i + 2) k).toNatClampNeg) k = false → w - k < fuel → VV pP l eE ({ frames := 1, cells := 0, slots := 0, locals := 80 } : Room) sS mM argsA belowB methM cC (MQ belowB (QI x o (FI (bI (anyN (fun k => hs a i (a (18 + 4 * i + 2) k).toNatClampNeg) w)) a b) sS.heap.size) argsA sS 0 0 (AW x sS.heap.size)) x 2 a b o 0 0 2 [some (.ref (x.2.1 (18 + 4 * i))), some (.int (nI k))] [] := by
    intro fuel
    induction fuel with
    | zero => intro k hk hno hm; exact absurd hm (Nat.not_lt_zero _)
    | succ fuel ih2 =>
      intro k hk hno hm
      refine V_iload_n C dX0_hasSeatedWaiter_2 rfl ?_
      refine V_aload_n C dX0_hasSeatedWaiter_3 rfl ?_
      refine gt_X0_waiterCount C (by omega) fk_X0_46 dX0_hasSeatedWaiter_4 ?_
      refine V_topi hw ?_
      refine V_lt C 31 dX0_hasSeatedWaiter_7 (by decide) (by omega) (by omega) (fun h7 => ?_) (fun h7 => ?_)
      · refine V_iconst (v := 0) C dX0_hasSeatedWaiter_31 (by decide) ?_
        exact V_iretz C hr (by first | exact Or.inl rfl | exact Or.inr rfl | exact bI_or _) dX0_hasSeatedWaiter_32 ⟨by rw [show w = k by omega, hno]; rfl, rfl, rfl⟩
      · obtain ⟨p, hp, hpe⟩ := hq k h7
        have hpc : (a (18 + 4 * i + 2) k).toNatClampNeg = p := by rw [hpe]; exact nI_clamp (by omega)
        refine V_aload_n C dX0_hasSeatedWaiter_10 rfl ?_
        refine V_aload_n C dX0_hasSeatedWaiter_11 rfl ?_
        refine gt_X0_waiters C (by omega) fk_X0_15 dX0_hasSeatedWaiter_12 ?_
        refine V_iload_n C dX0_hasSeatedWaiter_15 rfl ?_
        refine la_waiters C (by omega) _ rfl (by omega) dX0_hasSeatedWaiter_16 ?_
        refine V_topi hpe ?_
        refine V_callf (R_V C (c_X0_hasSeated hfl (by omega) (by omega)) mi_X0_hasSeated mk_X0_38 rfl (by omega) ((GE_C (by omega)).trans (GC_O (by omega))) (rfl : vwCl[2]? = some (RX0, TX0, 9)) (by decide) rfl (Nat.le_of_ble_eq_true rfl) (by decide) dX0_hasSeatedWaiter_17) ?_
        refine V_ifb_eq C 25 dX0_hasSeatedWaiter_20 (by decide) (fun h20 => ?_) (fun h20 => ?_)
        · refine V_iinc_1 C _ dX0_hasSeatedWaiter_25 (nI_1 _) (by decide) ?_
          refine V_goto C 2 dX0_hasSeatedWaiter_28 (by decide) ?_
          exact ih2 (k + 1) (by omega) (anyN_s hno (by show hs a i _ = false; rw [hpc]; exact h20)) (by omega)
        · refine V_iconst (v := 1) C dX0_hasSeatedWaiter_23 (by decide) ?_
          exact V_iretz C hr (by first | exact Or.inl rfl | exact Or.inr rfl | exact bI_or _) dX0_hasSeatedWaiter_24 ⟨by rw [anyN_t h7 (by show hs a i _ = true; rw [hpc]; exact h20)]; rfl, rfl, rfl⟩
  exact L2 _ 0 (Nat.zero_le _) rfl (Nat.lt_succ_self _)
set_option maxHeartbeats 4000000 in
set_option maxRecDepth 100000 in
theorem c_X0_open {l : Launch} {x : Sh} {a b : Mem} {o : Out} (hfl : l.stackTraces = false) {i : Nat} (hi : i < 12) {e1 e2 e3 e4 e5 : Int32} (hz : e5 = 0 ∨ e5 = 1) : MG l x yX0_open cX0_open 6 none 0 40 [.ref (x.2.1 (18 + 4 * i)), .int e1, .int e2, .int e3, .int e4, .int e5] a b o (QV x o (FV (up2 (up2 (up2 (up2 (up2 a (18 + 4 * i) 0 e1) (18 + 4 * i) 1 e2) (18 + 4 * i) 2 e3) (18 + 4 * i) 3 e4) (18 + 4 * i) 4 e5) b)) := by
  refine MG.of (maxL := 6) (ret := none) hfl (by decide) [some (.ref (x.2.1 (18 + 4 * i))), some (.int e1), some (.int e2), some (.int e3), some (.int e4), some (.int e5)] rfl rfl (Nat.le_of_ble_eq_true rfl) ?_
  intro pP eE sS mM argsA belowB methM cC C hr
  refine V_aload_n C dX0_open_0 rfl ?_
  refine V_iload_n C dX0_open_1 rfl ?_
  refine pt_X0_exam C (by omega) fk_X0_21 dX0_open_2 ?_
  refine V_aload_n C dX0_open_5 rfl ?_
  refine V_iload_n C dX0_open_6 rfl ?_
  refine pt_X0_slot C (by omega) fk_X0_25 dX0_open_7 ?_
  refine V_aload_n C dX0_open_10 rfl ?_
  refine V_iload_n C dX0_open_11 rfl ?_
  refine pt_X0_room C (by omega) fk_X0_28 dX0_open_12 ?_
  refine V_aload_n C dX0_open_15 rfl ?_
  refine V_iload C dX0_open_16 rfl ?_
  refine pt_X0_seats C (by omega) fk_X0_31 dX0_open_18 ?_
  refine V_aload_n C dX0_open_21 rfl ?_
  refine V_iload C dX0_open_22 rfl ?_
  refine pt_X0_isResit C (by omega) hz fk_X0_34 dX0_open_24 ?_
  exact V_vret C hr dX0_open_27 ⟨rfl, rfl⟩
