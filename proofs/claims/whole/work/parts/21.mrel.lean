/-! the reference beside the class -/
/-- the reference's cells b hold what the class's cells q hold (bids and sittings apart) -/
def RR (q b : Mem) : Prop := (b 70 1 = q 0 7) ∧ (b 70 2 = q 0 8) ∧ (b 70 3 = q 0 9) ∧ (b 70 4 = q 0 10) ∧ (b 70 5 = q 0 11) ∧ (b 70 6 = q 0 12) ∧ (∀ (r : Nat), r < 3 → b 71 r = q 66 r) ∧ (∀ (i : Nat), i < 12 → b 72 i = q (18 + 4 * i) 0) ∧ (∀ (i : Nat), i < 12 → b 73 i = q (18 + 4 * i) 1) ∧ (∀ (i : Nat), i < 12 → b 74 i = q (18 + 4 * i) 2) ∧ (∀ (i : Nat), i < 12 → b 75 i = q (18 + 4 * i) 4) ∧ (∀ (i : Nat), i < 12 → b 76 i = q (18 + 4 * i) 8) ∧ (∀ (i k : Nat), i < 12 → k < 10 → b 77 (10 * i + k) = q (18 + 4 * i + 2) k) ∧ (∀ (i k : Nat), i < 12 → k < 10 → b 78 (10 * i + k) = q (18 + 4 * i + 3) k) ∧ (∀ (p i : Nat), p < 10 → i < 12 → b 81 (p * 12 + i) = q (18 + 4 * i + 1) p) ∧ (∀ (s p e f : Nat), s < 3 → p < 10 → e < 6 → f < 3 → b 82 (((s * 10 + p) * 6 + e) * 3 + f) = q (3 + (s * 3 + f)) (p * 6 + e)) ∧ (∀ (f : Nat), f < 3 → b 83 f = q 12 f) ∧ (∀ (p : Nat), p < 10 → b 84 p = q 67 p) ∧ (∀ (s : Nat), s < 6 → b 85 s = q 69 s)
theorem RR.c1 {q b : Mem} (h : RR q b) : b 70 1 = q 0 7 := h.1
theorem RR.c2 {q b : Mem} (h : RR q b) : b 70 2 = q 0 8 := h.2.1
theorem RR.c3 {q b : Mem} (h : RR q b) : b 70 3 = q 0 9 := h.2.2.1
theorem RR.c4 {q b : Mem} (h : RR q b) : b 70 4 = q 0 10 := h.2.2.2.1
theorem RR.c5 {q b : Mem} (h : RR q b) : b 70 5 = q 0 11 := h.2.2.2.2.1
theorem RR.c6 {q b : Mem} (h : RR q b) : b 70 6 = q 0 12 := h.2.2.2.2.2.1
theorem RR.st {q b : Mem} (h : RR q b) {r : Nat} (h0 : r < 3) : b 71 r = q 66 r := h.2.2.2.2.2.2.1 r h0
theorem RR.ex {q b : Mem} (h : RR q b) {i : Nat} (h0 : i < 12) : b 72 i = q (18 + 4 * i) 0 := h.2.2.2.2.2.2.2.1 i h0
theorem RR.sl {q b : Mem} (h : RR q b) {i : Nat} (h0 : i < 12) : b 73 i = q (18 + 4 * i) 1 := h.2.2.2.2.2.2.2.2.1 i h0
theorem RR.rm {q b : Mem} (h : RR q b) {i : Nat} (h0 : i < 12) : b 74 i = q (18 + 4 * i) 2 := h.2.2.2.2.2.2.2.2.2.1 i h0
theorem RR.zz {q b : Mem} (h : RR q b) {i : Nat} (h0 : i < 12) : b 75 i = q (18 + 4 * i) 4 := h.2.2.2.2.2.2.2.2.2.2.1 i h0
theorem RR.qw {q b : Mem} (h : RR q b) {i : Nat} (h0 : i < 12) : b 76 i = q (18 + 4 * i) 8 := h.2.2.2.2.2.2.2.2.2.2.2.1 i h0
theorem RR.wt {q b : Mem} (h : RR q b) {i k : Nat} (h0 : i < 12) (h1 : k < 10) : b 77 (10 * i + k) = q (18 + 4 * i + 2) k := h.2.2.2.2.2.2.2.2.2.2.2.2.1 i k h0 h1
theorem RR.wp {q b : Mem} (h : RR q b) {i k : Nat} (h0 : i < 12) (h1 : k < 10) : b 78 (10 * i + k) = q (18 + 4 * i + 3) k := h.2.2.2.2.2.2.2.2.2.2.2.2.2.1 i k h0 h1
theorem RR.pd {q b : Mem} (h : RR q b) {p i : Nat} (h0 : p < 10) (h1 : i < 12) : b 81 (p * 12 + i) = q (18 + 4 * i + 1) p := h.2.2.2.2.2.2.2.2.2.2.2.2.2.2.1 p i h0 h1
theorem RR.vl {q b : Mem} (h : RR q b) {s p e f : Nat} (h0 : s < 3) (h1 : p < 10) (h2 : e < 6) (h3 : f < 3) : b 82 (((s * 10 + p) * 6 + e) * 3 + f) = q (3 + (s * 3 + f)) (p * 6 + e) := h.2.2.2.2.2.2.2.2.2.2.2.2.2.2.2.1 s p e f h0 h1 h2 h3
theorem RR.ow {q b : Mem} (h : RR q b) {f : Nat} (h0 : f < 3) : b 83 f = q 12 f := h.2.2.2.2.2.2.2.2.2.2.2.2.2.2.2.2.1 f h0
theorem RR.pt {q b : Mem} (h : RR q b) {p : Nat} (h0 : p < 10) : b 84 p = q 67 p := h.2.2.2.2.2.2.2.2.2.2.2.2.2.2.2.2.2.1 p h0
theorem RR.sat {q b : Mem} (h : RR q b) {s : Nat} (h0 : s < 6) : b 85 s = q 69 s := h.2.2.2.2.2.2.2.2.2.2.2.2.2.2.2.2.2.2 s h0
/-- from 1 to 100 -/
def ptO (v : Int32) : Prop := 1 ≤ v ∧ v ≤ 100
/-- what holds of the class's cells between two calls -/
def IQ (q : Mem) : Prop := (∀ p, p < 10 → noClash q p) ∧ (∀ p, p < nP q → pwB q p = true) ∧ (∀ i, i < nO q → nTaken q i ≤ stN q i) ∧ (∀ i, i < 12 → ∀ j k, j < k → k < qW q i → q (18 + 4 * i + 2) j ≠ q (18 + 4 * i + 2) k) ∧ (∀ i, i < 12 → ∀ k, k < qW q i → hs q i (wtN q i k) = false) ∧ (∀ i, i < 12 → ∀ k, k < qW q i → wtN q i k < nP q ∧ ptO (q (18 + 4 * i + 3) k)) ∧ (∀ i j, i < nO q → j < nO q → i ≠ j → q (18 + 4 * i) 2 = q (18 + 4 * j) 2 → q (18 + 4 * i) 1 ≠ q (18 + 4 * j) 1) ∧ (∀ p, nP q ≤ p → p < 10 → (∀ i, i < 12 → hs q i p = false) ∧ q 68 p = 0) ∧ (∀ i, nO q ≤ i → i < 12 → (∀ p, p < 10 → hs q i p = false) ∧ qW q i = 0) ∧ (∀ i, i < nO q → q (18 + 4 * i) 2 = nI (tn (q (18 + 4 * i) 2)) ∧ tn (q (18 + 4 * i) 2) < nR q ∧ q (18 + 4 * i) 3 = q 66 (tn (q (18 + 4 * i) 2))) ∧ (∀ r, r < nR q → isN (q 66 r) 6 ∧ 1 ≤ tn (q 66 r)) ∧ (∀ p e, p < 10 → e < 6 → nP q ≤ p ∨ nE q ≤ e → ∀ f s, f < 3 → s < 3 → q (3 + (s * 3 + f)) (p * 6 + e) = q (3 + f) (p * 6 + e)) ∧ (∀ k, k < bW q → bpN q k < nP q ∧ boN q k < nO q ∧ ptO (q 16 k)) ∧ (∀ j k, j < k → k < bW q → bpN q j ≠ bpN q k ∨ boN q j ≠ boN q k) ∧ (∀ i p, i < 12 → p < 10 → hs q i p = true → ptO (q (18 + 4 * i + 1) p))
theorem IQ.nc {q : Mem} (h : IQ q) : ∀ p, p < 10 → noClash q p := h.1
theorem IQ.pw {q : Mem} (h : IQ q) : ∀ p, p < nP q → pwB q p = true := h.2.1
theorem IQ.fu {q : Mem} (h : IQ q) : ∀ i, i < nO q → nTaken q i ≤ stN q i := h.2.2.1
theorem IQ.qd {q : Mem} (h : IQ q) : ∀ i, i < 12 → ∀ j k, j < k → k < qW q i → q (18 + 4 * i + 2) j ≠ q (18 + 4 * i + 2) k := h.2.2.2.1
theorem IQ.qs {q : Mem} (h : IQ q) : ∀ i, i < 12 → ∀ k, k < qW q i → hs q i (wtN q i k) = false := h.2.2.2.2.1
theorem IQ.ql {q : Mem} (h : IQ q) : ∀ i, i < 12 → ∀ k, k < qW q i → wtN q i k < nP q ∧ ptO (q (18 + 4 * i + 3) k) := h.2.2.2.2.2.1
theorem IQ.sh {q : Mem} (h : IQ q) : ∀ i j, i < nO q → j < nO q → i ≠ j → q (18 + 4 * i) 2 = q (18 + 4 * j) 2 → q (18 + 4 * i) 1 ≠ q (18 + 4 * j) 1 := h.2.2.2.2.2.2.1
theorem IQ.pb {q : Mem} (h : IQ q) : ∀ p, nP q ≤ p → p < 10 → (∀ i, i < 12 → hs q i p = false) ∧ q 68 p = 0 := h.2.2.2.2.2.2.2.1
theorem IQ.ob {q : Mem} (h : IQ q) : ∀ i, nO q ≤ i → i < 12 → (∀ p, p < 10 → hs q i p = false) ∧ qW q i = 0 := h.2.2.2.2.2.2.2.2.1
theorem IQ.rm {q : Mem} (h : IQ q) : ∀ i, i < nO q → q (18 + 4 * i) 2 = nI (tn (q (18 + 4 * i) 2)) ∧ tn (q (18 + 4 * i) 2) < nR q ∧ q (18 + 4 * i) 3 = q 66 (tn (q (18 + 4 * i) 2)) := h.2.2.2.2.2.2.2.2.2.1
theorem IQ.rs {q : Mem} (h : IQ q) : ∀ r, r < nR q → isN (q 66 r) 6 ∧ 1 ≤ tn (q 66 r) := h.2.2.2.2.2.2.2.2.2.2.1
theorem IQ.rc {q : Mem} (h : IQ q) : ∀ p e, p < 10 → e < 6 → nP q ≤ p ∨ nE q ≤ e → ∀ f s, f < 3 → s < 3 → q (3 + (s * 3 + f)) (p * 6 + e) = q (3 + f) (p * 6 + e) := h.2.2.2.2.2.2.2.2.2.2.2.1
theorem IQ.bp {q : Mem} (h : IQ q) : ∀ k, k < bW q → bpN q k < nP q ∧ boN q k < nO q ∧ ptO (q 16 k) := h.2.2.2.2.2.2.2.2.2.2.2.2.1
theorem IQ.bd {q : Mem} (h : IQ q) : ∀ j k, j < k → k < bW q → bpN q j ≠ bpN q k ∨ boN q j ≠ boN q k := h.2.2.2.2.2.2.2.2.2.2.2.2.2.1
theorem IQ.pv {q : Mem} (h : IQ q) : ∀ i p, i < 12 → p < 10 → hs q i p = true → ptO (q (18 + 4 * i + 1) p) := h.2.2.2.2.2.2.2.2.2.2.2.2.2.2
theorem IQ.st1 {q : Mem} (hI : IQ q) {i : Nat} (hi : i < nO q) : 1 ≤ stN q i := by
  obtain ⟨h1, h2, h3⟩ := hI.rm i hi
  show 1 ≤ tn (q (18 + 4 * i) 3)
  rw [h3]
  exact (hI.rs _ h2).2
def inR (v lo hi : Int32) : Bool := decide (¬ v < lo) && decide (¬ hi < v)
theorem inR_n {v N : Int32} {k : Nat} (h : N = nI k) (hk : k ≤ 12) : inR v 0 (N - 1) = inB v N := by
  subst h
  unfold inR inB
  cases hv : decide (¬ v < 0) with
  | false => rfl
  | true =>
    rw [Bool.true_and, Bool.true_and]
    have h0 : (0 : Int32).toInt = 0 := by decide
    have e : (nI k - 1).toInt = (k : Int) - 1 := by
      have : ∀ k, k < 13 → (nI k - 1).toInt = (k : Int) - 1 := by decide
      exact this k (by omega)
    have e2 : (nI k).toInt = (k : Int) := nI_toInt (by omega)
    apply decide_eq_decide.mpr
    rw [Int32.lt_iff_toInt_lt, Int32.lt_iff_toInt_lt, e, e2]
    omega
theorem ag_t {q : Mem} {f c : Nat} (h1 : q (3 + (0 * 3 + f)) c = q (3 + (1 * 3 + f)) c) (h2 : q (3 + (0 * 3 + f)) c = q (3 + (2 * 3 + f)) c) : agB q f c = true := by
  have e1 : agN q f c 0 = false := by
    have : ¬ ¬ q (3 + ((0 + 1) * 3 + f)) c = q (3 + (0 * 3 + f)) c := fun z => z h1.symm
    exact decide_eq_false this
  have e2 : agN q f c 1 = false := by
    have : ¬ ¬ q (3 + ((1 + 1) * 3 + f)) c = q (3 + (0 * 3 + f)) c := fun z => z h2.symm
    exact decide_eq_false this
  simp [agB, anyN, e1, e2]
theorem ag_f1 {q : Mem} {f c : Nat} (h1 : ¬ q (3 + (0 * 3 + f)) c = q (3 + (1 * 3 + f)) c) : agB q f c = false := by
  have e1 : agN q f c 0 = true := decide_eq_true (p := ¬ q (3 + ((0 + 1) * 3 + f)) c = q (3 + (0 * 3 + f)) c) (fun z => h1 z.symm)
  simp [agB, anyN, e1]
theorem ag_f2 {q : Mem} {f c : Nat} (h1 : ¬ q (3 + (0 * 3 + f)) c = q (3 + (2 * 3 + f)) c) : agB q f c = false := by
  have e1 : agN q f c 1 = true := decide_eq_true (p := ¬ q (3 + ((1 + 1) * 3 + f)) c = q (3 + (0 * 3 + f)) c) (fun z => h1 z.symm)
  simp [agB, anyN, e1]
/-- who meets a seat of k where one of i is wanted -/
def mtB (q : Mem) (p i k : Nat) : Bool := (isOfB q k (q (18 + 4 * i) 0) (q (18 + 4 * i) 4) || decide (q (18 + 4 * k) 1 = q (18 + 4 * i) 1)) && hs q k p
def frB (q : Mem) (p i : Nat) : Bool := !anyN (mtB q p i) (nO q)
def dsB (q : Mem) (p i : Nat) (V : Int32) : Bool := mayB q i p && frB q p i && decide (¬ q 67 p < V)
theorem anyN_or {f g : Nat → Bool} {n : Nat} : anyN (fun k => f k || g k) n = (anyN f n || anyN g n) := by
  induction n with
  | zero => rfl
  | succ n ih =>
    simp only [anyN, ih]
    cases anyN f n <;> cases anyN g n <;> cases f n <;> cases g n <;> rfl
theorem frB_e {q : Mem} {p i : Nat} : frB q p i = (!anyN (hfB q p (q (18 + 4 * i) 0) (q (18 + 4 * i) 4)) (nO q) && !anyN (haB q p (q (18 + 4 * i) 1)) (nO q)) := by
  unfold frB
  rw [← Bool.not_or, ← anyN_or]
  congr 1
  apply anyN_congr
  intro k _
  simp only [mtB, hfB, haB]
  cases isOfB q k (q (18 + 4 * i) 0) (q (18 + 4 * i) 4) <;> cases decide (q (18 + 4 * k) 1 = q (18 + 4 * i) 1) <;> cases hs q k p <;> rfl
theorem nos_e {q : Mem} {i p : Nat} {V : Int32} : nos q i p V = (!clB q i && dsB q p i V) := by
  unfold nos dsB
  rw [frB_e]
  cases clB q i <;> cases decide (¬ q 67 p < V) <;> cases mayB q i p <;> simp
theorem cntN_ext {f : Nat → Bool} {n k : Nat} (hn : n ≤ k) (h : ∀ j, n ≤ j → j < k → f j = false) : cntN f k = cntN f n := by
  induction k with
  | zero => have : n = 0 := by omega
            subst this; rfl
  | succ k ih =>
    by_cases e : n = k + 1
    · subst e; rfl
    · rw [cntN, h k (by omega) (by omega), ih (by omega) (fun j h1 h2 => h j h1 (by omega))]; rfl
theorem cntN_nP {q : Mem} (hW : WC q) (hI : IQ q) {i : Nat} (hi : i < 12) : cntN (hs q i) (nP q) = nTaken q i :=
  (cntN_ext hW.pl (fun p h1 h2 => (hI.pb p h1 h2).1 i hi)).symm
theorem fI_s {f : Nat → Bool} {k : Nat} (h : f k = false) : fI f (k + 1) = fI f k := by
  unfold fI
  rw [firN, h]
  have := firN_le f k
  by_cases h1 : firN f k < k
  · rw [if_pos h1, if_pos h1, if_pos (by omega)]
  · rw [if_neg h1, if_neg h1, if_neg (by simp)]
theorem fI_t {f : Nat → Bool} {k : Nat} (h : f k = true) (h0 : ∀ j, j < k → f j = false) : fI f (k + 1) = nI k := by
  have e : firN f k = k := by
    rcases Nat.lt_or_ge (firN f k) k with g | g
    · have := firN_yes g
      rw [h0 _ g] at this; cases this
    · have := firN_le f k; omega
  unfold fI
  have e2 : firN f (k + 1) = k := by rw [firN, if_neg (by omega), if_pos h]
  rw [e2, if_pos (by omega)]

set_option maxHeartbeats 4000000 in
set_option maxRecDepth 100000 in
theorem c_X4_thrown {l : Launch} {x : Sh} {a b : Mem} {o : Out} (hfl : l.stackTraces = false)  : MG l x yX4_thrown cX4_thrown 1 (some .int) 0 40 [.ref (x.2.1 70)] a b o (QI x o (FI (b 70 0) a b)) := by
  refine MG.of (maxL := 1) (ret := (some .int)) hfl (by decide) [some (.ref (x.2.1 70))] rfl rfl (Nat.le_of_ble_eq_true rfl) ?_
  intro pP eE sS mM argsA belowB methM cC C hr
  refine V_aload_n C dX4_thrown_0 rfl ?_
  refine gt_X4_thrown C fk_X4_59 dX4_thrown_1 ?_
  exact V_ireti C hr dX4_thrown_4 ⟨rfl, rfl, rfl⟩
set_option maxHeartbeats 4000000 in
set_option maxRecDepth 100000 in
theorem c_X4_in {l : Launch} {x : Sh} {a b : Mem} {o : Out} (hfl : l.stackTraces = false) {v lo hi : Int32} : MG l x yX4_in cX4_in 3 (some .boolean) 0 40 [.int v, .int lo, .int hi] a b o (QI x o (FI (bI (inR v lo hi)) a b)) := by
  refine MG.of (maxL := 3) (ret := (some .boolean)) hfl (by decide) [some (.int v), some (.int lo), some (.int hi)] rfl rfl (Nat.le_of_ble_eq_true rfl) ?_
  intro pP eE sS mM argsA belowB methM cC C hr
  refine V_iload_n C dX4_in_0 rfl ?_
  refine V_iload_n C dX4_in_1 rfl ?_
  refine V_icmp_lt C 14 dX4_in_2 (by decide) (fun h2 => ?_) (fun h2 => ?_)
  · refine V_iconst (v := 0) C dX4_in_14 (by decide) ?_
    exact V_iretz C hr (by first | exact Or.inl rfl | exact Or.inr rfl | exact bI_or _) dX4_in_15 ⟨by first | (simp [inR, bI, h2, h7]; done) | (simp [inR, bI, h2]; done), rfl, rfl⟩
  · refine V_iload_n C dX4_in_5 rfl ?_
    refine V_iload_n C dX4_in_6 rfl ?_
    refine V_icmp_gt C 14 dX4_in_7 (by decide) (fun h7 => ?_) (fun h7 => ?_)
    · refine V_iconst (v := 0) C dX4_in_14 (by decide) ?_
      exact V_iretz C hr (by first | exact Or.inl rfl | exact Or.inr rfl | exact bI_or _) dX4_in_15 ⟨by first | (simp [inR, bI, h2, h7]; done) | (simp [inR, bI, h2]; done), rfl, rfl⟩
    · refine V_iconst (v := 1) C dX4_in_10 (by decide) ?_
      refine V_goto C 15 dX4_in_11 (by decide) ?_
      exact V_iretz C hr (by first | exact Or.inl rfl | exact Or.inr rfl | exact bI_or _) dX4_in_15 ⟨by first | (simp [inR, bI, h2, h7]; done) | (simp [inR, bI, h2]; done), rfl, rfl⟩
set_option maxHeartbeats 4000000 in
set_option maxRecDepth 100000 in
theorem c_X4_isPupil {l : Launch} {x : Sh} {a b : Mem} {o : Out} (hfl : l.stackTraces = false) {q : Mem} (hW : WC q) (hI : IQ q) (hR : RR q b) {v : Int32} : MG l x yX4_isPupil cX4_isPupil 2 (some .boolean) 1 80 [.ref (x.2.1 70), .int v] a b o (QI x o (FI (bI (inB v (q 0 9))) a b)) := by
  refine MG.of (maxL := 2) (ret := (some .boolean)) hfl (by decide) [some (.ref (x.2.1 70)), some (.int v)] rfl rfl (Nat.le_of_ble_eq_true rfl) ?_
  intro pP eE sS mM argsA belowB methM cC C hr
  refine V_iload_n C dX4_isPupil_0 rfl ?_
  refine V_iconst (v := 0) C dX4_isPupil_1 (by decide) ?_
  refine V_aload_n C dX4_isPupil_2 rfl ?_
  refine gt_X4_pupils C fk_X4_63 dX4_isPupil_3 ?_
  refine V_iconst (v := 1) C dX4_isPupil_6 (by decide) ?_
  refine V_isub C dX4_isPupil_7 ?_
  refine V_callf (R_S C (c_X4_in hfl) mi_X4_in mk_X4_66 rfl (by decide) rfl (Nat.le_of_ble_eq_true rfl) (by decide) dX4_isPupil_8) ?_
  exact V_iretz C hr (by first | exact Or.inl rfl | exact Or.inr rfl | exact bI_or _) dX4_isPupil_11 ⟨by rw [hR.c3, inR_n hW.pe (by have := hW.pl; omega)], rfl, rfl⟩
set_option maxHeartbeats 4000000 in
set_option maxRecDepth 100000 in
theorem c_X4_isExam {l : Launch} {x : Sh} {a b : Mem} {o : Out} (hfl : l.stackTraces = false) {q : Mem} (hW : WC q) (hI : IQ q) (hR : RR q b) {v : Int32} : MG l x yX4_isExam cX4_isExam 2 (some .boolean) 1 80 [.ref (x.2.1 70), .int v] a b o (QI x o (FI (bI (inB v (q 0 8))) a b)) := by
  refine MG.of (maxL := 2) (ret := (some .boolean)) hfl (by decide) [some (.ref (x.2.1 70)), some (.int v)] rfl rfl (Nat.le_of_ble_eq_true rfl) ?_
  intro pP eE sS mM argsA belowB methM cC C hr
  refine V_iload_n C dX4_isExam_0 rfl ?_
  refine V_iconst (v := 0) C dX4_isExam_1 (by decide) ?_
  refine V_aload_n C dX4_isExam_2 rfl ?_
  refine gt_X4_exams C fk_X4_70 dX4_isExam_3 ?_
  refine V_iconst (v := 1) C dX4_isExam_6 (by decide) ?_
  refine V_isub C dX4_isExam_7 ?_
  refine V_callf (R_S C (c_X4_in hfl) mi_X4_in mk_X4_66 rfl (by decide) rfl (Nat.le_of_ble_eq_true rfl) (by decide) dX4_isExam_8) ?_
  exact V_iretz C hr (by first | exact Or.inl rfl | exact Or.inr rfl | exact bI_or _) dX4_isExam_11 ⟨by rw [hR.c2, inR_n hW.ee (by have := hW.el; omega)], rfl, rfl⟩
set_option maxHeartbeats 4000000 in
set_option maxRecDepth 100000 in
theorem c_X4_isOffer {l : Launch} {x : Sh} {a b : Mem} {o : Out} (hfl : l.stackTraces = false) {q : Mem} (hW : WC q) (hI : IQ q) (hR : RR q b) {v : Int32} : MG l x yX4_isOffer cX4_isOffer 2 (some .boolean) 1 80 [.ref (x.2.1 70), .int v] a b o (QI x o (FI (bI (inB v (q 0 10))) a b)) := by
  refine MG.of (maxL := 2) (ret := (some .boolean)) hfl (by decide) [some (.ref (x.2.1 70)), some (.int v)] rfl rfl (Nat.le_of_ble_eq_true rfl) ?_
  intro pP eE sS mM argsA belowB methM cC C hr
  refine V_iload_n C dX4_isOffer_0 rfl ?_
  refine V_iconst (v := 0) C dX4_isOffer_1 (by decide) ?_
  refine V_aload_n C dX4_isOffer_2 rfl ?_
  refine gt_X4_offers C fk_X4_73 dX4_isOffer_3 ?_
  refine V_iconst (v := 1) C dX4_isOffer_6 (by decide) ?_
  refine V_isub C dX4_isOffer_7 ?_
  refine V_callf (R_S C (c_X4_in hfl) mi_X4_in mk_X4_66 rfl (by decide) rfl (Nat.le_of_ble_eq_true rfl) (by decide) dX4_isOffer_8) ?_
  exact V_iretz C hr (by first | exact Or.inl rfl | exact Or.inr rfl | exact bI_or _) dX4_isOffer_11 ⟨by rw [hR.c4, inR_n hW.oe (by have := hW.ol; omega)], rfl, rfl⟩
set_option maxHeartbeats 4000000 in
set_option maxRecDepth 100000 in
theorem c_X4_isStore {l : Launch} {x : Sh} {a b : Mem} {o : Out} (hfl : l.stackTraces = false) {v : Int32} : MG l x yX4_isStore cX4_isStore 1 (some .boolean) 1 80 [.int v] a b o (QI x o (FI (bI (inB v 3)) a b)) := by
  refine MG.of (maxL := 1) (ret := (some .boolean)) hfl (by decide) [some (.int v)] rfl rfl (Nat.le_of_ble_eq_true rfl) ?_
  intro pP eE sS mM argsA belowB methM cC C hr
  refine V_iload_n C dX4_isStore_0 rfl ?_
  refine V_iconst (v := 0) C dX4_isStore_1 (by decide) ?_
  refine V_iconst (v := 2) C dX4_isStore_2 (by decide) ?_
  refine V_callf (R_S C (c_X4_in hfl) mi_X4_in mk_X4_66 rfl (by decide) rfl (Nat.le_of_ble_eq_true rfl) (by decide) dX4_isStore_3) ?_
  exact V_iretz C hr (by first | exact Or.inl rfl | exact Or.inr rfl | exact bI_or _) dX4_isStore_6 ⟨congrArg bI (inR_n (N := 3) (k := 3) rfl (by omega)), rfl, rfl⟩
set_option maxHeartbeats 4000000 in
set_option maxRecDepth 100000 in
theorem c_X4_isSlot {l : Launch} {x : Sh} {a b : Mem} {o : Out} (hfl : l.stackTraces = false) {v : Int32} : MG l x yX4_isSlot cX4_isSlot 1 (some .boolean) 1 80 [.int v] a b o (QI x o (FI (bI (inB v 6)) a b)) := by
  refine MG.of (maxL := 1) (ret := (some .boolean)) hfl (by decide) [some (.int v)] rfl rfl (Nat.le_of_ble_eq_true rfl) ?_
  intro pP eE sS mM argsA belowB methM cC C hr
  refine V_iload_n C dX4_isSlot_0 rfl ?_
  refine V_iconst (v := 0) C dX4_isSlot_1 (by decide) ?_
  refine V_iconst (v := 5) C dX4_isSlot_2 (by decide) ?_
  refine V_callf (R_S C (c_X4_in hfl) mi_X4_in mk_X4_66 rfl (by decide) rfl (Nat.le_of_ble_eq_true rfl) (by decide) dX4_isSlot_3) ?_
  exact V_iretz C hr (by first | exact Or.inl rfl | exact Or.inr rfl | exact bI_or _) dX4_isSlot_6 ⟨congrArg bI (inR_n (N := 6) (k := 6) rfl (by omega)), rfl, rfl⟩
set_option maxHeartbeats 4000000 in
set_option maxRecDepth 100000 in
theorem c_X4_fieldOf {l : Launch} {x : Sh} {a b : Mem} {o : Out} (hfl : l.stackTraces = false) {f : Int32} : MG l x yX4_fieldOf cX4_fieldOf 1 (some .int) 0 40 [.int f] a b o (QI x o (FI (if fOk f = true then nI (fNat f) else -1) a b)) := by
  refine MG.of (maxL := 1) (ret := (some .int)) hfl (by decide) [some (.int f)] rfl rfl (Nat.le_of_ble_eq_true rfl) ?_
  intro pP eE sS mM argsA belowB methM cC C hr
  refine V_iload_n C dX4_fieldOf_0 rfl ?_
  refine V_bipush (v := 114) C dX4_fieldOf_1 (by decide) ?_
  refine V_icmp_ne C 10 dX4_fieldOf_3 (by decide) (fun h3 => ?_) (fun h3 => ?_)
  · refine V_iload_n C dX4_fieldOf_10 rfl ?_
    refine V_bipush (v := 109) C dX4_fieldOf_11 (by decide) ?_
    refine V_icmp_ne C 20 dX4_fieldOf_13 (by decide) (fun h13 => ?_) (fun h13 => ?_)
    · refine V_iload_n C dX4_fieldOf_20 rfl ?_
      refine V_bipush (v := 120) C dX4_fieldOf_21 (by decide) ?_
      refine V_icmp_ne C 30 dX4_fieldOf_23 (by decide) (fun h23 => ?_) (fun h23 => ?_)
      · refine V_iconst (v := -1) C dX4_fieldOf_30 (by decide) ?_
        exact V_ireti C hr dX4_fieldOf_31 ⟨by first | (simp [fOk, fNat, h3]; done) | (simp [fOk, fNat, h3, h13]; done) | (simp [fOk, fNat, h3, h13, h23]; done), rfl, rfl⟩
      · have h23 : f = 120 := by simpa using h23
        refine V_iconst (v := nI 2) C dX4_fieldOf_26 (by decide) ?_
        refine V_goto C 31 dX4_fieldOf_27 (by decide) ?_
        exact V_ireti C hr dX4_fieldOf_31 ⟨by first | (simp [fOk, fNat, h3]; done) | (simp [fOk, fNat, h3, h13]; done) | (simp [fOk, fNat, h3, h13, h23]; done), rfl, rfl⟩
    · have h13 : f = 109 := by simpa using h13
      refine V_iconst (v := nI 1) C dX4_fieldOf_16 (by decide) ?_
      refine V_goto C 31 dX4_fieldOf_17 (by decide) ?_
      exact V_ireti C hr dX4_fieldOf_31 ⟨by first | (simp [fOk, fNat, h3]; done) | (simp [fOk, fNat, h3, h13]; done) | (simp [fOk, fNat, h3, h13, h23]; done), rfl, rfl⟩
  · have h3 : f = 114 := by simpa using h3
    refine V_iconst (v := nI 0) C dX4_fieldOf_6 (by decide) ?_
    refine V_goto C 31 dX4_fieldOf_7 (by decide) ?_
    exact V_ireti C hr dX4_fieldOf_31 ⟨by first | (simp [fOk, fNat, h3]; done) | (simp [fOk, fNat, h3, h13]; done) | (simp [fOk, fNat, h3, h13, h23]; done), rfl, rfl⟩
set_option maxHeartbeats 4000000 in
set_option maxRecDepth 100000 in
theorem c_X4_cell {l : Launch} {x : Sh} {a b : Mem} {o : Out} (hfl : l.stackTraces = false) {s p e f : Nat} : MG l x yX4_cell cX4_cell 4 (some .int) 0 40 [.int (nI s), .int (nI p), .int (nI e), .int (nI f)] a b o (QI x o (FI (nI (((s * 10 + p) * 6 + e) * 3 + f)) a b)) := by
  refine MG.of (maxL := 4) (ret := (some .int)) hfl (by decide) [some (.int (nI s)), some (.int (nI p)), some (.int (nI e)), some (.int (nI f))] rfl rfl (Nat.le_of_ble_eq_true rfl) ?_
  intro pP eE sS mM argsA belowB methM cC C hr
  refine V_iload_n C dX4_cell_0 rfl ?_
  refine V_bipush (v := nI 10) C dX4_cell_1 (by decide) ?_
  refine V_imul C dX4_cell_3 ?_
  refine V_topi (pk_mul _ _) ?_
  refine V_iload_n C dX4_cell_4 rfl ?_
  refine V_iadd C dX4_cell_5 ?_
  refine V_topi (nI_add _ _) ?_
  refine V_bipush (v := nI 6) C dX4_cell_6 (by decide) ?_
  refine V_imul C dX4_cell_8 ?_
  refine V_topi (pk_mul _ _) ?_
  refine V_iload_n C dX4_cell_9 rfl ?_
  refine V_iadd C dX4_cell_10 ?_
  refine V_topi (nI_add _ _) ?_
  refine V_iconst (v := nI 3) C dX4_cell_11 (by decide) ?_
  refine V_imul C dX4_cell_12 ?_
  refine V_topi (pk_mul _ _) ?_
  refine V_iload_n C dX4_cell_13 rfl ?_
  refine V_iadd C dX4_cell_14 ?_
  refine V_topi (nI_add _ _) ?_
  exact V_ireti C hr dX4_cell_15 ⟨rfl, rfl, rfl⟩
set_option maxHeartbeats 4000000 in
set_option maxRecDepth 100000 in
theorem c_X4_pair {l : Launch} {x : Sh} {a b : Mem} {o : Out} (hfl : l.stackTraces = false) {p i : Nat} : MG l x yX4_pair cX4_pair 2 (some .int) 0 40 [.int (nI p), .int (nI i)] a b o (QI x o (FI (nI (p * 12 + i)) a b)) := by
  refine MG.of (maxL := 2) (ret := (some .int)) hfl (by decide) [some (.int (nI p)), some (.int (nI i))] rfl rfl (Nat.le_of_ble_eq_true rfl) ?_
  intro pP eE sS mM argsA belowB methM cC C hr
  refine V_iload_n C dX4_pair_0 rfl ?_
  refine V_bipush (v := nI 12) C dX4_pair_1 (by decide) ?_
  refine V_imul C dX4_pair_3 ?_
  refine V_topi (pk_mul _ _) ?_
  refine V_iload_n C dX4_pair_4 rfl ?_
  refine V_iadd C dX4_pair_5 ?_
  refine V_topi (nI_add _ _) ?_
  exact V_ireti C hr dX4_pair_6 ⟨rfl, rfl, rfl⟩
set_option maxHeartbeats 4000000 in
set_option maxRecDepth 100000 in
theorem c_X4_isTaken {l : Launch} {x : Sh} {a b : Mem} {o : Out} (hfl : l.stackTraces = false) {q : Mem} (hW : WC q) (hI : IQ q) (hR : RR q b) {r s : Int32} : MG l x yX4_isTaken cX4_isTaken 5 (some .boolean) 0 40 [.ref (x.2.1 70), .int r, .int s] a b o (QI x o (FI (bI (anyN (rtB q r s) (nO q))) a b)) := by
  refine MG.of (maxL := 5) (ret := (some .boolean)) hfl (by decide) [some (.ref (x.2.1 70)), some (.int r), some (.int s), none, none] rfl rfl (Nat.le_of_ble_eq_true rfl) ?_
  intro pP eE sS mM argsA belowB methM cC C hr
  have ho12 := hW.ol
  refine V_iconst (v := 0) C dX4_isTaken_0 (by decide) ?_
  refine V_istore_n3 C dX4_isTaken_1 (by decide) ?_
  refine V_iconst (v := 0) C dX4_isTaken_2 (by decide) ?_
  refine V_istore_4 C dX4_isTaken_3 (by decide) ?_
  have L5 : ∀ (fuel : Nat) (k : Nat), k ≤ nO q → nO q - k < fuel → VV pP l eE ({ frames := 0, cells := 0, slots := 0, locals := 40 } : Room) sS mM argsA belowB methM cC (MQ belowB (QI x o (FI (bI (anyN (rtB q r s) (nO q))) a b) sS.heap.size) argsA sS 0 0 (AW x sS.heap.size)) x 5 a b o 0 0 5 [some (.ref (x.2.1 70)), some (.int r), some (.int s), some (.int (bI (anyN (rtB q r s) k))), some (.int (nI k))] [] := by
    intro fuel
    induction fuel with
    | zero => intro k hk hm; exact absurd hm (Nat.not_lt_zero _)
    | succ fuel ih5 =>
      intro k hk hm
      refine V_iload C dX4_isTaken_5 rfl ?_
      refine V_aload_n C dX4_isTaken_7 rfl ?_
      refine gt_X4_offers C fk_X4_73 dX4_isTaken_8 ?_
      refine V_topi (hR.c4.trans hW.oe) ?_
      refine V_lt C 52 dX4_isTaken_11 (by decide) (by omega) (by omega) (fun h11 => ?_) (fun h11 => ?_)
      · have e9 : k = nO q := by omega
        subst e9
        refine V_iload_n C dX4_isTaken_52 rfl ?_
        exact V_iretz C hr (by first | exact Or.inl rfl | exact Or.inr rfl | exact bI_or _) dX4_isTaken_53 ⟨rfl, rfl, rfl⟩
      · refine V_iload_n C dX4_isTaken_14 rfl ?_
        refine V_ifb_ne C 40 dX4_isTaken_15 (by decide) (fun h15 => ?_) (fun h15 => ?_)
        · refine V_iconst (v := 1) C dX4_isTaken_40 (by decide) ?_
          refine V_goto C 45 dX4_isTaken_41 (by decide) ?_
          refine V_istore_n3 C dX4_isTaken_45 (by decide) ?_
          refine V_iinc_4 C _ dX4_isTaken_46 (nI_1 _) (by decide) ?_
          refine V_goto C 5 dX4_isTaken_49 (by decide) ?_
          have ih := ih5 (k + 1) (by omega) (by omega)
          first
            | (rw [show anyN (rtB q r s) (k + 1) = true by (first | (simp [anyN, h15]; done) | (simp [anyN, rtB, h26, h37]; done))] at ih; exact ih)
            | (rw [show anyN (rtB q r s) (k + 1) = false by (first | (simp [anyN, h15, rtB, h26]; done) | (simp [anyN, h15, rtB, h37]; done))] at ih; exact ih)
        · refine V_aload_n C dX4_isTaken_18 rfl ?_
          refine gt_X4_room C fk_X4_19 dX4_isTaken_19 ?_
          refine V_iload C dX4_isTaken_22 rfl ?_
          refine la_m_room C _ rfl (by omega) dX4_isTaken_24 ?_
          refine V_topi (hR.rm (by omega)) ?_
          refine V_iload_n C dX4_isTaken_25 rfl ?_
          refine V_icmp_ne C 44 dX4_isTaken_26 (by decide) (fun h26 => ?_) (fun h26 => ?_)
          · refine V_iconst (v := 0) C dX4_isTaken_44 (by decide) ?_
            refine V_istore_n3 C dX4_isTaken_45 (by decide) ?_
            refine V_iinc_4 C _ dX4_isTaken_46 (nI_1 _) (by decide) ?_
            refine V_goto C 5 dX4_isTaken_49 (by decide) ?_
            have ih := ih5 (k + 1) (by omega) (by omega)
            first
              | (rw [show anyN (rtB q r s) (k + 1) = true by (first | (simp [anyN, h15]; done) | (simp [anyN, rtB, h26, h37]; done))] at ih; exact ih)
              | (rw [show anyN (rtB q r s) (k + 1) = false by (first | (simp [anyN, h15, rtB, h26]; done) | (simp [anyN, h15, rtB, h37]; done))] at ih; exact ih)
          · refine V_aload_n C dX4_isTaken_29 rfl ?_
            refine gt_X4_slot C fk_X4_16 dX4_isTaken_30 ?_
            refine V_iload C dX4_isTaken_33 rfl ?_
            refine la_m_slot C _ rfl (by omega) dX4_isTaken_35 ?_
            refine V_topi (hR.sl (by omega)) ?_
            refine V_iload_n C dX4_isTaken_36 rfl ?_
            refine V_icmp_ne C 44 dX4_isTaken_37 (by decide) (fun h37 => ?_) (fun h37 => ?_)
            · refine V_iconst (v := 0) C dX4_isTaken_44 (by decide) ?_
              refine V_istore_n3 C dX4_isTaken_45 (by decide) ?_
              refine V_iinc_4 C _ dX4_isTaken_46 (nI_1 _) (by decide) ?_
              refine V_goto C 5 dX4_isTaken_49 (by decide) ?_
              have ih := ih5 (k + 1) (by omega) (by omega)
              first
                | (rw [show anyN (rtB q r s) (k + 1) = true by (first | (simp [anyN, h15]; done) | (simp [anyN, rtB, h26, h37]; done))] at ih; exact ih)
                | (rw [show anyN (rtB q r s) (k + 1) = false by (first | (simp [anyN, h15, rtB, h26]; done) | (simp [anyN, h15, rtB, h37]; done))] at ih; exact ih)
            · refine V_iconst (v := 1) C dX4_isTaken_40 (by decide) ?_
              refine V_goto C 45 dX4_isTaken_41 (by decide) ?_
              refine V_istore_n3 C dX4_isTaken_45 (by decide) ?_
              refine V_iinc_4 C _ dX4_isTaken_46 (nI_1 _) (by decide) ?_
              refine V_goto C 5 dX4_isTaken_49 (by decide) ?_
              have ih := ih5 (k + 1) (by omega) (by omega)
              first
                | (rw [show anyN (rtB q r s) (k + 1) = true by (first | (simp [anyN, h15]; done) | (simp [anyN, rtB, h26, h37]; done))] at ih; exact ih)
                | (rw [show anyN (rtB q r s) (k + 1) = false by (first | (simp [anyN, h15, rtB, h26]; done) | (simp [anyN, h15, rtB, h37]; done))] at ih; exact ih)
  exact L5 _ 0 (Nat.zero_le _) (Nat.lt_succ_self _)
set_option maxHeartbeats 4000000 in
set_option maxRecDepth 100000 in
theorem c_X4_agree {l : Launch} {x : Sh} {a b : Mem} {o : Out} (hfl : l.stackTraces = false) {q : Mem} (hW : WC q) (hI : IQ q) (hR : RR q b) {p e f : Nat} (hp : p < 10) (he : e < 6) (hf : f < 3) : MG l x yX4_agree cX4_agree 5 (some .boolean) 1 80 [.ref (x.2.1 70), .int (nI p), .int (nI e), .int (nI f)] a b o (QI x o (FI (bI (agB q f (p * 6 + e))) a b)) := by
  refine MG.of (maxL := 5) (ret := (some .boolean)) hfl (by decide) [some (.ref (x.2.1 70)), some (.int (nI p)), some (.int (nI e)), some (.int (nI f)), none] rfl rfl (Nat.le_of_ble_eq_true rfl) ?_
  intro pP eE sS mM argsA belowB methM cC C hr
  refine V_aload_n C dX4_agree_0 rfl ?_
  refine gt_X4_value C fk_X4_44 dX4_agree_1 ?_
  refine V_iconst (v := nI 0) C dX4_agree_4 (by decide) ?_
  refine V_iload_n C dX4_agree_5 rfl ?_
  refine V_iload_n C dX4_agree_6 rfl ?_
  refine V_iload_n C dX4_agree_7 rfl ?_
  refine V_callf (R_S C (c_X4_cell hfl) mi_X4_cell mk_X4_103 rfl (by decide) rfl (Nat.le_of_ble_eq_true rfl) (by decide) dX4_agree_8) ?_
  refine la_m_value C _ rfl (by omega) dX4_agree_11 ?_
  refine V_topi (hR.vl (by omega) hp he hf) ?_
  refine V_istore_4 C dX4_agree_12 (by decide) ?_
  refine V_iload C dX4_agree_14 rfl ?_
  refine V_aload_n C dX4_agree_16 rfl ?_
  refine gt_X4_value C fk_X4_44 dX4_agree_17 ?_
  refine V_iconst (v := nI 1) C dX4_agree_20 (by decide) ?_
  refine V_iload_n C dX4_agree_21 rfl ?_
  refine V_iload_n C dX4_agree_22 rfl ?_
  refine V_iload_n C dX4_agree_23 rfl ?_
  refine V_callf (R_S C (c_X4_cell hfl) mi_X4_cell mk_X4_103 rfl (by decide) rfl (Nat.le_of_ble_eq_true rfl) (by decide) dX4_agree_24) ?_
  refine la_m_value C _ rfl (by omega) dX4_agree_27 ?_
  refine V_topi (hR.vl (by omega) hp he hf) ?_
  refine V_icmp_ne C 52 dX4_agree_28 (by decide) (fun h28 => ?_) (fun h28 => ?_)
  · refine V_iconst (v := 0) C dX4_agree_52 (by decide) ?_
    exact V_iretz C hr (by first | exact Or.inl rfl | exact Or.inr rfl | exact bI_or _) dX4_agree_53 ⟨by first | rw [ag_t (by simpa using h28) (by simpa using h45)]; rfl | rw [ag_f1 h28]; rfl | rw [ag_f2 h45]; rfl, rfl, rfl⟩
  · refine V_iload C dX4_agree_31 rfl ?_
    refine V_aload_n C dX4_agree_33 rfl ?_
    refine gt_X4_value C fk_X4_44 dX4_agree_34 ?_
    refine V_iconst (v := nI 2) C dX4_agree_37 (by decide) ?_
    refine V_iload_n C dX4_agree_38 rfl ?_
    refine V_iload_n C dX4_agree_39 rfl ?_
    refine V_iload_n C dX4_agree_40 rfl ?_
    refine V_callf (R_S C (c_X4_cell hfl) mi_X4_cell mk_X4_103 rfl (by decide) rfl (Nat.le_of_ble_eq_true rfl) (by decide) dX4_agree_41) ?_
    refine la_m_value C _ rfl (by omega) dX4_agree_44 ?_
    refine V_topi (hR.vl (by omega) hp he hf) ?_
    refine V_icmp_ne C 52 dX4_agree_45 (by decide) (fun h45 => ?_) (fun h45 => ?_)
    · refine V_iconst (v := 0) C dX4_agree_52 (by decide) ?_
      exact V_iretz C hr (by first | exact Or.inl rfl | exact Or.inr rfl | exact bI_or _) dX4_agree_53 ⟨by first | rw [ag_t (by simpa using h28) (by simpa using h45)]; rfl | rw [ag_f1 h28]; rfl | rw [ag_f2 h45]; rfl, rfl, rfl⟩
    · refine V_iconst (v := 1) C dX4_agree_48 (by decide) ?_
      refine V_goto C 53 dX4_agree_49 (by decide) ?_
      exact V_iretz C hr (by first | exact Or.inl rfl | exact Or.inr rfl | exact bI_or _) dX4_agree_53 ⟨by first | rw [ag_t (by simpa using h28) (by simpa using h45)]; rfl | rw [ag_f1 h28]; rfl | rw [ag_f2 h45]; rfl, rfl, rfl⟩
set_option maxHeartbeats 4000000 in
set_option maxRecDepth 100000 in
theorem c_X4_sits {l : Launch} {x : Sh} {a b : Mem} {o : Out} (hfl : l.stackTraces = false) {q : Mem} (hW : WC q) (hI : IQ q) (hR : RR q b) {p e : Nat} (hp : p < 10) (he : e < 6) : MG l x yX4_sits cX4_sits 3 (some .boolean) 2 120 [.ref (x.2.1 70), .int (nI p), .int (nI e)] a b o (QI x o (FI (bI (rgB q p e)) a b)) := by
  refine MG.of (maxL := 3) (ret := (some .boolean)) hfl (by decide) [some (.ref (x.2.1 70)), some (.int (nI p)), some (.int (nI e))] rfl rfl (Nat.le_of_ble_eq_true rfl) ?_
  intro pP eE sS mM argsA belowB methM cC C hr
  refine V_aload_n C dX4_sits_0 rfl ?_
  refine V_iload_n C dX4_sits_1 rfl ?_
  refine V_iload_n C dX4_sits_2 rfl ?_
  refine V_iconst (v := nI 0) C dX4_sits_3 (by decide) ?_
  refine V_callf (R_V C (c_X4_agree hfl hW hI hR hp he (by omega)) mi_X4_agree mk_X4_107 rfl (by omega) rfl (rfl : vwCl[6]? = some (RX4, TX4, 24)) (by decide) rfl (Nat.le_of_ble_eq_true rfl) (by decide) dX4_sits_4) ?_
  refine V_ifb_eq C 30 dX4_sits_7 (by decide) (fun h7 => ?_) (fun h7 => ?_)
  · refine V_iconst (v := 0) C dX4_sits_30 (by decide) ?_
    exact V_iretz C hr (by first | exact Or.inl rfl | exact Or.inr rfl | exact bI_or _) dX4_sits_31 ⟨by first | (simp [rgB, bI, h7]; done) | (simp [rgB, bI, h7, h23]; done), rfl, rfl⟩
  · refine V_aload_n C dX4_sits_10 rfl ?_
    refine gt_X4_value C fk_X4_44 dX4_sits_11 ?_
    refine V_iconst (v := nI 0) C dX4_sits_14 (by decide) ?_
    refine V_iload_n C dX4_sits_15 rfl ?_
    refine V_iload_n C dX4_sits_16 rfl ?_
    refine V_iconst (v := nI 0) C dX4_sits_17 (by decide) ?_
    refine V_callf (R_S C (c_X4_cell hfl) mi_X4_cell mk_X4_103 rfl (by decide) rfl (Nat.le_of_ble_eq_true rfl) (by decide) dX4_sits_18) ?_
    refine la_m_value C _ rfl (by omega) dX4_sits_21 ?_
    refine V_topi (show _ = q 3 (p * 6 + e) from hR.vl (by omega) hp he (by omega)) ?_
    refine V_iconst (v := 1) C dX4_sits_22 (by decide) ?_
    refine V_icmp_ne C 30 dX4_sits_23 (by decide) (fun h23 => ?_) (fun h23 => ?_)
    · refine V_iconst (v := 0) C dX4_sits_30 (by decide) ?_
      exact V_iretz C hr (by first | exact Or.inl rfl | exact Or.inr rfl | exact bI_or _) dX4_sits_31 ⟨by first | (simp [rgB, bI, h7]; done) | (simp [rgB, bI, h7, h23]; done), rfl, rfl⟩
    · refine V_iconst (v := 1) C dX4_sits_26 (by decide) ?_
      refine V_goto C 31 dX4_sits_27 (by decide) ?_
      exact V_iretz C hr (by first | exact Or.inl rfl | exact Or.inr rfl | exact bI_or _) dX4_sits_31 ⟨by first | (simp [rgB, bI, h7]; done) | (simp [rgB, bI, h7, h23]; done), rfl, rfl⟩
set_option maxHeartbeats 4000000 in
set_option maxRecDepth 100000 in
theorem c_X4_opens {l : Launch} {x : Sh} {a b : Mem} {o : Out} (hfl : l.stackTraces = false) {q : Mem} (hW : WC q) (hI : IQ q) (hR : RR q b) {p e : Nat} (hp : p < 10) (he : e < 6) : MG l x yX4_opens cX4_opens 3 (some .boolean) 2 120 [.ref (x.2.1 70), .int (nI p), .int (nI e)] a b o (QI x o (FI (bI (roB q p e)) a b)) := by
  refine MG.of (maxL := 3) (ret := (some .boolean)) hfl (by decide) [some (.ref (x.2.1 70)), some (.int (nI p)), some (.int (nI e))] rfl rfl (Nat.le_of_ble_eq_true rfl) ?_
  intro pP eE sS mM argsA belowB methM cC C hr
  refine V_aload_n C dX4_opens_0 rfl ?_
  refine V_iload_n C dX4_opens_1 rfl ?_
  refine V_iload_n C dX4_opens_2 rfl ?_
  refine V_iconst (v := nI 1) C dX4_opens_3 (by decide) ?_
  refine V_callf (R_V C (c_X4_agree hfl hW hI hR hp he (by omega)) mi_X4_agree mk_X4_107 rfl (by omega) rfl (rfl : vwCl[6]? = some (RX4, TX4, 24)) (by decide) rfl (Nat.le_of_ble_eq_true rfl) (by decide) dX4_opens_4) ?_
  refine V_ifb_eq C 35 dX4_opens_7 (by decide) (fun h7 => ?_) (fun h7 => ?_)
  · refine V_iconst (v := 0) C dX4_opens_35 (by decide) ?_
    exact V_iretz C hr (by first | exact Or.inl rfl | exact Or.inr rfl | exact bI_or _) dX4_opens_36 ⟨by first | (simp [roB, bI, h7]; done) | (simp only [inR] at h28; simp [roB, bI, h7, h28]; done) | (simp only [inR] at h28; rw [roB, h7, Bool.true_and, h28]; rfl), rfl, rfl⟩
  · refine V_aload_n C dX4_opens_10 rfl ?_
    refine gt_X4_value C fk_X4_44 dX4_opens_11 ?_
    refine V_iconst (v := nI 0) C dX4_opens_14 (by decide) ?_
    refine V_iload_n C dX4_opens_15 rfl ?_
    refine V_iload_n C dX4_opens_16 rfl ?_
    refine V_iconst (v := nI 1) C dX4_opens_17 (by decide) ?_
    refine V_callf (R_S C (c_X4_cell hfl) mi_X4_cell mk_X4_103 rfl (by decide) rfl (Nat.le_of_ble_eq_true rfl) (by decide) dX4_opens_18) ?_
    refine la_m_value C _ rfl (by omega) dX4_opens_21 ?_
    refine V_topi (show _ = q 4 (p * 6 + e) from hR.vl (by omega) hp he (by omega)) ?_
    refine V_iconst (v := 0) C dX4_opens_22 (by decide) ?_
    refine V_bipush (v := 49) C dX4_opens_23 (by decide) ?_
    refine V_callf (R_S C (c_X4_in hfl) mi_X4_in mk_X4_66 rfl (by decide) rfl (Nat.le_of_ble_eq_true rfl) (by decide) dX4_opens_25) ?_
    refine V_ifb_eq C 35 dX4_opens_28 (by decide) (fun h28 => ?_) (fun h28 => ?_)
    · refine V_iconst (v := 0) C dX4_opens_35 (by decide) ?_
      exact V_iretz C hr (by first | exact Or.inl rfl | exact Or.inr rfl | exact bI_or _) dX4_opens_36 ⟨by first | (simp [roB, bI, h7]; done) | (simp only [inR] at h28; simp [roB, bI, h7, h28]; done) | (simp only [inR] at h28; rw [roB, h7, Bool.true_and, h28]; rfl), rfl, rfl⟩
    · refine V_iconst (v := 1) C dX4_opens_31 (by decide) ?_
      refine V_goto C 36 dX4_opens_32 (by decide) ?_
      exact V_iretz C hr (by first | exact Or.inl rfl | exact Or.inr rfl | exact bI_or _) dX4_opens_36 ⟨by first | (simp [roB, bI, h7]; done) | (simp only [inR] at h28; simp [roB, bI, h7, h28]; done) | (simp only [inR] at h28; rw [roB, h7, Bool.true_and, h28]; rfl), rfl, rfl⟩
set_option maxHeartbeats 4000000 in
set_option maxRecDepth 100000 in
theorem c_X4_can {l : Launch} {x : Sh} {a b : Mem} {o : Out} (hfl : l.stackTraces = false) {q : Mem} (hW : WC q) (hI : IQ q) (hR : RR q b) {p i : Nat} (hp : p < 10) (hi : i < 12) : MG l x yX4_can cX4_can 4 (some .boolean) 3 160 [.ref (x.2.1 70), .int (nI p), .int (nI i)] a b o (QI x o (FI (bI (mayB q i p)) a b)) := by
  refine MG.of (maxL := 4) (ret := (some .boolean)) hfl (by decide) [some (.ref (x.2.1 70)), some (.int (nI p)), some (.int (nI i)), none] rfl rfl (Nat.le_of_ble_eq_true rfl) ?_
  intro pP eE sS mM argsA belowB methM cC C hr
  have he5 := hW.exl hi
  have hk2 := hW.owl (k := 1) (by omega)
  refine V_aload_n C dX4_can_0 rfl ?_
  refine gt_X4_isResit C fk_X4_22 dX4_can_1 ?_
  refine V_iload_n C dX4_can_4 rfl ?_
  refine la_m_isResit C _ rfl (by omega) dX4_can_5 ?_
  refine V_topi (hR.zz hi) ?_
  refine V_if_eq C 23 dX4_can_6 (by decide) (fun h6 => ?_) (fun h6 => ?_)
  · refine V_aload_n C dX4_can_23 rfl ?_
    refine gt_X4_value C fk_X4_44 dX4_can_24 ?_
    refine V_aload_n C dX4_can_27 rfl ?_
    refine gt_X4_owner C fk_X4_47 dX4_can_28 ?_
    refine V_iconst (v := nI 1) C dX4_can_31 (by decide) ?_
    refine la_m_owner C _ rfl (by omega) dX4_can_32 ?_
    refine V_topi ((hR.ow (by omega)).trans (hW.owe (by omega))) ?_
    refine V_iload_n C dX4_can_33 rfl ?_
    refine V_aload_n C dX4_can_34 rfl ?_
    refine gt_X4_exam C fk_X4_13 dX4_can_35 ?_
    refine V_iload_n C dX4_can_38 rfl ?_
    refine la_m_exam C _ rfl (by omega) dX4_can_39 ?_
    refine V_topi ((hR.ex hi).trans (hW.exe hi)) ?_
    refine V_iconst (v := nI 1) C dX4_can_40 (by decide) ?_
    refine V_callf (R_S C (c_X4_cell hfl) mi_X4_cell mk_X4_103 rfl (by decide) rfl (Nat.le_of_ble_eq_true rfl) (by decide) dX4_can_41) ?_
    refine la_m_value C _ rfl (by omega) dX4_can_44 ?_
    refine V_topi (hR.vl (by omega) hp (by omega) (by omega)) ?_
    refine V_iconst (v := -1) C dX4_can_45 (by decide) ?_
    refine V_icmp_ne C 53 dX4_can_46 (by decide) (fun h46 => ?_) (fun h46 => ?_)
    · refine V_iconst (v := 0) C dX4_can_53 (by decide) ?_
      refine V_istore_n3 C dX4_can_54 (by decide) ?_
      refine V_iload_n C dX4_can_55 rfl ?_
      refine V_if_eq C 77 dX4_can_56 (by decide) (fun h56 => ?_) (fun h56 => ?_)
      · refine V_iconst (v := 0) C dX4_can_77 (by decide) ?_
        exact V_iretz C hr (by first | exact Or.inl rfl | exact Or.inr rfl | exact bI_or _) dX4_can_78 ⟨by first | (simp [mayB, bI, h6, h56]; done) | (simp [mayB, bI, h6, h56, h70]; done) | (simp [mayB, bI, h6, h46]; done) | (simp [mayB, bI, h6, h46, h70]; done), rfl, rfl⟩
      · exact absurd h56 (by decide)
    · refine V_iconst (v := 1) C dX4_can_49 (by decide) ?_
      refine V_goto C 54 dX4_can_50 (by decide) ?_
      refine V_istore_n3 C dX4_can_54 (by decide) ?_
      refine V_iload_n C dX4_can_55 rfl ?_
      refine V_if_eq C 77 dX4_can_56 (by decide) (fun h56 => ?_) (fun h56 => ?_)
      · exact absurd h56 (by decide)
      · refine V_aload_n C dX4_can_59 rfl ?_
        refine V_iload_n C dX4_can_60 rfl ?_
        refine V_aload_n C dX4_can_61 rfl ?_
        refine gt_X4_exam C fk_X4_13 dX4_can_62 ?_
        refine V_iload_n C dX4_can_65 rfl ?_
        refine la_m_exam C _ rfl (by omega) dX4_can_66 ?_
        refine V_topi ((hR.ex hi).trans (hW.exe hi)) ?_
        refine V_callf (R_V C (c_X4_sits hfl hW hI hR hp (by omega)) mi_X4_sits mk_X4_113 rfl (by omega) rfl (rfl : vwCl[6]? = some (RX4, TX4, 24)) (by decide) rfl (Nat.le_of_ble_eq_true rfl) (by decide) dX4_can_67) ?_
        refine V_ifb_eq C 77 dX4_can_70 (by decide) (fun h70 => ?_) (fun h70 => ?_)
        · refine V_iconst (v := 0) C dX4_can_77 (by decide) ?_
          exact V_iretz C hr (by first | exact Or.inl rfl | exact Or.inr rfl | exact bI_or _) dX4_can_78 ⟨by first | (simp [mayB, bI, h6, h56]; done) | (simp [mayB, bI, h6, h56, h70]; done) | (simp [mayB, bI, h6, h46]; done) | (simp [mayB, bI, h6, h46, h70]; done), rfl, rfl⟩
        · refine V_iconst (v := 1) C dX4_can_73 (by decide) ?_
          refine V_goto C 78 dX4_can_74 (by decide) ?_
          exact V_iretz C hr (by first | exact Or.inl rfl | exact Or.inr rfl | exact bI_or _) dX4_can_78 ⟨by first | (simp [mayB, bI, h6, h56]; done) | (simp [mayB, bI, h6, h56, h70]; done) | (simp [mayB, bI, h6, h46]; done) | (simp [mayB, bI, h6, h46, h70]; done), rfl, rfl⟩
  · refine V_aload_n C dX4_can_9 rfl ?_
    refine V_iload_n C dX4_can_10 rfl ?_
    refine V_aload_n C dX4_can_11 rfl ?_
    refine gt_X4_exam C fk_X4_13 dX4_can_12 ?_
    refine V_iload_n C dX4_can_15 rfl ?_
    refine la_m_exam C _ rfl (by omega) dX4_can_16 ?_
    refine V_topi ((hR.ex hi).trans (hW.exe hi)) ?_
    refine V_callf (R_V C (c_X4_opens hfl hW hI hR hp (by omega)) mi_X4_opens mk_X4_110 rfl (by omega) rfl (rfl : vwCl[6]? = some (RX4, TX4, 24)) (by decide) rfl (Nat.le_of_ble_eq_true rfl) (by decide) dX4_can_17) ?_
    refine V_goto C 54 dX4_can_20 (by decide) ?_
    refine V_istore_n3 C dX4_can_54 (by decide) ?_
    refine V_iload_n C dX4_can_55 rfl ?_
    refine V_ifb_eq C 77 dX4_can_56 (by decide) (fun h56 => ?_) (fun h56 => ?_)
    · refine V_iconst (v := 0) C dX4_can_77 (by decide) ?_
      exact V_iretz C hr (by first | exact Or.inl rfl | exact Or.inr rfl | exact bI_or _) dX4_can_78 ⟨by first | (simp [mayB, bI, h6, h56]; done) | (simp [mayB, bI, h6, h56, h70]; done) | (simp [mayB, bI, h6, h46]; done) | (simp [mayB, bI, h6, h46, h70]; done), rfl, rfl⟩
    · refine V_aload_n C dX4_can_59 rfl ?_
      refine V_iload_n C dX4_can_60 rfl ?_
      refine V_aload_n C dX4_can_61 rfl ?_
      refine gt_X4_exam C fk_X4_13 dX4_can_62 ?_
      refine V_iload_n C dX4_can_65 rfl ?_
      refine la_m_exam C _ rfl (by omega) dX4_can_66 ?_
      refine V_topi ((hR.ex hi).trans (hW.exe hi)) ?_
      refine V_callf (R_V C (c_X4_sits hfl hW hI hR hp (by omega)) mi_X4_sits mk_X4_113 rfl (by omega) rfl (rfl : vwCl[6]? = some (RX4, TX4, 24)) (by decide) rfl (Nat.le_of_ble_eq_true rfl) (by decide) dX4_can_67) ?_
      refine V_ifb_eq C 77 dX4_can_70 (by decide) (fun h70 => ?_) (fun h70 => ?_)
      · refine V_iconst (v := 0) C dX4_can_77 (by decide) ?_
        exact V_iretz C hr (by first | exact Or.inl rfl | exact Or.inr rfl | exact bI_or _) dX4_can_78 ⟨by first | (simp [mayB, bI, h6, h56]; done) | (simp [mayB, bI, h6, h56, h70]; done) | (simp [mayB, bI, h6, h46]; done) | (simp [mayB, bI, h6, h46, h70]; done), rfl, rfl⟩
      · refine V_iconst (v := 1) C dX4_can_73 (by decide) ?_
        refine V_goto C 78 dX4_can_74 (by decide) ?_
        exact V_iretz C hr (by first | exact Or.inl rfl | exact Or.inr rfl | exact bI_or _) dX4_can_78 ⟨by first | (simp [mayB, bI, h6, h56]; done) | (simp [mayB, bI, h6, h56, h70]; done) | (simp [mayB, bI, h6, h46]; done) | (simp [mayB, bI, h6, h46, h70]; done), rfl, rfl⟩
set_option maxHeartbeats 4000000 in
set_option maxRecDepth 100000 in
theorem c_X4_isLike {l : Launch} {x : Sh} {a b : Mem} {o : Out} (hfl : l.stackTraces = false) {q : Mem} (hW : WC q) (hR : RR q b) {i j : Nat} (hi : i < 12) (hj : j < 12) : MG l x yX4_isLike cX4_isLike 3 (some .boolean) 0 40 [.ref (x.2.1 70), .int (nI i), .int (nI j)] a b o (QI x o (FI (bI (isOfB q i (q (18 + 4 * j) 0) (q (18 + 4 * j) 4))) a b)) := by
  refine MG.of (maxL := 3) (ret := (some .boolean)) hfl (by decide) [some (.ref (x.2.1 70)), some (.int (nI i)), some (.int (nI j))] rfl rfl (Nat.le_of_ble_eq_true rfl) ?_
  intro pP eE sS mM argsA belowB methM cC C hr
  refine V_aload_n C dX4_isLike_0 rfl ?_
  refine gt_X4_exam C fk_X4_13 dX4_isLike_1 ?_
  refine V_iload_n C dX4_isLike_4 rfl ?_
  refine la_m_exam C _ rfl (by omega) dX4_isLike_5 ?_
  refine V_topi (hR.ex hi) ?_
  refine V_aload_n C dX4_isLike_6 rfl ?_
  refine gt_X4_exam C fk_X4_13 dX4_isLike_7 ?_
  refine V_iload_n C dX4_isLike_10 rfl ?_
  refine la_m_exam C _ rfl (by omega) dX4_isLike_11 ?_
  refine V_topi (hR.ex hj) ?_
  refine V_icmp_ne C 34 dX4_isLike_12 (by decide) (fun h12 => ?_) (fun h12 => ?_)
  · refine V_iconst (v := 0) C dX4_isLike_34 (by decide) ?_
    exact V_iretz C hr (by first | exact Or.inl rfl | exact Or.inr rfl | exact bI_or _) dX4_isLike_35 ⟨by first | (simp [isOfB, bI, h12]; done) | (simp [isOfB, bI, h12, h27]; done), rfl, rfl⟩
  · refine V_aload_n C dX4_isLike_15 rfl ?_
    refine gt_X4_isResit C fk_X4_22 dX4_isLike_16 ?_
    refine V_iload_n C dX4_isLike_19 rfl ?_
    refine la_m_isResit C _ rfl (by omega) dX4_isLike_20 ?_
    refine V_topi (hR.zz hi) ?_
    refine V_aload_n C dX4_isLike_21 rfl ?_
    refine gt_X4_isResit C fk_X4_22 dX4_isLike_22 ?_
    refine V_iload_n C dX4_isLike_25 rfl ?_
    refine la_m_isResit C _ rfl (by omega) dX4_isLike_26 ?_
    refine V_topi (hR.zz hj) ?_
    refine V_icmp_ne C 34 dX4_isLike_27 (by decide) (fun h27 => ?_) (fun h27 => ?_)
    · refine V_iconst (v := 0) C dX4_isLike_34 (by decide) ?_
      exact V_iretz C hr (by first | exact Or.inl rfl | exact Or.inr rfl | exact bI_or _) dX4_isLike_35 ⟨by first | (simp [isOfB, bI, h12]; done) | (simp [isOfB, bI, h12, h27]; done), rfl, rfl⟩
    · refine V_iconst (v := 1) C dX4_isLike_30 (by decide) ?_
      refine V_goto C 35 dX4_isLike_31 (by decide) ?_
      exact V_iretz C hr (by first | exact Or.inl rfl | exact Or.inr rfl | exact bI_or _) dX4_isLike_35 ⟨by first | (simp [isOfB, bI, h12]; done) | (simp [isOfB, bI, h12, h27]; done), rfl, rfl⟩
set_option maxHeartbeats 4000000 in
set_option maxRecDepth 100000 in
theorem c_X4_isFree {l : Launch} {x : Sh} {a b : Mem} {o : Out} (hfl : l.stackTraces = false) {q : Mem} (hW : WC q) (hI : IQ q) (hR : RR q b) {p i : Nat} (hp : p < 10) (hi : i < 12) : MG l x yX4_isFree cX4_isFree 6 (some .boolean) 1 80 [.ref (x.2.1 70), .int (nI p), .int (nI i)] a b o (QI x o (FI (bI (frB q p i)) a b)) := by
  refine MG.of (maxL := 6) (ret := (some .boolean)) hfl (by decide) [some (.ref (x.2.1 70)), some (.int (nI p)), some (.int (nI i)), none, none, none] rfl rfl (Nat.le_of_ble_eq_true rfl) ?_
  intro pP eE sS mM argsA belowB methM cC C hr
  have ho12 := hW.ol
  refine V_iconst (v := 1) C dX4_isFree_0 (by decide) ?_
  refine V_istore_n3 C dX4_isFree_1 (by decide) ?_
  refine V_iconst (v := 0) C dX4_isFree_2 (by decide) ?_
  refine V_istore_4 C dX4_isFree_3 (by decide) ?_
  
  have L5 : ∀ (fuel : Nat) (k : Nat), k ≤ nO q → nO q - k < fuel → VV pP l eE ({ frames := 1, cells := 0, slots := 0, locals := 80 } : Room) sS mM argsA belowB methM cC (MQ belowB (QI x o (FI (bI (frB q p i)) a b) sS.heap.size) argsA sS 0 0 (AW x sS.heap.size)) x 6 a b o 0 0 5 [some (.ref (x.2.1 70)), some (.int (nI p)), some (.int (nI i)), some (.int (bI (!anyN (mtB q p i) k))), some (.int (nI k)), none] [] := by
    intro fuel
    induction fuel with
    | zero => intro k hk hm; exact absurd hm (Nat.not_lt_zero _)
    | succ fuel ih5 =>
      intro k hk hm
      refine V_iload C dX4_isFree_5 rfl ?_
      refine V_aload_n C dX4_isFree_7 rfl ?_
      refine gt_X4_offers C fk_X4_73 dX4_isFree_8 ?_
      refine V_topi (hR.c4.trans hW.oe) ?_
      refine V_lt C 83 dX4_isFree_11 (by decide) (by omega) (by omega) (fun h11 => ?_) (fun h11 => ?_)
      · have e9 : k = nO q := by omega
        subst e9
        refine V_iload_n C dX4_isFree_83 rfl ?_
        exact V_iretz C hr (by first | exact Or.inl rfl | exact Or.inr rfl | exact bI_or _) dX4_isFree_84 ⟨rfl, rfl, rfl⟩
      · refine V_aload_n C dX4_isFree_14 rfl ?_
        refine V_iload C dX4_isFree_15 rfl ?_
        refine V_iload_n C dX4_isFree_17 rfl ?_
        refine V_callf (R_V C (c_X4_isLike hfl hW hR (by omega) hi) mi_X4_isLike mk_X4_116 rfl (by omega) rfl (rfl : vwCl[6]? = some (RX4, TX4, 24)) (by decide) rfl (Nat.le_of_ble_eq_true rfl) (by decide) dX4_isFree_18) ?_
        refine V_ifb_ne C 40 dX4_isFree_21 (by decide) (fun h21 => ?_) (fun h21 => ?_)
        · refine V_iconst (v := 1) C dX4_isFree_40 (by decide) ?_
          refine V_goto C 45 dX4_isFree_41 (by decide) ?_
          refine V_istore_5 C dX4_isFree_45 (by decide) ?_
          refine V_iload_n C dX4_isFree_47 rfl ?_
          refine V_ifb_eq C 75 dX4_isFree_48 (by decide) (fun h48 => ?_) (fun h48 => ?_)
          · refine V_iconst (v := 0) C dX4_isFree_75 (by decide) ?_
            refine V_istore_n3 C dX4_isFree_76 (by decide) ?_
            refine V_iinc_4 C _ dX4_isFree_77 (nI_1 _) (by decide) ?_
            refine V_goto C 5 dX4_isFree_80 (by decide) ?_
            refine V_forget (lvLe.same (lvLe.same (lvLe.same (lvLe.same (lvLe.same (lvLe.drop lvLe.nil)))))) ?_
            have ih := ih5 (k + 1) (by omega) (by omega)
            first
              | (rw [show anyN (mtB q p i) (k + 1) = true by (first | (simp at h48; simp [anyN, h48]; done) | (simp [anyN, mtB, hs, h21, h68]; done) | (simp [anyN, mtB, hs, h37, h68]; done))] at ih; exact ih)
              | (rw [show anyN (mtB q p i) (k + 1) = false by (simp at h48; first | (simp [anyN, h48, mtB, hs, h68]; done) | (simp [anyN, h48, mtB, h21, h37]; done))] at ih; exact ih)
          · refine V_iload C dX4_isFree_51 rfl ?_
            refine V_if_eq C 71 dX4_isFree_53 (by decide) (fun h53 => ?_) (fun h53 => ?_)
            · exact absurd h53 (by decide)
            · refine V_aload_n C dX4_isFree_56 rfl ?_
              refine gt_X4_paid C fk_X4_41 dX4_isFree_57 ?_
              refine V_iload_n C dX4_isFree_60 rfl ?_
              refine V_iload C dX4_isFree_61 rfl ?_
              refine V_callf (R_S C (c_X4_pair hfl) mi_X4_pair mk_X4_96 rfl (by decide) rfl (Nat.le_of_ble_eq_true rfl) (by decide) dX4_isFree_63) ?_
              refine la_m_paid C _ rfl (by omega) dX4_isFree_66 ?_
              refine V_topi (hR.pd hp (by omega)) ?_
              refine V_iconst (v := -1) C dX4_isFree_67 (by decide) ?_
              refine V_icmp_ne C 75 dX4_isFree_68 (by decide) (fun h68 => ?_) (fun h68 => ?_)
              · refine V_iconst (v := 0) C dX4_isFree_75 (by decide) ?_
                refine V_istore_n3 C dX4_isFree_76 (by decide) ?_
                refine V_iinc_4 C _ dX4_isFree_77 (nI_1 _) (by decide) ?_
                refine V_goto C 5 dX4_isFree_80 (by decide) ?_
                refine V_forget (lvLe.same (lvLe.same (lvLe.same (lvLe.same (lvLe.same (lvLe.drop lvLe.nil)))))) ?_
                have ih := ih5 (k + 1) (by omega) (by omega)
                first
                  | (rw [show anyN (mtB q p i) (k + 1) = true by (first | (simp at h48; simp [anyN, h48]; done) | (simp [anyN, mtB, hs, h21, h68]; done) | (simp [anyN, mtB, hs, h37, h68]; done))] at ih; exact ih)
                  | (rw [show anyN (mtB q p i) (k + 1) = false by (simp at h48; first | (simp [anyN, h48, mtB, hs, h68]; done) | (simp [anyN, h48, mtB, h21, h37]; done))] at ih; exact ih)
              · refine V_iconst (v := 1) C dX4_isFree_71 (by decide) ?_
                refine V_goto C 76 dX4_isFree_72 (by decide) ?_
                refine V_istore_n3 C dX4_isFree_76 (by decide) ?_
                refine V_iinc_4 C _ dX4_isFree_77 (nI_1 _) (by decide) ?_
                refine V_goto C 5 dX4_isFree_80 (by decide) ?_
                refine V_forget (lvLe.same (lvLe.same (lvLe.same (lvLe.same (lvLe.same (lvLe.drop lvLe.nil)))))) ?_
                have ih := ih5 (k + 1) (by omega) (by omega)
                first
                  | (rw [show anyN (mtB q p i) (k + 1) = true by (first | (simp at h48; simp [anyN, h48]; done) | (simp [anyN, mtB, hs, h21, h68]; done) | (simp [anyN, mtB, hs, h37, h68]; done))] at ih; exact ih)
                  | (rw [show anyN (mtB q p i) (k + 1) = false by (simp at h48; first | (simp [anyN, h48, mtB, hs, h68]; done) | (simp [anyN, h48, mtB, h21, h37]; done))] at ih; exact ih)
        · refine V_aload_n C dX4_isFree_24 rfl ?_
          refine gt_X4_slot C fk_X4_16 dX4_isFree_25 ?_
          refine V_iload C dX4_isFree_28 rfl ?_
          refine la_m_slot C _ rfl (by omega) dX4_isFree_30 ?_
          refine V_topi (hR.sl (by omega)) ?_
          refine V_aload_n C dX4_isFree_31 rfl ?_
          refine gt_X4_slot C fk_X4_16 dX4_isFree_32 ?_
          refine V_iload_n C dX4_isFree_35 rfl ?_
          refine la_m_slot C _ rfl (by omega) dX4_isFree_36 ?_
          refine V_topi (hR.sl hi) ?_
          refine V_icmp_ne C 44 dX4_isFree_37 (by decide) (fun h37 => ?_) (fun h37 => ?_)
          · refine V_iconst (v := 0) C dX4_isFree_44 (by decide) ?_
            refine V_istore_5 C dX4_isFree_45 (by decide) ?_
            refine V_iload_n C dX4_isFree_47 rfl ?_
            refine V_ifb_eq C 75 dX4_isFree_48 (by decide) (fun h48 => ?_) (fun h48 => ?_)
            · refine V_iconst (v := 0) C dX4_isFree_75 (by decide) ?_
              refine V_istore_n3 C dX4_isFree_76 (by decide) ?_
              refine V_iinc_4 C _ dX4_isFree_77 (nI_1 _) (by decide) ?_
              refine V_goto C 5 dX4_isFree_80 (by decide) ?_
              refine V_forget (lvLe.same (lvLe.same (lvLe.same (lvLe.same (lvLe.same (lvLe.drop lvLe.nil)))))) ?_
              have ih := ih5 (k + 1) (by omega) (by omega)
              first
                | (rw [show anyN (mtB q p i) (k + 1) = true by (first | (simp at h48; simp [anyN, h48]; done) | (simp [anyN, mtB, hs, h21, h68]; done) | (simp [anyN, mtB, hs, h37, h68]; done))] at ih; exact ih)
                | (rw [show anyN (mtB q p i) (k + 1) = false by (simp at h48; first | (simp [anyN, h48, mtB, hs, h68]; done) | (simp [anyN, h48, mtB, h21, h37]; done))] at ih; exact ih)
            · refine V_iload C dX4_isFree_51 rfl ?_
              refine V_if_eq C 71 dX4_isFree_53 (by decide) (fun h53 => ?_) (fun h53 => ?_)
              · refine V_iconst (v := 1) C dX4_isFree_71 (by decide) ?_
                refine V_goto C 76 dX4_isFree_72 (by decide) ?_
                refine V_istore_n3 C dX4_isFree_76 (by decide) ?_
                refine V_iinc_4 C _ dX4_isFree_77 (nI_1 _) (by decide) ?_
                refine V_goto C 5 dX4_isFree_80 (by decide) ?_
                refine V_forget (lvLe.same (lvLe.same (lvLe.same (lvLe.same (lvLe.same (lvLe.drop lvLe.nil)))))) ?_
                have ih := ih5 (k + 1) (by omega) (by omega)
                first
                  | (rw [show anyN (mtB q p i) (k + 1) = true by (first | (simp at h48; simp [anyN, h48]; done) | (simp [anyN, mtB, hs, h21, h68]; done) | (simp [anyN, mtB, hs, h37, h68]; done))] at ih; exact ih)
                  | (rw [show anyN (mtB q p i) (k + 1) = false by (simp at h48; first | (simp [anyN, h48, mtB, hs, h68]; done) | (simp [anyN, h48, mtB, h21, h37]; done))] at ih; exact ih)
              · exact absurd h53 (by decide)
          · refine V_iconst (v := 1) C dX4_isFree_40 (by decide) ?_
            refine V_goto C 45 dX4_isFree_41 (by decide) ?_
            refine V_istore_5 C dX4_isFree_45 (by decide) ?_
            refine V_iload_n C dX4_isFree_47 rfl ?_
            refine V_ifb_eq C 75 dX4_isFree_48 (by decide) (fun h48 => ?_) (fun h48 => ?_)
            · refine V_iconst (v := 0) C dX4_isFree_75 (by decide) ?_
              refine V_istore_n3 C dX4_isFree_76 (by decide) ?_
              refine V_iinc_4 C _ dX4_isFree_77 (nI_1 _) (by decide) ?_
              refine V_goto C 5 dX4_isFree_80 (by decide) ?_
              refine V_forget (lvLe.same (lvLe.same (lvLe.same (lvLe.same (lvLe.same (lvLe.drop lvLe.nil)))))) ?_
              have ih := ih5 (k + 1) (by omega) (by omega)
              first
                | (rw [show anyN (mtB q p i) (k + 1) = true by (first | (simp at h48; simp [anyN, h48]; done) | (simp [anyN, mtB, hs, h21, h68]; done) | (simp [anyN, mtB, hs, h37, h68]; done))] at ih; exact ih)
                | (rw [show anyN (mtB q p i) (k + 1) = false by (simp at h48; first | (simp [anyN, h48, mtB, hs, h68]; done) | (simp [anyN, h48, mtB, h21, h37]; done))] at ih; exact ih)
            · refine V_iload C dX4_isFree_51 rfl ?_
              refine V_if_eq C 71 dX4_isFree_53 (by decide) (fun h53 => ?_) (fun h53 => ?_)
              · exact absurd h53 (by decide)
              · refine V_aload_n C dX4_isFree_56 rfl ?_
                refine gt_X4_paid C fk_X4_41 dX4_isFree_57 ?_
                refine V_iload_n C dX4_isFree_60 rfl ?_
                refine V_iload C dX4_isFree_61 rfl ?_
                refine V_callf (R_S C (c_X4_pair hfl) mi_X4_pair mk_X4_96 rfl (by decide) rfl (Nat.le_of_ble_eq_true rfl) (by decide) dX4_isFree_63) ?_
                refine la_m_paid C _ rfl (by omega) dX4_isFree_66 ?_
                refine V_topi (hR.pd hp (by omega)) ?_
                refine V_iconst (v := -1) C dX4_isFree_67 (by decide) ?_
                refine V_icmp_ne C 75 dX4_isFree_68 (by decide) (fun h68 => ?_) (fun h68 => ?_)
                · refine V_iconst (v := 0) C dX4_isFree_75 (by decide) ?_
                  refine V_istore_n3 C dX4_isFree_76 (by decide) ?_
                  refine V_iinc_4 C _ dX4_isFree_77 (nI_1 _) (by decide) ?_
                  refine V_goto C 5 dX4_isFree_80 (by decide) ?_
                  refine V_forget (lvLe.same (lvLe.same (lvLe.same (lvLe.same (lvLe.same (lvLe.drop lvLe.nil)))))) ?_
                  have ih := ih5 (k + 1) (by omega) (by omega)
                  first
                    | (rw [show anyN (mtB q p i) (k + 1) = true by (first | (simp at h48; simp [anyN, h48]; done) | (simp [anyN, mtB, hs, h21, h68]; done) | (simp [anyN, mtB, hs, h37, h68]; done))] at ih; exact ih)
                    | (rw [show anyN (mtB q p i) (k + 1) = false by (simp at h48; first | (simp [anyN, h48, mtB, hs, h68]; done) | (simp [anyN, h48, mtB, h21, h37]; done))] at ih; exact ih)
                · refine V_iconst (v := 1) C dX4_isFree_71 (by decide) ?_
                  refine V_goto C 76 dX4_isFree_72 (by decide) ?_
                  refine V_istore_n3 C dX4_isFree_76 (by decide) ?_
                  refine V_iinc_4 C _ dX4_isFree_77 (nI_1 _) (by decide) ?_
                  refine V_goto C 5 dX4_isFree_80 (by decide) ?_
                  refine V_forget (lvLe.same (lvLe.same (lvLe.same (lvLe.same (lvLe.same (lvLe.drop lvLe.nil)))))) ?_
                  have ih := ih5 (k + 1) (by omega) (by omega)
                  first
                    | (rw [show anyN (mtB q p i) (k + 1) = true by (first | (simp at h48; simp [anyN, h48]; done) | (simp [anyN, mtB, hs, h21, h68]; done) | (simp [anyN, mtB, hs, h37, h68]; done))] at ih; exact ih)
                    | (rw [show anyN (mtB q p i) (k + 1) = false by (simp at h48; first | (simp [anyN, h48, mtB, hs, h68]; done) | (simp [anyN, h48, mtB, h21, h37]; done))] at ih; exact ih)
  exact L5 _ 0 (Nat.zero_le _) (Nat.lt_succ_self _)
set_option maxHeartbeats 4000000 in
set_option maxRecDepth 100000 in
theorem c_X4_held {l : Launch} {x : Sh} {a b : Mem} {o : Out} (hfl : l.stackTraces = false) {q : Mem} (hW : WC q) (hI : IQ q) (hR : RR q b) {i : Nat} (hi : i < 12) : MG l x yX4_held cX4_held 4 (some .int) 1 80 [.ref (x.2.1 70), .int (nI i)] a b o (QI x o (FI (nI (nTaken q i)) a b)) := by
  refine MG.of (maxL := 4) (ret := (some .int)) hfl (by decide) [some (.ref (x.2.1 70)), some (.int (nI i)), none, none] rfl rfl (Nat.le_of_ble_eq_true rfl) ?_
  intro pP eE sS mM argsA belowB methM cC C hr
  have hp10 := hW.pl
  refine V_iconst (v := nI 0) C dX4_held_0 (by decide) ?_
  refine V_istore_n2 C dX4_held_1 (by decide) ?_
  refine V_iconst (v := 0) C dX4_held_2 (by decide) ?_
  refine V_istore_n3 C dX4_held_3 (by decide) ?_
  have L4 : ∀ (fuel : Nat) (k : Nat), k ≤ nP q → nP q - k < fuel → VV pP l eE ({ frames := 1, cells := 0, slots := 0, locals := 80 } : Room) sS mM argsA belowB methM cC (MQ belowB (QI x o (FI (nI (nTaken q i)) a b) sS.heap.size) argsA sS 0 0 (AW x sS.heap.size)) x 4 a b o 0 0 4 [some (.ref (x.2.1 70)), some (.int (nI i)), some (.int (nI (cntN (hs q i) k))), some (.int (nI k))] [] := by
    intro fuel
    induction fuel with
    | zero => intro k hk hm; exact absurd hm (Nat.not_lt_zero _)
    | succ fuel ih4 =>
      intro k hk hm
      refine V_iload_n C dX4_held_4 rfl ?_
      refine V_aload_n C dX4_held_5 rfl ?_
      refine gt_X4_pupils C fk_X4_63 dX4_held_6 ?_
      refine V_topi (hR.c3.trans hW.pe) ?_
      refine V_lt C 40 dX4_held_9 (by decide) (by omega) (by omega) (fun h9 => ?_) (fun h9 => ?_)
      · have e9 : k = nP q := by omega
        subst e9
        refine V_iload_n C dX4_held_40 rfl ?_
        exact V_ireti C hr dX4_held_41 ⟨by rw [cntN_nP hW hI hi], rfl, rfl⟩
      · refine V_iload_n C dX4_held_12 rfl ?_
        refine V_aload_n C dX4_held_13 rfl ?_
        refine gt_X4_paid C fk_X4_41 dX4_held_14 ?_
        refine V_iload_n C dX4_held_17 rfl ?_
        refine V_iload_n C dX4_held_18 rfl ?_
        refine V_callf (R_S C (c_X4_pair hfl) mi_X4_pair mk_X4_96 rfl (by decide) rfl (Nat.le_of_ble_eq_true rfl) (by decide) dX4_held_19) ?_
        refine la_m_paid C _ rfl (by omega) dX4_held_22 ?_
        refine V_topi (hR.pd (by omega) hi) ?_
        refine V_iconst (v := -1) C dX4_held_23 (by decide) ?_
        refine V_icmp_ne C 31 dX4_held_24 (by decide) (fun h24 => ?_) (fun h24 => ?_)
        · refine V_iconst (v := 1) C dX4_held_31 (by decide) ?_
          refine V_iadd C dX4_held_32 ?_
          first | refine V_topi (nI_1 _) ?_ | refine V_topi (Int32.add_zero _) ?_
          refine V_istore_n2 C dX4_held_33 (by decide) ?_
          refine V_iinc_3 C _ dX4_held_34 (nI_1 _) (by decide) ?_
          refine V_goto C 4 dX4_held_37 (by decide) ?_
          have ih := ih4 (k + 1) (by omega) (by omega)
          first
            | (rw [show cntN (hs q i) (k + 1) = cntN (hs q i) k + 1 by (simp [cntN, hs, h24]; done)] at ih; exact ih)
            | (rw [show cntN (hs q i) (k + 1) = cntN (hs q i) k by (simp [cntN, hs, h24]; done)] at ih; exact ih)
        · refine V_iconst (v := 0) C dX4_held_27 (by decide) ?_
          refine V_goto C 32 dX4_held_28 (by decide) ?_
          refine V_iadd C dX4_held_32 ?_
          first | refine V_topi (nI_1 _) ?_ | refine V_topi (Int32.add_zero _) ?_
          refine V_istore_n2 C dX4_held_33 (by decide) ?_
          refine V_iinc_3 C _ dX4_held_34 (nI_1 _) (by decide) ?_
          refine V_goto C 4 dX4_held_37 (by decide) ?_
          have ih := ih4 (k + 1) (by omega) (by omega)
          first
            | (rw [show cntN (hs q i) (k + 1) = cntN (hs q i) k + 1 by (simp [cntN, hs, h24]; done)] at ih; exact ih)
            | (rw [show cntN (hs q i) (k + 1) = cntN (hs q i) k by (simp [cntN, hs, h24]; done)] at ih; exact ih)
  exact L4 _ 0 (Nat.zero_le _) (Nat.lt_succ_self _)
set_option maxHeartbeats 4000000 in
set_option maxRecDepth 100000 in
theorem c_X4_hasSeat {l : Launch} {x : Sh} {a b : Mem} {o : Out} (hfl : l.stackTraces = false) {q : Mem} (hW : WC q) (hI : IQ q) (hR : RR q b) {i : Nat} (hi : i < nO q) : MG l x yX4_hasSeat cX4_hasSeat 2 (some .boolean) 2 120 [.ref (x.2.1 70), .int (nI i)] a b o (QI x o (FI (bI (!isFullB q i)) a b)) := by
  refine MG.of (maxL := 2) (ret := (some .boolean)) hfl (by decide) [some (.ref (x.2.1 70)), some (.int (nI i))] rfl rfl (Nat.le_of_ble_eq_true rfl) ?_
  intro pP eE sS mM argsA belowB methM cC C hr
  have ho12 := hW.ol
  obtain ⟨hr1, hr2, hr3⟩ := hI.rm i hi
  have hr4 := hW.rl
  refine V_aload_n C dX4_hasSeat_0 rfl ?_
  refine V_iload_n C dX4_hasSeat_1 rfl ?_
  refine V_callf (R_V C (c_X4_held hfl hW hI hR (by omega)) mi_X4_held mk_X4_119 rfl (by omega) rfl (rfl : vwCl[6]? = some (RX4, TX4, 24)) (by decide) rfl (Nat.le_of_ble_eq_true rfl) (by decide) dX4_hasSeat_2) ?_
  refine V_aload_n C dX4_hasSeat_5 rfl ?_
  refine gt_X4_seats C fk_X4_7 dX4_hasSeat_6 ?_
  refine V_aload_n C dX4_hasSeat_9 rfl ?_
  refine gt_X4_room C fk_X4_19 dX4_hasSeat_10 ?_
  refine V_iload_n C dX4_hasSeat_13 rfl ?_
  refine la_m_room C _ rfl (by omega) dX4_hasSeat_14 ?_
  refine V_topi ((hR.rm (by omega)).trans hr1) ?_
  refine la_m_seats C _ rfl (by omega) dX4_hasSeat_15 ?_
  refine V_topi ((hR.st (by omega)).trans hr3.symm) ?_
  refine V_icmp_ge C 23 dX4_hasSeat_16 (by decide) (fun h16 => ?_) (fun h16 => ?_)
  · refine V_iconst (v := 0) C dX4_hasSeat_23 (by decide) ?_
    exact V_iretz C hr (by first | exact Or.inl rfl | exact Or.inr rfl | exact bI_or _) dX4_hasSeat_24 ⟨by first | (simp [isFullB, bI, Int32.not_lt.mpr h16]; done) | (simp [isFullB, bI, Int32.not_le.mp h16]; done), rfl, rfl⟩
  · refine V_iconst (v := 1) C dX4_hasSeat_19 (by decide) ?_
    refine V_goto C 24 dX4_hasSeat_20 (by decide) ?_
    exact V_iretz C hr (by first | exact Or.inl rfl | exact Or.inr rfl | exact bI_or _) dX4_hasSeat_24 ⟨by first | (simp [isFullB, bI, Int32.not_lt.mpr h16]; done) | (simp [isFullB, bI, Int32.not_le.mp h16]; done), rfl, rfl⟩
set_option maxHeartbeats 4000000 in
set_option maxRecDepth 100000 in
theorem c_X4_does {l : Launch} {x : Sh} {a b : Mem} {o : Out} (hfl : l.stackTraces = false) {q : Mem} (hW : WC q) (hI : IQ q) (hR : RR q b) {V : Int32} {p i : Nat} (hp : p < 10) (hi : i < 12) : MG l x yX4_does cX4_does 4 (some .boolean) 4 200 [.ref (x.2.1 70), .int (nI p), .int (nI i), .int V] a b o (QI x o (FI (bI (dsB q p i V)) a b)) := by
  refine MG.of (maxL := 4) (ret := (some .boolean)) hfl (by decide) [some (.ref (x.2.1 70)), some (.int (nI p)), some (.int (nI i)), some (.int V)] rfl rfl (Nat.le_of_ble_eq_true rfl) ?_
  intro pP eE sS mM argsA belowB methM cC C hr
  refine V_aload_n C dX4_does_0 rfl ?_
  refine V_iload_n C dX4_does_1 rfl ?_
  refine V_iload_n C dX4_does_2 rfl ?_
  refine V_callf (R_V C (c_X4_can hfl hW hI hR hp hi) mi_X4_can mk_X4_123 rfl (by omega) rfl (rfl : vwCl[6]? = some (RX4, TX4, 24)) (by decide) rfl (Nat.le_of_ble_eq_true rfl) (by decide) dX4_does_3) ?_
  refine V_ifb_eq C 32 dX4_does_6 (by decide) (fun h6 => ?_) (fun h6 => ?_)
  · refine V_iconst (v := 0) C dX4_does_32 (by decide) ?_
    exact V_iretz C hr (by first | exact Or.inl rfl | exact Or.inr rfl | exact bI_or _) dX4_does_33 ⟨by first | (simp [dsB, bI, h6]; done) | (simp [dsB, bI, h6, h15]; done) | (simp [dsB, bI, h6, h15, h25]; done), rfl, rfl⟩
  · refine V_aload_n C dX4_does_9 rfl ?_
    refine V_iload_n C dX4_does_10 rfl ?_
    refine V_iload_n C dX4_does_11 rfl ?_
    refine V_callf (R_V C (c_X4_isFree hfl hW hI hR hp hi) mi_X4_isFree mk_X4_126 rfl (by omega) rfl (rfl : vwCl[6]? = some (RX4, TX4, 24)) (by decide) rfl (Nat.le_of_ble_eq_true rfl) (by decide) dX4_does_12) ?_
    refine V_ifb_eq C 32 dX4_does_15 (by decide) (fun h15 => ?_) (fun h15 => ?_)
    · refine V_iconst (v := 0) C dX4_does_32 (by decide) ?_
      exact V_iretz C hr (by first | exact Or.inl rfl | exact Or.inr rfl | exact bI_or _) dX4_does_33 ⟨by first | (simp [dsB, bI, h6]; done) | (simp [dsB, bI, h6, h15]; done) | (simp [dsB, bI, h6, h15, h25]; done), rfl, rfl⟩
    · refine V_aload_n C dX4_does_18 rfl ?_
      refine gt_X4_points C fk_X4_50 dX4_does_19 ?_
      refine V_iload_n C dX4_does_22 rfl ?_
      refine la_m_points C _ rfl (by omega) dX4_does_23 ?_
      refine V_topi (hR.pt hp) ?_
      refine V_iload_n C dX4_does_24 rfl ?_
      refine V_icmp_lt C 32 dX4_does_25 (by decide) (fun h25 => ?_) (fun h25 => ?_)
      · refine V_iconst (v := 0) C dX4_does_32 (by decide) ?_
        exact V_iretz C hr (by first | exact Or.inl rfl | exact Or.inr rfl | exact bI_or _) dX4_does_33 ⟨by first | (simp [dsB, bI, h6]; done) | (simp [dsB, bI, h6, h15]; done) | (simp [dsB, bI, h6, h15, h25]; done), rfl, rfl⟩
      · refine V_iconst (v := 1) C dX4_does_28 (by decide) ?_
        refine V_goto C 33 dX4_does_29 (by decide) ?_
        exact V_iretz C hr (by first | exact Or.inl rfl | exact Or.inr rfl | exact bI_or _) dX4_does_33 ⟨by first | (simp [dsB, bI, h6]; done) | (simp [dsB, bI, h6, h15]; done) | (simp [dsB, bI, h6, h15, h25]; done), rfl, rfl⟩
set_option maxHeartbeats 4000000 in
set_option maxRecDepth 100000 in
theorem c_X4_placeOf {l : Launch} {x : Sh} {a b : Mem} {o : Out} (hfl : l.stackTraces = false) {q : Mem} (hW : WC q) (hR : RR q b) {p i : Nat} (hi : i < 12) (hd : ∀ j k, j < k → k < qW q i → q (18 + 4 * i + 2) j ≠ q (18 + 4 * i + 2) k) : MG l x yX4_placeOf cX4_placeOf 5 (some .int) 0 40 [.ref (x.2.1 70), .int (nI p), .int (nI i)] a b o (QI x o (FI (fI (qAt q i (nI p)) (qW q i)) a b)) := by
  refine MG.of (maxL := 5) (ret := (some .int)) hfl (by decide) [some (.ref (x.2.1 70)), some (.int (nI p)), some (.int (nI i)), none, none] rfl rfl (Nat.le_of_ble_eq_true rfl) ?_
  intro pP eE sS mM argsA belowB methM cC C hr
  have hq10 := hW.ql hi
  refine V_iconst (v := -1) C dX4_placeOf_0 (by decide) ?_
  refine V_istore_n3 C dX4_placeOf_1 (by decide) ?_
  refine V_iconst (v := 0) C dX4_placeOf_2 (by decide) ?_
  refine V_istore_4 C dX4_placeOf_3 (by decide) ?_
  have L5 : ∀ (fuel : Nat) (k : Nat), k ≤ qW q i → qW q i - k < fuel → VV pP l eE ({ frames := 0, cells := 0, slots := 0, locals := 40 } : Room) sS mM argsA belowB methM cC (MQ belowB (QI x o (FI (fI (qAt q i (nI p)) (qW q i)) a b) sS.heap.size) argsA sS 0 0 (AW x sS.heap.size)) x 5 a b o 0 0 5 [some (.ref (x.2.1 70)), some (.int (nI p)), some (.int (nI i)), some (.int (fI (qAt q i (nI p)) k)), some (.int (nI k))] [] := by
    intro fuel
    induction fuel with
    | zero => intro k hk hm; exact absurd hm (Nat.not_lt_zero _)
    | succ fuel ih5 =>
      intro k hk hm
      refine V_iload C dX4_placeOf_5 rfl ?_
      refine V_aload_n C dX4_placeOf_7 rfl ?_
      refine gt_X4_waiting C fk_X4_26 dX4_placeOf_8 ?_
      refine V_iload_n C dX4_placeOf_11 rfl ?_
      refine la_m_waiting C _ rfl (by omega) dX4_placeOf_12 ?_
      refine V_topi ((hR.qw hi).trans (hW.qe hi)) ?_
      refine V_lt C 45 dX4_placeOf_13 (by decide) (by omega) (by omega) (fun h13 => ?_) (fun h13 => ?_)
      · have e9 : k = qW q i := by omega
        subst e9
        refine V_iload_n C dX4_placeOf_45 rfl ?_
        exact V_ireti C hr dX4_placeOf_46 ⟨rfl, rfl, rfl⟩
      · refine V_aload_n C dX4_placeOf_16 rfl ?_
        refine gt_X4_waiter C fk_X4_29 dX4_placeOf_17 ?_
        refine V_bipush (v := nI 10) C dX4_placeOf_20 (by decide) ?_
        refine V_iload_n C dX4_placeOf_22 rfl ?_
        refine V_imul C dX4_placeOf_23 ?_
        refine V_topi (pk_mul _ _) ?_
        refine V_iload C dX4_placeOf_24 rfl ?_
        refine V_iadd C dX4_placeOf_26 ?_
        refine V_topi (nI_add _ _) ?_
        refine la_m_waiter C _ rfl (by omega) dX4_placeOf_27 ?_
        refine V_topi (hR.wt hi (by omega)) ?_
        refine V_iload_n C dX4_placeOf_28 rfl ?_
        refine V_icmp_ne C 37 dX4_placeOf_29 (by decide) (fun h29 => ?_) (fun h29 => ?_)
        · refine V_iload_n C dX4_placeOf_37 rfl ?_
          refine V_istore_n3 C dX4_placeOf_38 (by decide) ?_
          refine V_iinc_4 C _ dX4_placeOf_39 (nI_1 _) (by decide) ?_
          refine V_goto C 5 dX4_placeOf_42 (by decide) ?_
          have ih := ih5 (k + 1) (by omega) (by omega)
          first
            | (rw [fI_t (show qAt q i (nI p) k = true from decide_eq_true (h29)) (fun j hj => decide_eq_false (fun z => hd j k hj h13 (z.trans h29.symm)))] at ih; exact ih)
            | (rw [fI_s (show qAt q i (nI p) k = false from decide_eq_false h29)] at ih; exact ih)
        · refine V_iload C dX4_placeOf_32 rfl ?_
          refine V_goto C 38 dX4_placeOf_34 (by decide) ?_
          refine V_istore_n3 C dX4_placeOf_38 (by decide) ?_
          refine V_iinc_4 C _ dX4_placeOf_39 (nI_1 _) (by decide) ?_
          refine V_goto C 5 dX4_placeOf_42 (by decide) ?_
          have ih := ih5 (k + 1) (by omega) (by omega)
          first
            | (rw [fI_t (show qAt q i (nI p) k = true from decide_eq_true (h29)) (fun j hj => decide_eq_false (fun z => hd j k hj h13 (z.trans h29.symm)))] at ih; exact ih)
            | (rw [fI_s (show qAt q i (nI p) k = false from decide_eq_false h29)] at ih; exact ih)
  exact L5 _ 0 (Nat.zero_le _) (Nat.lt_succ_self _)
