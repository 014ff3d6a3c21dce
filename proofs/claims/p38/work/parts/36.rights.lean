/-! what the law's rights holds itself: bids, who has a seat, who is barred -/
def z1 (S : Nat) : Mem := a3_room a00 (nI S)
def z2 (S : Nat) : Mem := up2 (z1 S) 0 8 (nI (nE (z1 S) + 1))
def z3 (S : Nat) : Mem := a3_offer (z2 S) 0 2 0 0
theorem z_0 : ∀ S, S < 5 → 0 < S → gn (g3_room a00 (nI S)) = 0 ∧ nI (nR a00) = 0 ∧ nE (z1 S) < 6 ∧ gn (g3_exam (z1 S)) = 0 ∧ nI (nE (z1 S)) = 0 ∧ nO (z2 S) < 12 ∧ gn (g3_offer (z2 S) 0 2 0) = 0 ∧ nI (nO (z2 S)) = 0 ∧ z2 S 66 (tn 0) = nI S := by decide +kernel
theorem z_1 : ∀ S, S < 5 → (z3 S 0 8 = 1 ∧ z3 S 0 9 = nI 0 ∧ z3 S 0 10 = 1 ∧ z3 S 0 12 = 0) ∧ (z3 S 18 0 = 0 ∧ z3 S 18 1 = 2 ∧ z3 S 18 3 = nI S ∧ z3 S 18 4 = 0 ∧ z3 S 18 8 = 0) ∧ z3 S 69 2 = 0 := by decide +kernel
theorem z_2 : ∀ S, S < 5 → z3 S 12 1 = 1 ∧ z3 S 12 2 = 2 ∧ z3 S 13 3 = nI 0 ∧ nTaken (z3 S) 0 = 0 := by decide +kernel
theorem z_3 : ∀ S, S < 5 → ∀ q, q < 10 → z3 S 19 q = -1 ∧ z3 S 67 q = 0 ∧ z3 S 68 q = 0 ∧ z3 S 7 (q * 6) = -1 ∧ z3 S 11 (q * 6) = 0 := by decide +kernel
theorem z_4 : ∀ S, S < 5 → ∀ s, s < 3 → ∀ q, q < 10 → z3 S (3 + s * 3) (q * 6) = 0 := by decide +kernel
theorem z1_W {S : Nat} (h : S < 5) (h0 : 0 < S) : WC (z1 S) := WC_00.room (by decide)
theorem z2_W {S : Nat} (h : S < 5) (h0 : 0 < S) : WC (z2 S) := (z1_W h h0).exam (z_0 S h h0).2.2.1
theorem z3_W {S : Nat} (h : S < 5) (h0 : 0 < S) : WC (z3 S) := (z2_W h h0).offer (z_0 S h h0).2.2.2.2.2.1 (isN_0 5) (isN.of (k := 2) rfl (by omega) (by decide)) (Or.inl rfl) (by rw [(z_0 S h h0).2.2.2.2.2.2.2.2]; exact isN.of rfl (by omega) (by decide))
/-- rights told for the pupils below p, and for p in the stores below st -/
def rgp (p st : Nat) : Nat → Nat → Int32 := fun s q => if q < p ∨ (q = p ∧ s < st) then 1 else 0
def mxp (p : Nat) : Nat → Int32 := fun q => if q < p then nI q else 0
def ptp (p : Nat) : Nat → Int32 := fun q => if q < p then 100 else 0
abbrev noH : Nat → Bool := fun _ => false
def PB (S p st np : Nat) (bd : Nat → Nat) (a : Mem) : Prop := WC a ∧ MD S np (rgp p st) (mxp p) (ptp np) (PD1 bd noH) 0 0 0 a ∧ ∃ ord rk, RB np bd ord rk a
theorem PB_0 {S : Nat} {bd : Nat → Nat} (h : S < 5) (h0 : 0 < S) : PB S 0 0 0 bd (z3 S) := by
  obtain ⟨a1, a2, a3⟩ := z_1 S h
  obtain ⟨b1, b2, b3, b4⟩ := z_2 S h
  have c := z_3 S h
  refine ⟨z3_W h h0, ⟨a1, a2, fun q hq => ?_, fun q hq => ?_, fun q hq => (c q hq).2.2.1, a3, ⟨b1, b2⟩, fun s q hs hq => ?_, fun q hq => (c q hq).2.2.2.1, fun q hq => ?_⟩, id, id, b3, fun k hk => absurd hk (Nat.not_lt_zero _), fun k hk => absurd hk (Nat.not_lt_zero _), fun q _ => Nat.zero_le _, fun j k _ hk => absurd hk (Nat.not_lt_zero _)⟩
  · rw [(c q hq).1]; exact (if_neg Bool.false_ne_true).symm
  · rw [(c q hq).2.1]; exact (if_neg (Nat.not_lt_zero _)).symm
  · rw [z_4 S h s hs q hq]; exact (if_neg (by omega)).symm
  · rw [(c q hq).2.2.2.2]; exact (if_neg (Nat.not_lt_zero _)).symm
section PBS
variable {S p st : Nat} {bd : Nat → Nat} {a : Mem}
/-- a pupil more -/
theorem PB.pupil (h : PB S p 0 p bd a) (hp : p < 10) : WC (up2 (up2 a 67 p 100) 0 9 (nI (p + 1))) ∧ MD S (p + 1) (rgp p 0) (mxp p) (ptp (p + 1)) (PD1 bd noH) 0 0 0 (up2 (up2 a 67 p 100) 0 9 (nI (p + 1))) ∧ ∃ ord rk, RB p bd ord rk (up2 (up2 a 67 p 100) 0 9 (nI (p + 1))) := by
  obtain ⟨W, M, ord, rk, R⟩ := h
  have eP := M.knP (by omega)
  have W1 := W.pupil (by rw [eP]; exact hp)
  rw [eP] at W1
  refine ⟨W1, M.kpupil.kto (fun _ _ _ _ => rfl) (fun _ _ => rfl) (fun q _ => ?_) (fun _ _ => rfl), ord, rk, R.same (fun c k h1 h2 => (up2_o (by omega)).trans (up2_o (by omega)))⟩
  unfold ptp
  by_cases e : q = p
  · rw [if_pos e, if_pos (by omega)]
  · rw [if_neg e]
    by_cases g : q < p
    · rw [if_pos g, if_pos (by omega)]
    · rw [if_neg g, if_neg (by omega)]
theorem PB_bid (hp : p < 10) (hb : ∀ q, bd q < 1000) (W : WC a) (M : MD S (p + 1) (rgp p 0) (mxp p) (ptp (p + 1)) (PD1 bd noH) 0 0 0 a) (hR : ∃ ord rk, RB p bd ord rk a) : PB S p 0 (p + 1) bd (tellA a (nI p) 0 (nI (bd p)) p) := by
  obtain ⟨ord, rk, R⟩ := hR
  have W1 := W.tell (p := p) (i := 0) (V := nI (bd p)) hp (by decide)
  rw [R.w (by omega)] at W1
  exact ⟨W1, M.kbid, R.bid hp hb⟩
theorem PB.wr (h : PB S p st (p + 1) bd a) (hs : st < 3) : PB S p (st + 1) (p + 1) bd (up2 a (3 + st * 3) (p * 6) 1) := by
  obtain ⟨W, M, ord, rk, R⟩ := h
  refine ⟨W.wr (t := st) (f := 0) hs (by decide), (M.kwr hs).kto (fun s q h1 hq => ?_) (fun _ _ => rfl) (fun _ _ => rfl) (fun _ _ => rfl), ord, rk, R.same (fun c k h1 h2 => up2_o (by omega))⟩
  unfold rgp
  by_cases e : s = st ∧ q = p
  · rw [if_pos e, if_pos (by omega)]
  · rw [if_neg e]
    by_cases g : q < p ∨ (q = p ∧ s < st)
    · rw [if_pos g, if_pos (by omega)]
    · rw [if_neg g, if_neg (by omega)]
theorem PB.wx (h : PB S p 3 (p + 1) bd a) : PB S (p + 1) 0 (p + 1) bd (up2 a 11 (p * 6) (nI p)) := by
  obtain ⟨W, M, ord, rk, R⟩ := h
  refine ⟨W.wr (t := 2) (f := 2) (by decide) (by decide), M.kwx.kto (fun s q h1 hq => ?_) (fun q hq => ?_) (fun _ _ => rfl) (fun _ _ => rfl), ord, rk, R.same (fun c k h1 h2 => up2_o (by omega))⟩
  · unfold rgp
    by_cases g : q < p ∨ (q = p ∧ s < 3)
    · rw [if_pos g, if_pos (by omega)]
    · rw [if_neg g, if_neg (by omega)]
  · unfold mxp
    by_cases e : q = p
    · rw [if_pos e, if_pos (by omega), e]
    · rw [if_neg e]
      by_cases g : q < p
      · rw [if_pos g, if_pos (by omega)]
      · rw [if_neg g, if_neg (by omega)]
end PBS
/-- the bids -/
def bdv (xs : Nat → Int32) (L q : Nat) : Int32 := 1 + soF (atF xs L (2 + q)) (nI 100)
def bdn (xs : Nat → Int32) (L q : Nat) : Nat := tn (bdv xs L q)
theorem bd_all (xs : Nat → Int32) (L q : Nat) : bdv xs L q = nI (bdn xs L q) ∧ 0 < bdn xs L q ∧ bdn xs L q < 101 := by
  obtain ⟨j, hj, e⟩ := soF_lt (v := atF xs L (2 + q)) (m := 100) (by decide) (by decide)
  have h : bdv xs L q = nI (1 + j) := by
    unfold bdv
    rw [e]
    exact nI_add 1 j
  have h2 : bdn xs L q = 1 + j := by
    unfold bdn
    rw [h]
    exact tn_nI (by omega)
  rw [h2]
  exact ⟨h, by omega, by omega⟩
def bdA (xs : Nat → Int32) (L p : Nat) : Nat → Int32 := fun q => if q < p then bdv xs L q else 0
theorem bdA_0 {xs : Nat → Int32} {L : Nat} : (fun _ => 0) = bdA xs L 0 := funext fun q => (if_neg (Nat.not_lt_zero q)).symm
theorem bdA_s {xs : Nat → Int32} {L p : Nat} : upd (bdA xs L p) p (bdv xs L p) = bdA xs L (p + 1) := by
  funext q
  unfold upd bdA
  by_cases e : q = p
  · rw [if_pos e, if_pos (by omega), e]
  · rw [if_neg e]
    by_cases g : q < p
    · rw [if_pos g, if_pos (by omega)]
    · rw [if_neg g, if_neg (by omega)]
theorem bdA_at {xs : Nat → Int32} {L p q : Nat} (h : q < p) : bdA xs L p q = nI (bdn xs L q) := (if_pos h).trans (bd_all xs L q).1
/-- the law's choice of the greatest bid left -/
def hK (rk : Nat → Nat) (k : Nat) : Nat → Int32 := fun q => bI (decide (rk q < k))
theorem hK_0 {rk : Nat → Nat} : (fun _ => 0) = hK rk 0 := funext fun q => by
  unfold hK
  rw [decide_eq_false (Nat.not_lt_zero _)]
  rfl
def BST (rk bd : Nat → Nat) (k j : Nat) (v : Int32) : Prop := (v = -1 ∧ ∀ q, q < j → rk q < k) ∨ ∃ b, v = nI b ∧ b < j ∧ ¬ rk b < k ∧ ∀ q, q < j → ¬ rk q < k → bd q < bd b ∨ (bd q = bd b ∧ b ≤ q)
theorem BST_0 {rk bd : Nat → Nat} {k : Nat} : BST rk bd k 0 (-1) := Or.inl ⟨rfl, fun q h => absurd h (Nat.not_lt_zero q)⟩
theorem BST.skip {rk bd : Nat → Nat} {k j : Nat} {v : Int32} (h : BST rk bd k j v) (hj : rk j < k) : BST rk bd k (j + 1) v := by
  rcases h with ⟨h1, h2⟩ | ⟨b, h1, h2, h3, h4⟩
  · refine Or.inl ⟨h1, fun q hq => ?_⟩
    by_cases e : q = j
    · rw [e]; exact hj
    · exact h2 q (by omega)
  · refine Or.inr ⟨b, h1, by omega, h3, fun q hq hn => ?_⟩
    by_cases e : q = j
    · rw [e] at hn; exact absurd hj hn
    · exact h4 q (by omega) hn
theorem BST.first {rk bd : Nat → Nat} {k j : Nat} {v : Int32} (h : BST rk bd k j v) (hj : ¬ rk j < k) (hv : v < 0) (hj2 : j < 1000) : BST rk bd k (j + 1) (nI j) := by
  rcases h with ⟨h1, h2⟩ | ⟨b, h1, h2, h3, h4⟩
  · refine Or.inr ⟨j, rfl, by omega, hj, fun q hq hn => ?_⟩
    by_cases e : q = j
    · rw [e]; exact Or.inr ⟨rfl, Nat.le_refl _⟩
    · exact absurd (h2 q (by omega)) hn
  · rw [h1] at hv
    exact absurd hv (nI_pos (by omega))
theorem BST.more {rk bd : Nat → Nat} {k j b : Nat} (h : BST rk bd k j (nI b)) (hj2 : j < 1000) (hb2 : b < 1000) (hj : ¬ rk j < k) (hg : bd b < bd j) : BST rk bd k (j + 1) (nI j) := by
  rcases h with ⟨h1, h2⟩ | ⟨b', h1, h2, h3, h4⟩
  · exact absurd h1 (nI_ne_m1 (by omega))
  · have e := (nI_eq (by omega) (by omega)).mp h1
    subst e
    refine Or.inr ⟨j, rfl, by omega, hj, fun q hq hn => ?_⟩
    by_cases e : q = j
    · rw [e]; exact Or.inr ⟨rfl, Nat.le_refl _⟩
    · have := h4 q (by omega) hn
      omega
theorem BST.less {rk bd : Nat → Nat} {k j b : Nat} (h : BST rk bd k j (nI b)) (hj2 : j < 1000) (hb2 : b < 1000) (hg : bd j ≤ bd b) : BST rk bd k (j + 1) (nI b) := by
  rcases h with ⟨h1, h2⟩ | ⟨b', h1, h2, h3, h4⟩
  · exact absurd h1 (nI_ne_m1 (by omega))
  · have e := (nI_eq (by omega) (by omega)).mp h1
    subst e
    refine Or.inr ⟨b, rfl, by omega, h3, fun q hq hn => ?_⟩
    by_cases e : q = j
    · rw [e]; omega
    · exact h4 q (by omega) hn
theorem BST.end {N k : Nat} {bd ord rk : Nat → Nat} {a : Mem} {v : Int32} (h : BST rk bd k N v) (hR : RB N bd ord rk a) (hk : k < N) : v = nI (ord k) := by
  obtain ⟨o1, o2, o3, o4, o5⟩ := hR.2.1 k hk
  rcases h with ⟨h1, h2⟩ | ⟨b, h1, h2, h3, h4⟩
  · have := h2 (ord k) o4
    omega
  · have h5 := h4 (ord k) o4 (by omega)
    obtain ⟨r1, r2⟩ := hR.2.2.1 b h2
    by_cases e : rk b = k
    · rw [e] at r2
      rw [h1, r2]
    · have h6 := hR.2.2.2.2 k (rk b) (by omega) r1
      rw [r2] at h6
      omega
theorem hK_s {N k : Nat} {bd ord rk : Nat → Nat} {a : Mem} (hR : RB N bd ord rk a) (hk : k < N) : upd (hK rk k) (ord k) 1 = hK rk (k + 1) := by
  obtain ⟨o1, o2, o3, o4, o5⟩ := hR.2.1 k hk
  funext q
  unfold upd hK
  by_cases e : q = ord k
  · rw [if_pos e, e, o5, decide_eq_true (Nat.lt_succ_self k)]
    rfl
  · rw [if_neg e]
    have : rk q ≠ k := fun z => by
      by_cases g : q < N
      · have := (hR.2.2.1 q g).2
        rw [z] at this
        exact e this.symm
      · have := hR.2.2.2.1 q (by omega)
        omega
    by_cases g : rk q < k
    · rw [decide_eq_true g, decide_eq_true (by omega)]
    · rw [decide_eq_false g, decide_eq_false (by omega)]
