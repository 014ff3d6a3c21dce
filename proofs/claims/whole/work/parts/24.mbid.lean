/-! bids -/
abbrev ixN (q : Mem) (j : Nat) : Nat := bpN q j * 12 + boN q j
/-- from the place k on, the class's bids are those that the reference holds; T bounds how many were told -/
def BB (q b : Mem) (k T : Nat) : Prop :=
  (b 70 7 = nI (tn (b 70 7)) ∧ tn (b 70 7) ≤ T) ∧
  (∀ j, k ≤ j → j < bW q → b 79 (ixN q j) = q 16 j) ∧
  (∀ m, m < 120 → (∀ j, k ≤ j → j < bW q → ixN q j ≠ m) → b 79 m = 0) ∧
  (∀ j, j < bW q → b 80 (ixN q j) = nI (tn (b 80 (ixN q j))) ∧ tn (b 80 (ixN q j)) < tn (b 70 7)) ∧
  (∀ i j, i < j → j < bW q → q 16 j < q 16 i ∨ (q 16 i = q 16 j ∧ tn (b 80 (ixN q i)) < tn (b 80 (ixN q j))))
theorem BB.th {q b : Mem} {k T : Nat} {v : Int32} (h : BB q b k T) : BB q (up2 b 70 0 v) k T := h
theorem BB.tl {q b : Mem} {k T : Nat} (h : BB q b k T) : b 70 7 = nI (tn (b 70 7)) ∧ tn (b 70 7) ≤ T := h.1
theorem BB.bv {q b : Mem} {k T : Nat} (h : BB q b k T) {j : Nat} (h1 : k ≤ j) (h2 : j < bW q) : b 79 (ixN q j) = q 16 j := h.2.1 j h1 h2
theorem BB.bz {q b : Mem} {k T : Nat} (h : BB q b k T) {m : Nat} (h1 : m < 120) (h2 : ∀ j, k ≤ j → j < bW q → ixN q j ≠ m) : b 79 m = 0 := h.2.2.1 m h1 h2
theorem BB.wv {q b : Mem} {k T : Nat} (h : BB q b k T) {j : Nat} (h2 : j < bW q) : b 80 (ixN q j) = nI (tn (b 80 (ixN q j))) := (h.2.2.2.1 j h2).1
theorem BB.wl {q b : Mem} {k T : Nat} (h : BB q b k T) {j : Nat} (h2 : j < bW q) : tn (b 80 (ixN q j)) < tn (b 70 7) := (h.2.2.2.1 j h2).2
theorem BB.so {q b : Mem} {k T : Nat} (h : BB q b k T) {i j : Nat} (h1 : i < j) (h2 : j < bW q) : q 16 j < q 16 i ∨ (q 16 i = q 16 j ∧ tn (b 80 (ixN q i)) < tn (b 80 (ixN q j))) := h.2.2.2.2 i j h1 h2
theorem tn_l (v : Int32) : tn v < 2 ^ 31 := by
  have := Int32.toNatClampNeg_lt v
  exact this
theorem ix_lt {q : Mem} (hW : WC q) {j : Nat} (h : j < bW q) : ixN q j < 120 := by
  have h1 := hW.bpl h
  have h2 := hW.bol h
  show bpN q j * 12 + boN q j < 120
  omega
theorem ix_inj {q : Mem} (hW : WC q) (hI : IQ q) {i j : Nat} (h1 : i < bW q) (h2 : j < bW q) (h : ixN q i = ixN q j) : i = j := by
  have a1 := hW.bol h1
  have a2 := hW.bol h2
  have h : bpN q i * 12 + boN q i = bpN q j * 12 + boN q j := h
  have key : ∀ i j, i < j → j < bW q → bpN q i = bpN q j → boN q i = boN q j → False := fun i j h1 h2 h3 h4 => by
    rcases hI.bd i j h1 h2 with g | g
    · exact g h3
    · exact g h4
  rcases Nat.lt_trichotomy i j with g | g | g
  · exact (key i j g h2 (by omega) (by omega)).elim
  · exact g
  · exact (key j i g h1 (by omega) (by omega)).elim
theorem bAt_ix {q : Mem} (hW : WC q) {p i j : Nat} (hp : p < 10) (hi : i < 12) (hj : j < bW q) : bAt q (nI p) (nI i) j = true ↔ ixN q j = p * 12 + i := by
  have a1 := hW.bol hj
  unfold bAt
  rw [Bool.and_eq_true, decide_eq_true_eq, decide_eq_true_eq, hW.bpe hj, hW.boe hj, nI_eq (by have := hW.bpl hj; omega) (by omega), nI_eq (by omega) (by omega)]
  show _ ↔ bpN q j * 12 + boN q j = p * 12 + i
  omega
/-- what the reference holds of a bid -/
theorem BB.pt {q b : Mem} {T : Nat} (h : BB q b 0 T) (hW : WC q) {p i : Nat} (hp : p < 10) (hi : i < 12) : b 79 (p * 12 + i) = ptB q (nI p) (nI i) (bW q) := by
  unfold ptB
  split
  · rename_i h1
    have h2 := (bAt_ix hW hp hi h1).mp (firN_yes h1)
    rw [← h2]
    exact h.bv (Nat.zero_le _) h1
  · rename_i h1
    refine h.bz (by omega) (fun j _ hj e => ?_)
    have h2 := (bAt_ix hW hp hi hj).mpr e
    have h3 := firN_no (f := bAt q (nI p) (nI i)) (n := bW q) j (by have := firN_le (bAt q (nI p) (nI i)) (bW q); omega)
    rw [h2] at h3; cases h3
theorem cnt_add1 {f g : Nat → Bool} {c : Nat} (hf : f c = false) (hg : g c = true) (h : ∀ j, j ≠ c → g j = f j) : ∀ n, c < n → cntN g n = cntN f n + 1 := by
  intro n
  induction n with
  | zero => intro hc; omega
  | succ n ih =>
    intro hc
    simp only [cntN]
    by_cases e : n = c
    · subst e
      rw [hf, hg, cntN_congr (f := g) (g := f) (fun i hi => h i (by omega))]
      simp
    · rw [h n e, ih (by omega)]
      omega
theorem cnt_inj {g : Nat → Nat} {N : Nat} : ∀ w, (∀ j, j < w → g j < N) → (∀ i j, i < w → j < w → g i = g j → i = j) → cntN (fun m => anyN (fun j => decide (g j = m)) w) N = w := by
  intro w
  induction w with
  | zero =>
    intro _ _
    have : ∀ n, cntN (fun m => anyN (fun j => decide (g j = m)) 0) n = 0 := by
      intro n
      induction n with
      | zero => rfl
      | succ n ih => rw [cntN, ih]; rfl
    exact this N
  | succ w ih =>
    intro h1 h2
    have e := ih (fun j hj => h1 j (by omega)) (fun i j hi hj => h2 i j (by omega) (by omega))
    refine (cnt_add1 (f := fun m => anyN (fun j => decide (g j = m)) w) (c := g w) ?_ ?_ ?_ N (h1 w (by omega))).trans (by rw [e])
    · refine anyN_f.mpr (fun j hj => decide_eq_false (fun e => ?_))
      have := h2 j w (by omega) (by omega) e
      omega
    · simp [anyN]
    · intro m hm
      have : decide (g w = m) = false := decide_eq_false (fun z => hm z.symm)
      simp [anyN, this]
theorem ptO_p {v : Int32} (h : ptO v) : ¬ v ≤ 0 := by
  have h1 := h.1
  rw [Int32.le_iff_toInt_le] at h1 ⊢
  have a1 : (1 : Int32).toInt = 1 := by decide
  have a0 : (0 : Int32).toInt = 0 := by decide
  omega
theorem BB.live {q b : Mem} {k T : Nat} (h : BB q b k T) {m : Nat} (hm : m < 120) (h1 : ¬ b 79 m ≤ 0) : ∃ j, k ≤ j ∧ j < bW q ∧ ixN q j = m := by
  apply Classical.byContradiction
  intro hn
  apply h1
  rw [h.bz hm (fun j a1 a2 a3 => hn ⟨j, a1, a2, a3⟩)]
  decide
theorem BB.dead {q b : Mem} {k T : Nat} (h : BB q b k T) (hI : IQ q) {m : Nat} (h1 : b 79 m ≤ 0) : ∀ j, k ≤ j → j < bW q → ixN q j ≠ m := by
  intro j a1 a2 e
  rw [← e, h.bv a1 a2] at h1
  exact ptO_p (hI.bp j a2).2.2 h1
def posB (b : Mem) (m : Nat) : Bool := decide (¬ b 79 m ≤ 0)
theorem BB.cnt {q b : Mem} {T : Nat} (h : BB q b 0 T) (hW : WC q) (hI : IQ q) : cntN (posB b) 120 = bW q := by
  rw [← cnt_inj (g := ixN q) (N := 120) (bW q) (fun j hj => ix_lt hW hj) (fun i j h1 h2 e => ix_inj hW hI h1 h2 e)]
  apply cntN_congr
  intro m hm
  unfold posB
  by_cases h1 : b 79 m ≤ 0
  · rw [decide_eq_false (fun z => z h1)]
    exact (anyN_f.mpr (fun j hj => decide_eq_false (h.dead hI h1 j (Nat.zero_le _) hj))).symm
  · rw [decide_eq_true h1]
    obtain ⟨j, _, h3, h4⟩ := h.live hm h1
    exact (anyN_t h3 (decide_eq_true h4)).symm
theorem sum_add {f g : Nat → Int32} {c : Nat} {d : Int32} (hf : g c = f c + d) (h : ∀ j, j ≠ c → g j = f j) : ∀ n, c < n → sumN g n = sumN f n + d := by
  intro n
  induction n with
  | zero => intro hc; omega
  | succ n ih =>
    intro hc
    simp only [sumN]
    by_cases e : n = c
    · subst e
      rw [hf, sumN_congr (f := g) (g := f) (fun i hi => h i (by omega)), Int32.add_assoc]
    · rw [h n e, ih (by omega), Int32.add_assoc, Int32.add_assoc, Int32.add_comm d]
theorem ptB_s {q : Mem} {P O : Int32} {w : Nat} (h : bAt q P O w = false) : ptB q P O (w + 1) = ptB q P O w := by
  unfold ptB
  simp only [firN, h]
  have := firN_le (bAt q P O) w
  by_cases h1 : firN (bAt q P O) w < w
  · rw [if_pos h1, if_pos h1, if_pos (by omega)]
  · rw [if_neg h1, if_neg h1]; simp
theorem ptB_t {q : Mem} {P O : Int32} {w : Nat} (h : bAt q P O w = true) (h0 : ∀ j, j < w → bAt q P O j = false) : ptB q P O (w + 1) = q 16 w ∧ ptB q P O w = 0 := by
  have e : firN (bAt q P O) w = w := by
    rcases Nat.lt_or_ge (firN (bAt q P O) w) w with g | g
    · have := firN_yes g
      rw [h0 _ g] at this; cases this
    · have := firN_le (bAt q P O) w; omega
  have e2 : firN (bAt q P O) (w + 1) = w := by rw [firN, if_neg (by omega), if_pos h]
  constructor
  · unfold ptB
    rw [e2, if_pos (by omega)]
  · unfold ptB
    rw [e, if_neg (by omega)]
theorem sum_pts {q : Mem} (hW : WC q) (hI : IQ q) {p : Nat} (hp : p < 10) : ∀ w, w ≤ bW q → sumN (fun k => ptB q (nI p) (nI k) w) (nO q) = sumN (smB q (nI p)) w := by
  have ho := hW.ol
  intro w
  induction w with
  | zero =>
    intro _
    have : ∀ n, sumN (fun k => ptB q (nI p) (nI k) 0) n = 0 := by
      intro n
      induction n with
      | zero => rfl
      | succ n ih => rw [sumN, ih]; rfl
    exact this _
  | succ w ih =>
    intro hw
    have hb := hI.bp w (by omega)
    rw [sumN, ← ih (by omega)]
    by_cases e : bpN q w = p
    · have h1 : ∀ k, k ≠ boN q w → k < 12 → bAt q (nI p) (nI k) w = false := by
        intro k hk hk2
        cases hx : bAt q (nI p) (nI k) w with
        | false => rfl
        | true =>
          have : bpN q w * 12 + boN q w = p * 12 + k := (bAt_ix hW hp hk2 (by omega)).mp hx
          have := hW.bol (k := w) (by omega)
          omega
      have h2 : bAt q (nI p) (nI (boN q w)) w = true := (bAt_ix hW hp (by omega) (by omega)).mpr (show bpN q w * 12 + boN q w = _ by omega)
      have h3 := ptB_t h2 (fun j hj => by
        cases hx : bAt q (nI p) (nI (boN q w)) j with
        | false => rfl
        | true =>
          have e1 := (bAt_ix hW hp (by omega) (by omega)).mp hx
          have e2 : ixN q w = p * 12 + boN q w := show bpN q w * 12 + boN q w = _ by omega
          have := ix_inj hW hI (i := j) (j := w) (by omega) (by omega) (by omega)
          omega)
      have h4 : smB q (nI p) w = q 16 w := by
        unfold smB
        rw [if_pos (by rw [hW.bpe (by omega), e])]
      rw [h4]
      have : ∀ n, n ≤ 12 → boN q w < n → sumN (fun k => ptB q (nI p) (nI k) (w + 1)) n = sumN (fun k => ptB q (nI p) (nI k) w) n + q 16 w := by
        intro n
        induction n with
        | zero => intro _ h; omega
        | succ n ihn =>
          intro hn12 hn
          simp only [sumN]
          by_cases en : n = boN q w
          · subst en
            rw [h3.1, h3.2, Int32.add_zero]
            congr 1
            exact sumN_congr (fun i hi => ptB_s (h1 i (by omega) (by omega)))
          · rw [ihn (by omega) (by omega), ptB_s (h1 n en (by omega)), Int32.add_assoc, Int32.add_assoc, Int32.add_comm (q 16 w)]
      exact this _ ho hb.2.1
    · have h4 : smB q (nI p) w = 0 := by
        unfold smB
        rw [if_neg (by rw [hW.bpe (by omega), nI_eq (by have := hW.bpl (k := w) (by omega); omega) (by omega)]; exact e)]
      rw [h4, Int32.add_zero]
      apply sumN_congr
      intro k hk
      apply ptB_s
      cases hx : bAt q (nI p) (nI k) w with
      | false => rfl
      | true =>
        have : bpN q w * 12 + boN q w = p * 12 + k := (bAt_ix hW hp (by omega) (by omega)).mp hx
        have := hW.bol (k := w) (by omega)
        omega
def exB (q : Mem) (p i k : Nat) : Int32 := if k = i then 0 else ptB q (nI p) (nI k) (bW q)
theorem exB_sum {q : Mem} (hW : WC q) (hI : IQ q) {p i : Nat} {v : Int32} (hp : p < 10) (hi : i < nO q) : v + sumN (exB q p i) (nO q) = s3_bid q (nI p) (nI i) v := by
  unfold s3_bid
  rw [← sum_pts hW hI hp (bW q) (Nat.le_refl _)]
  have h := sum_add (f := exB q p i) (g := fun k => ptB q (nI p) (nI k) (bW q)) (c := i) (d := ptB q (nI p) (nI i) (bW q)) (by simp [exB]) (fun j hj => by simp [exB, hj]) (nO q) hi
  rw [h, Int32.add_sub_cancel, Int32.add_comm]
/-- the place of the bid that is taken next, of those with a number below m -/
def lvB (q : Mem) (k m j : Nat) : Bool := decide (k ≤ j) && decide (ixN q j < m)
def nbV (q : Mem) (k m : Nat) : Int32 := if firN (lvB q k m) (bW q) < bW q then nI (ixN q (firN (lvB q k m) (bW q))) else -1
theorem nb_same {q : Mem} {k m : Nat} (h : ∀ j, k ≤ j → j < bW q → ixN q j ≠ m) : nbV q k (m + 1) = nbV q k m := by
  have e : firN (lvB q k (m + 1)) (bW q) = firN (lvB q k m) (bW q) := firN_congr (fun j hj => by
    unfold lvB
    by_cases h1 : k ≤ j
    · have := h j h1 hj
      rw [decide_eq_true h1, Bool.true_and, Bool.true_and]
      exact decide_eq_decide.mpr (by omega)
    · rw [decide_eq_false h1]; rfl)
  unfold nbV
  rw [e]
theorem nb_at {q : Mem} {k m j : Nat} (h1 : k ≤ j) (h2 : j < bW q) (h3 : ixN q j < m) (h0 : ∀ i, i < j → k ≤ i → ¬ ixN q i < m) : nbV q k m = nI (ixN q j) := by
  have e : firN (lvB q k m) (bW q) = j := firN_eq (by omega) (fun i hi => by
    unfold lvB
    by_cases g : k ≤ i
    · rw [decide_eq_false (h0 i hi g), Bool.and_false]
    · rw [decide_eq_false g]; rfl) (fun _ => by unfold lvB; rw [decide_eq_true h1, decide_eq_true h3]; rfl)
  unfold nbV
  rw [e, if_pos h2]
theorem nb_none {q : Mem} (hW : WC q) {k m : Nat} (h : nbV q k m = -1) : ∀ j, k ≤ j → j < bW q → ¬ ixN q j < m := by
  intro j h1 h2 h3
  unfold nbV at h
  have hx : lvB q k m j = true := by unfold lvB; rw [decide_eq_true h1, decide_eq_true h3]; rfl
  have h4 : firN (lvB q k m) (bW q) < bW q := firN_any.mpr (anyN_t h2 hx)
  rw [if_pos h4] at h
  exact nI_ne_m1 (by have := ix_lt hW h4; omega) h
theorem nb_some {q : Mem} {k m : Nat} (h : ¬ nbV q k m = -1) : ∃ j, k ≤ j ∧ j < bW q ∧ ixN q j < m ∧ (∀ i, i < j → k ≤ i → ¬ ixN q i < m) ∧ nbV q k m = nI (ixN q j) := by
  unfold nbV at h ⊢
  by_cases h4 : firN (lvB q k m) (bW q) < bW q
  · rw [if_pos h4]
    have h5 := firN_yes h4
    unfold lvB at h5
    rw [Bool.and_eq_true, decide_eq_true_eq, decide_eq_true_eq] at h5
    refine ⟨_, h5.1, h4, h5.2, fun i hi hk hx => ?_, rfl⟩
    have := firN_no (f := lvB q k m) (n := bW q) i hi
    unfold lvB at this
    rw [decide_eq_true hk, decide_eq_true hx] at this
    cases this
  · rw [if_neg h4] at h
    exact absurd rfl h
theorem nb_end {q : Mem} (hW : WC q) {k : Nat} (hk : k ≤ bW q) : nbV q k 120 = if k < bW q then nI (ixN q k) else -1 := by
  by_cases h : k < bW q
  · rw [if_pos h]
    exact nb_at (Nat.le_refl _) h (ix_lt hW h) (fun i h1 h2 => by omega)
  · rw [if_neg h]
    unfold nbV
    rw [if_neg]
    intro h1
    have h5 := firN_yes h1
    rw [lvB, Bool.and_eq_true, decide_eq_true_eq] at h5
    have := h5.1
    omega
/-- a new best one: at the place j1, where the best so far is at j0 -/
theorem nb_new {q : Mem} {k j0 j1 : Nat} (h1 : k ≤ j1) (h2 : j1 < bW q) (h0 : ∀ i, i < j0 → k ≤ i → ¬ ixN q i < ixN q j1) (h : j1 < j0) (hW : WC q) (hI : IQ q) : nbV q k (ixN q j1 + 1) = nI (ixN q j1) :=
  nb_at h1 h2 (by omega) (fun i hi hk hx => by
    have a1 := h0 i (by omega) hk
    have := ix_inj hW hI (i := i) (j := j1) (by omega) h2 (by omega)
    omega)
theorem nb_old {q : Mem} {k j0 j1 : Nat} (h3 : k ≤ j0) (h4 : j0 < bW q) (h5 : ixN q j0 < ixN q j1) (h2 : j1 < bW q) (h0 : ∀ i, i < j0 → k ≤ i → ¬ ixN q i < ixN q j1) (h : j0 < j1) (hW : WC q) (hI : IQ q) : nbV q k (ixN q j1 + 1) = nI (ixN q j0) :=
  nb_at h3 h4 (by omega) (fun i hi hk hx => by
    have a1 := h0 i hi hk
    have := ix_inj hW hI (i := i) (j := j1) (by omega) h2 (by omega)
    omega)
theorem BB.gt {q b : Mem} {k T j0 j1 : Nat} (h : BB q b k T) (h1 : j0 < bW q) (h2 : j1 < bW q) (hn : j0 ≠ j1) (hx : q 16 j0 < q 16 j1) : j1 < j0 := by
  rcases Nat.lt_trichotomy j0 j1 with g | g | g
  · rw [Int32.lt_iff_toInt_lt] at hx
    rcases h.so g h2 with z | z
    · rw [Int32.lt_iff_toInt_lt] at z; omega
    · rw [z.1] at hx; omega
  · exact absurd g hn
  · exact g
theorem BB.ne {q b : Mem} {k T j0 j1 : Nat} (h : BB q b k T) (h1 : j0 < bW q) (h2 : j1 < bW q) (hn : j0 ≠ j1) (hx : ¬ q 16 j0 < q 16 j1) (hy : ¬ q 16 j1 = q 16 j0) : j0 < j1 := by
  rcases Nat.lt_trichotomy j0 j1 with g | g | g
  · exact g
  · exact absurd g hn
  · rcases h.so g h1 with z | z
    · exact absurd z hx
    · exact absurd z.1 hy
theorem BB.eq_o {q b : Mem} {k T j0 j1 : Nat} (h : BB q b k T) (h1 : j0 < bW q) (h2 : j1 < bW q) (hn : j0 ≠ j1) (hy : q 16 j1 = q 16 j0) (hx : b 80 (ixN q j0) ≤ b 80 (ixN q j1)) : j0 < j1 := by
  rcases Nat.lt_trichotomy j0 j1 with g | g | g
  · exact g
  · exact absurd g hn
  · rcases h.so g h1 with z | z
    · rw [hy, Int32.lt_iff_toInt_lt] at z; omega
    · rw [h.wv h1, h.wv h2, nI_leI (tn_l _) (tn_l _)] at hx
      omega
theorem BB.eq_n {q b : Mem} {k T j0 j1 : Nat} (h : BB q b k T) (h1 : j0 < bW q) (h2 : j1 < bW q) (hn : j0 ≠ j1) (hy : q 16 j1 = q 16 j0) (hx : ¬ b 80 (ixN q j0) ≤ b 80 (ixN q j1)) : j1 < j0 := by
  rcases Nat.lt_trichotomy j0 j1 with g | g | g
  · rcases h.so g h2 with z | z
    · rw [hy, Int32.lt_iff_toInt_lt] at z; omega
    · rw [h.wv h1, h.wv h2, nI_leI (tn_l _) (tn_l _)] at hx
      omega
  · exact absurd g hn
  · exact g

set_option maxHeartbeats 4000000 in
set_option maxRecDepth 100000 in
theorem c_X4_bids {l : Launch} {x : Sh} {a b : Mem} {o : Out} (hfl : l.stackTraces = false) {q : Mem} (hW : WC q) (hI : IQ q) (hR : RR q b) {T : Nat} (hB : BB q b 0 T) : MG l x yX4_bids cX4_bids 3 (some .int) 0 40 [.ref (x.2.1 70)] a b o (QI x o (FI (q 13 3) a (up2 b 70 0 0))) := by
  refine MG.of (maxL := 3) (ret := (some .int)) hfl (by decide) [some (.ref (x.2.1 70)), none, none] rfl rfl (Nat.le_of_ble_eq_true rfl) ?_
  intro pP eE sS mM argsA belowB methM cC C hr
  refine V_aload_n C dX4_bids_0 rfl ?_
  refine V_iconst (v := 0) C dX4_bids_1 (by decide) ?_
  refine pt_X4_thrown C fk_X4_59 dX4_bids_2 ?_
  refine V_iconst (v := nI 0) C dX4_bids_5 (by decide) ?_
  refine V_istore_n1 C dX4_bids_6 (by decide) ?_
  refine V_iconst (v := 0) C dX4_bids_7 (by decide) ?_
  refine V_istore_n2 C dX4_bids_8 (by decide) ?_
  have L9 : ∀ (fuel : Nat) (k : Nat), k ≤ 120 → 120 - k < fuel → VV pP l eE ({ frames := 0, cells := 0, slots := 0, locals := 40 } : Room) sS mM argsA belowB methM cC (MQ belowB (QI x o (FI (q 13 3) a (up2 b 70 0 0)) sS.heap.size) argsA sS 0 0 (AW x sS.heap.size)) x 3 a (up2 b 70 0 0) o 0 0 9 [some (.ref (x.2.1 70)), some (.int (nI (cntN (posB b) k))), some (.int (nI k))] [] := by
    intro fuel
    induction fuel with
    | zero => intro k hk hm; exact absurd hm (Nat.not_lt_zero _)
    | succ fuel ih9 =>
      intro k hk hm
      refine V_iload_n C dX4_bids_9 rfl ?_
      refine V_bipush (v := nI 120) C dX4_bids_10 (by decide) ?_
      refine V_lt C 38 dX4_bids_12 (by decide) (by omega) (by omega) (fun h12 => ?_) (fun h12 => ?_)
      · have e9 : k = 120 := by omega
        subst e9
        refine V_iload_n C dX4_bids_38 rfl ?_
        exact V_ireti C hr dX4_bids_39 ⟨by rw [hB.cnt hW hI]; exact hW.be.symm, rfl, rfl⟩
      · refine V_iload_n C dX4_bids_15 rfl ?_
        refine V_aload_n C dX4_bids_16 rfl ?_
        refine gt_X4_bid C fk_X4_35 dX4_bids_17 ?_
        refine V_iload_n C dX4_bids_20 rfl ?_
        refine la_m_bid C _ rfl (by omega) dX4_bids_21 ?_
        refine V_if_le C 29 dX4_bids_22 (by decide) (fun h22 => ?_) (fun h22 => ?_)
        · refine V_iconst (v := 0) C dX4_bids_29 (by decide) ?_
          refine V_iadd C dX4_bids_30 ?_
          first | refine V_topi (nI_1 _) ?_ | refine V_topi (Int32.add_zero _) ?_
          refine V_istore_n1 C dX4_bids_31 (by decide) ?_
          refine V_iinc_2 C _ dX4_bids_32 (nI_1 _) (by decide) ?_
          refine V_goto C 9 dX4_bids_35 (by decide) ?_
          have ih := ih9 (k + 1) (by omega) (by omega)
          first
            | (rw [show cntN (posB b) (k + 1) = cntN (posB b) k + 1 by (rw [cntN, show posB b k = true from decide_eq_true h22]; rfl)] at ih; exact ih)
            | (rw [show cntN (posB b) (k + 1) = cntN (posB b) k by (rw [cntN, show posB b k = false from decide_eq_false (fun z => z h22)]; rfl)] at ih; exact ih)
        · refine V_iconst (v := 1) C dX4_bids_25 (by decide) ?_
          refine V_goto C 30 dX4_bids_26 (by decide) ?_
          refine V_iadd C dX4_bids_30 ?_
          first | refine V_topi (nI_1 _) ?_ | refine V_topi (Int32.add_zero _) ?_
          refine V_istore_n1 C dX4_bids_31 (by decide) ?_
          refine V_iinc_2 C _ dX4_bids_32 (nI_1 _) (by decide) ?_
          refine V_goto C 9 dX4_bids_35 (by decide) ?_
          have ih := ih9 (k + 1) (by omega) (by omega)
          first
            | (rw [show cntN (posB b) (k + 1) = cntN (posB b) k + 1 by (rw [cntN, show posB b k = true from decide_eq_true h22]; rfl)] at ih; exact ih)
            | (rw [show cntN (posB b) (k + 1) = cntN (posB b) k by (rw [cntN, show posB b k = false from decide_eq_false (fun z => z h22)]; rfl)] at ih; exact ih)
  exact L9 _ 0 (Nat.zero_le _) (Nat.lt_succ_self _)
set_option maxHeartbeats 4000000 in
set_option maxRecDepth 100000 in
theorem c_X4_unbid {l : Launch} {x : Sh} {a b : Mem} {o : Out} (hfl : l.stackTraces = false) {q : Mem} (hW : WC q) (hI : IQ q) (hR : RR q b) {p w : Int32} {T : Nat} (hB : BB q b 0 T) : MG l x yX4_unbid cX4_unbid 4 (some .int) 6 280 [.ref (x.2.1 70), .int p, .int w] a b o (QI x o (FI (rd (g3_unbid q p w) (ptB q p w (bW q))) a (mm [eI, eN] (g3_unbid q p w) b (up2 (up2 b 70 0 0) 79 (tn p * 12 + tn w) 0)))) := by
  refine MG.of (maxL := 4) (ret := (some .int)) hfl (by decide) [some (.ref (x.2.1 70)), some (.int p), some (.int w), none] rfl rfl (Nat.le_of_ble_eq_true rfl) ?_
  intro pP eE sS mM argsA belowB methM cC C hr
  have ho12 := hW.ol
  have hp10 := hW.pl
  have he6 := hW.el
  obtain ⟨gg, hG⟩ : ∃ gg, gg = (g3_unbid q p w) := ⟨_, rfl⟩
  rw [← hG]
  refine V_aload_n C dX4_unbid_0 rfl ?_
  refine V_aload_n C dX4_unbid_1 rfl ?_
  refine V_iload_n C dX4_unbid_2 rfl ?_
  refine V_callf (R_V C (c_X4_isPupil hfl hW hI hR) mi_X4_isPupil mk_X4_90 rfl (by omega) rfl (rfl : vwCl[6]? = some (RX4, TX4, 24)) (by decide) rfl (Nat.le_of_ble_eq_true rfl) (by decide) dX4_unbid_3) ?_
  refine V_ifb_eq C 17 dX4_unbid_6 (by decide) (fun h6 => ?_) (fun h6 => ?_)
  · refine V_iconst (v := 1) C dX4_unbid_17 (by decide) ?_
    refine V_goto C 39 dX4_unbid_18 (by decide) ?_
    refine pt_X4_thrown C fk_X4_59 dX4_unbid_39 ?_
    refine V_aload_n C dX4_unbid_42 rfl ?_
    refine gt_X4_thrown C fk_X4_59 dX4_unbid_43 ?_
    refine V_topi (show _ = (1 : Int32) from rfl) ?_
    refine V_if_le C 51 dX4_unbid_46 (by decide) (fun h46 => ?_) (fun h46 => ?_)
    · exact absurd h46 (by decide)
    · refine V_iconst (v := 0) C dX4_unbid_49 (by decide) ?_
      have hg : gg = some eI := hG.trans (by first | (simp [g3_unbid, gS, gO, h6, h46]; done))
      exact V_ireti C hr dX4_unbid_50 ⟨by rw [hg]; exact rfl, rfl, by rw [hg]; exact (by first | exact up2_2 | exact up2_2.trans up2_2 | rfl)⟩
  · obtain ⟨jp, hjp, jpe⟩ := ix_of (E := eI) (gO_n.mpr h6) hW.pe (by omega)
    subst jpe
    have tjp : tn (nI jp) = jp := tn_nI (by omega)
    try rw [tjp]
    refine V_aload_n C dX4_unbid_9 rfl ?_
    refine V_iload_n C dX4_unbid_10 rfl ?_
    refine V_callf (R_V C (c_X4_isOffer hfl hW hI hR) mi_X4_isOffer mk_X4_93 rfl (by omega) rfl (rfl : vwCl[6]? = some (RX4, TX4, 24)) (by decide) rfl (Nat.le_of_ble_eq_true rfl) (by decide) dX4_unbid_11) ?_
    refine V_ifb_ne C 21 dX4_unbid_14 (by decide) (fun h14 => ?_) (fun h14 => ?_)
    · obtain ⟨iw, hiw, iwe⟩ := ix_of (E := eI) (gO_n.mpr h14) hW.oe (by omega)
      subst iwe
      have tiw : tn (nI iw) = iw := tn_nI (by omega)
      try rw [tiw]
      refine V_aload_n C dX4_unbid_21 rfl ?_
      refine gt_X4_bid C fk_X4_35 dX4_unbid_22 ?_
      refine V_iload_n C dX4_unbid_25 rfl ?_
      refine V_iload_n C dX4_unbid_26 rfl ?_
      refine V_callf (R_S C (c_X4_pair hfl) mi_X4_pair mk_X4_96 rfl (by decide) rfl (Nat.le_of_ble_eq_true rfl) (by decide) dX4_unbid_27) ?_
      refine la_m_bid C _ rfl (by omega) dX4_unbid_30 ?_
      refine V_topi (hB.pt hW (by omega) (by omega)) ?_
      refine V_if_ne C 38 dX4_unbid_31 (by decide) (fun h31 => ?_) (fun h31 => ?_)
      · refine V_iconst (v := 0) C dX4_unbid_38 (by decide) ?_
        refine pt_X4_thrown C fk_X4_59 dX4_unbid_39 ?_
        refine V_aload_n C dX4_unbid_42 rfl ?_
        refine gt_X4_thrown C fk_X4_59 dX4_unbid_43 ?_
        refine V_topi (show _ = (0 : Int32) from rfl) ?_
        refine V_if_le C 51 dX4_unbid_46 (by decide) (fun h46 => ?_) (fun h46 => ?_)
        · refine V_aload_n C dX4_unbid_51 rfl ?_
          refine gt_X4_bid C fk_X4_35 dX4_unbid_52 ?_
          refine V_iload_n C dX4_unbid_55 rfl ?_
          refine V_iload_n C dX4_unbid_56 rfl ?_
          refine V_callf (R_S C (c_X4_pair hfl) mi_X4_pair mk_X4_96 rfl (by decide) rfl (Nat.le_of_ble_eq_true rfl) (by decide) dX4_unbid_57) ?_
          refine la_m_bid C _ rfl (by omega) dX4_unbid_60 ?_
          refine V_topi (hB.th.pt hW (by omega) (by omega)) ?_
          refine V_istore_n3 C dX4_unbid_61 (by decide) ?_
          refine V_aload_n C dX4_unbid_62 rfl ?_
          refine gt_X4_bid C fk_X4_35 dX4_unbid_63 ?_
          refine V_iload_n C dX4_unbid_66 rfl ?_
          refine V_iload_n C dX4_unbid_67 rfl ?_
          refine V_callf (R_S C (c_X4_pair hfl) mi_X4_pair mk_X4_96 rfl (by decide) rfl (Nat.le_of_ble_eq_true rfl) (by decide) dX4_unbid_68) ?_
          refine V_iconst (v := 0) C dX4_unbid_71 (by decide) ?_
          refine sa_m_bid C _ rfl (by omega) dX4_unbid_72 ?_
          refine V_iload_n C dX4_unbid_73 rfl ?_
          have hg : gg = none := hG.trans (by first | (simp [g3_unbid, gS, gO, h6, h14, h31, h46]; done))
          exact V_ireti C hr dX4_unbid_74 ⟨by rw [hg]; exact rfl, rfl, by rw [hg]; exact (by first | exact up2_2 | exact up2_2.trans up2_2 | rfl)⟩
        · exact absurd h46 (by decide)
      · refine V_iconst (v := 2) C dX4_unbid_34 (by decide) ?_
        refine V_goto C 39 dX4_unbid_35 (by decide) ?_
        refine pt_X4_thrown C fk_X4_59 dX4_unbid_39 ?_
        refine V_aload_n C dX4_unbid_42 rfl ?_
        refine gt_X4_thrown C fk_X4_59 dX4_unbid_43 ?_
        refine V_topi (show _ = (2 : Int32) from rfl) ?_
        refine V_if_le C 51 dX4_unbid_46 (by decide) (fun h46 => ?_) (fun h46 => ?_)
        · exact absurd h46 (by decide)
        · refine V_iconst (v := 0) C dX4_unbid_49 (by decide) ?_
          have hg : gg = some eN := hG.trans (by first | (simp [g3_unbid, gS, gO, h6, h14, h31, h46]; done))
          exact V_ireti C hr dX4_unbid_50 ⟨by rw [hg]; exact rfl, rfl, by rw [hg]; exact (by first | exact up2_2 | exact up2_2.trans up2_2 | rfl)⟩
    · refine V_iconst (v := 1) C dX4_unbid_17 (by decide) ?_
      refine V_goto C 39 dX4_unbid_18 (by decide) ?_
      refine pt_X4_thrown C fk_X4_59 dX4_unbid_39 ?_
      refine V_aload_n C dX4_unbid_42 rfl ?_
      refine gt_X4_thrown C fk_X4_59 dX4_unbid_43 ?_
      refine V_topi (show _ = (1 : Int32) from rfl) ?_
      refine V_if_le C 51 dX4_unbid_46 (by decide) (fun h46 => ?_) (fun h46 => ?_)
      · exact absurd h46 (by decide)
      · refine V_iconst (v := 0) C dX4_unbid_49 (by decide) ?_
        have hg : gg = some eI := hG.trans (by first | (simp [g3_unbid, gS, gO, h6, h14, h46]; done))
        exact V_ireti C hr dX4_unbid_50 ⟨by rw [hg]; exact rfl, rfl, by rw [hg]; exact (by first | exact up2_2 | exact up2_2.trans up2_2 | rfl)⟩
set_option maxHeartbeats 4000000 in
set_option maxRecDepth 100000 in
theorem c_X4_bid {l : Launch} {x : Sh} {a b : Mem} {o : Out} (hfl : l.stackTraces = false) {q : Mem} (hW : WC q) (hI : IQ q) (hR : RR q b) {p w v : Int32} {T : Nat} (hB : BB q b 0 T) : MG l x yX4_bid cX4_bid 6 (some .int) 6 280 [.ref (x.2.1 70), .int p, .int w, .int v] a b o (QI x o (FI (rd (g3_bid q p w v) (s3_bid q p w v)) a (mm [eI, eA, eU] (g3_bid q p w v) b (up2 (up2 (up2 (up2 (up2 b 70 0 0) 70 0 0) 79 (tn p * 12 + tn w) v) 80 (tn p * 12 + tn w) (b 70 7)) 70 7 (b 70 7 + 1))))) := by
  refine MG.of (maxL := 6) (ret := (some .int)) hfl (by decide) [some (.ref (x.2.1 70)), some (.int p), some (.int w), some (.int v), none, none] rfl rfl (Nat.le_of_ble_eq_true rfl) ?_
  intro pP eE sS mM argsA belowB methM cC C hr
  have ho12 := hW.ol
  have hp10 := hW.pl
  have he6 := hW.el
  obtain ⟨gg, hG⟩ : ∃ gg, gg = (g3_bid q p w v) := ⟨_, rfl⟩
  rw [← hG]
  refine V_aload_n C dX4_bid_0 rfl ?_
  refine V_aload_n C dX4_bid_1 rfl ?_
  refine V_iload_n C dX4_bid_2 rfl ?_
  refine V_callf (R_V C (c_X4_isPupil hfl hW hI hR) mi_X4_isPupil mk_X4_90 rfl (by omega) rfl (rfl : vwCl[6]? = some (RX4, TX4, 24)) (by decide) rfl (Nat.le_of_ble_eq_true rfl) (by decide) dX4_bid_3) ?_
  refine V_ifb_eq C 17 dX4_bid_6 (by decide) (fun h6 => ?_) (fun h6 => ?_)
  · refine V_iconst (v := 1) C dX4_bid_17 (by decide) ?_
    refine V_goto C 36 dX4_bid_18 (by decide) ?_
    refine pt_X4_thrown C fk_X4_59 dX4_bid_36 ?_
    refine V_iload_n C dX4_bid_39 rfl ?_
    refine V_istore_4 C dX4_bid_40 (by decide) ?_
    refine V_iconst (v := nI 0) C dX4_bid_42 (by decide) ?_
    refine V_istore_5 C dX4_bid_43 (by decide) ?_
    refine V_iload C dX4_bid_45 rfl ?_
    refine V_aload_n C dX4_bid_47 rfl ?_
    refine gt_X4_offers C fk_X4_73 dX4_bid_48 ?_
    refine V_topi (hR.th.c4.trans hW.oe) ?_
    refine V_lt C 93 dX4_bid_51 (by decide) (by omega) (by omega) (fun h51 => ?_) (fun h51 => ?_)
    · try (have e9 : k = nO q := by omega
           subst e9
           rw [exB_sum hW hI (by omega) (by omega)])
      refine V_aload_n C dX4_bid_93 rfl ?_
      refine gt_X4_thrown C fk_X4_59 dX4_bid_94 ?_
      refine V_topi (show _ = (1 : Int32) from rfl) ?_
      refine V_if_ne C 134 dX4_bid_97 (by decide) (fun h97 => ?_) (fun h97 => ?_)
      · refine V_aload_n C dX4_bid_134 rfl ?_
        refine gt_X4_thrown C fk_X4_59 dX4_bid_135 ?_
        refine V_topi (show _ = (1 : Int32) from rfl) ?_
        refine V_if_le C 143 dX4_bid_138 (by decide) (fun h138 => ?_) (fun h138 => ?_)
        · exact absurd h138 (by decide)
        · refine V_iconst (v := 0) C dX4_bid_141 (by decide) ?_
          have hg : gg = some eI := hG.trans (by unfold g3_bid; rw [← inR_le]; first | (simp [gS, gO, h6, h51, h97, h138]; done) | (simp [gS, gO, tjp, tiw, h6, h51, h97, h138]; done))
          exact V_ireti C hr dX4_bid_142 ⟨by rw [hg]; exact rfl, rfl, by rw [hg]; exact (by first | exact up2_2 | exact up2_2.trans up2_2 | rfl)⟩
      · exact absurd h97 (by decide)
    · refine V_aload_n C dX4_bid_54 rfl ?_
      refine gt_X4_thrown C fk_X4_59 dX4_bid_55 ?_
      refine V_topi (show _ = (1 : Int32) from rfl) ?_
      refine V_if_ne C 93 dX4_bid_58 (by decide) (fun h58 => ?_) (fun h58 => ?_)
      · refine V_aload_n C dX4_bid_93 rfl ?_
        refine gt_X4_thrown C fk_X4_59 dX4_bid_94 ?_
        refine V_topi (show _ = (1 : Int32) from rfl) ?_
        refine V_if_ne C 134 dX4_bid_97 (by decide) (fun h97 => ?_) (fun h97 => ?_)
        · refine V_aload_n C dX4_bid_134 rfl ?_
          refine gt_X4_thrown C fk_X4_59 dX4_bid_135 ?_
          refine V_topi (show _ = (1 : Int32) from rfl) ?_
          refine V_if_le C 143 dX4_bid_138 (by decide) (fun h138 => ?_) (fun h138 => ?_)
          · exact absurd h138 (by decide)
          · refine V_iconst (v := 0) C dX4_bid_141 (by decide) ?_
            have hg : gg = some eI := hG.trans (by unfold g3_bid; rw [← inR_le]; first | (simp [gS, gO, h6, h51, h58, h97, h138]; done) | (simp [gS, gO, tjp, tiw, h6, h51, h58, h97, h138]; done))
            exact V_ireti C hr dX4_bid_142 ⟨by rw [hg]; exact rfl, rfl, by rw [hg]; exact (by first | exact up2_2 | exact up2_2.trans up2_2 | rfl)⟩
        · exact absurd h97 (by decide)
      · exact absurd h58 (by decide)
  · obtain ⟨jp, hjp, jpe⟩ := ix_of (E := eI) (gO_n.mpr h6) hW.pe (by omega)
    subst jpe
    have tjp : tn (nI jp) = jp := tn_nI (by omega)
    try rw [tjp]
    refine V_aload_n C dX4_bid_9 rfl ?_
    refine V_iload_n C dX4_bid_10 rfl ?_
    refine V_callf (R_V C (c_X4_isOffer hfl hW hI hR) mi_X4_isOffer mk_X4_93 rfl (by omega) rfl (rfl : vwCl[6]? = some (RX4, TX4, 24)) (by decide) rfl (Nat.le_of_ble_eq_true rfl) (by decide) dX4_bid_11) ?_
    refine V_ifb_ne C 21 dX4_bid_14 (by decide) (fun h14 => ?_) (fun h14 => ?_)
    · obtain ⟨iw, hiw, iwe⟩ := ix_of (E := eI) (gO_n.mpr h14) hW.oe (by omega)
      subst iwe
      have tiw : tn (nI iw) = iw := tn_nI (by omega)
      try rw [tiw]
      have hs5 := hW.sll (i := iw) (by omega)
      refine V_iload_n C dX4_bid_21 rfl ?_
      refine V_iconst (v := 1) C dX4_bid_22 (by decide) ?_
      refine V_bipush (v := 100) C dX4_bid_23 (by decide) ?_
      refine V_callf (R_S C (c_X4_in hfl) mi_X4_in mk_X4_66 rfl (by decide) rfl (Nat.le_of_ble_eq_true rfl) (by decide) dX4_bid_25) ?_
      refine V_ifb_ne C 35 dX4_bid_28 (by decide) (fun h28 => ?_) (fun h28 => ?_)
      · refine V_iconst (v := 0) C dX4_bid_35 (by decide) ?_
        refine pt_X4_thrown C fk_X4_59 dX4_bid_36 ?_
        refine V_iload_n C dX4_bid_39 rfl ?_
        refine V_istore_4 C dX4_bid_40 (by decide) ?_
        refine V_iconst (v := nI 0) C dX4_bid_42 (by decide) ?_
        refine V_istore_5 C dX4_bid_43 (by decide) ?_
        have L45 : ∀ (fuel : Nat) (k : Nat), k ≤ nO q → nO q - k < fuel → VV pP l eE ({ frames := 6, cells := 0, slots := 0, locals := 280 } : Room) sS mM argsA belowB methM cC (MQ belowB (QI x o (FI (rd gg (s3_bid q (nI jp) (nI iw) v)) a (mm [eI, eA, eU] gg b (up2 (up2 (up2 (up2 (up2 b 70 0 0) 70 0 0) 79 (jp * 12 + iw) v) 80 (jp * 12 + iw) (b 70 7)) 70 7 (b 70 7 + 1)))) sS.heap.size) argsA sS 0 0 (AW x sS.heap.size)) x 6 a (up2 b 70 0 0) o 0 0 45 [some (.ref (x.2.1 70)), some (.int (nI jp)), some (.int (nI iw)), some (.int v), some (.int (v + sumN (exB q jp iw) k)), some (.int (nI k))] [] := by
          intro fuel
          induction fuel with
          | zero => intro k hk hm; exact absurd hm (Nat.not_lt_zero _)
          | succ fuel ih45 =>
            intro k hk hm
            refine V_iload C dX4_bid_45 rfl ?_
            refine V_aload_n C dX4_bid_47 rfl ?_
            refine gt_X4_offers C fk_X4_73 dX4_bid_48 ?_
            refine V_topi (hR.th.c4.trans hW.oe) ?_
            refine V_lt C 93 dX4_bid_51 (by decide) (by omega) (by omega) (fun h51 => ?_) (fun h51 => ?_)
            · try (have e9 : k = nO q := by omega
                   subst e9
                   rw [exB_sum hW hI (by omega) (by omega)])
              refine V_aload_n C dX4_bid_93 rfl ?_
              refine gt_X4_thrown C fk_X4_59 dX4_bid_94 ?_
              refine V_topi (show _ = (0 : Int32) from rfl) ?_
              refine V_if_ne C 134 dX4_bid_97 (by decide) (fun h97 => ?_) (fun h97 => ?_)
              · exact absurd h97 (by decide)
              · refine V_aload_n C dX4_bid_100 rfl ?_
                refine V_aload_n C dX4_bid_101 rfl ?_
                refine gt_X4_isSat C fk_X4_53 dX4_bid_102 ?_
                refine V_aload_n C dX4_bid_105 rfl ?_
                refine gt_X4_slot C fk_X4_16 dX4_bid_106 ?_
                refine V_iload_n C dX4_bid_109 rfl ?_
                refine la_m_slot C _ rfl (by omega) dX4_bid_110 ?_
                refine V_topi ((hR.th.sl (by omega)).trans (hW.sle (by omega))) ?_
                refine la_m_isSat C _ rfl (by omega) dX4_bid_111 ?_
                refine V_topi (hR.th.sat (by omega)) ?_
                refine V_if_ne C 126 dX4_bid_112 (by decide) (fun h112 => ?_) (fun h112 => ?_)
                · have h112 : clB q iw = true := decide_eq_true h112
                  refine V_iconst (v := 3) C dX4_bid_126 (by decide) ?_
                  refine V_goto C 131 dX4_bid_127 (by decide) ?_
                  refine pt_X4_thrown C fk_X4_59 dX4_bid_131 ?_
                  refine V_aload_n C dX4_bid_134 rfl ?_
                  refine gt_X4_thrown C fk_X4_59 dX4_bid_135 ?_
                  refine V_topi (show _ = (3 : Int32) from rfl) ?_
                  refine V_if_le C 143 dX4_bid_138 (by decide) (fun h138 => ?_) (fun h138 => ?_)
                  · exact absurd h138 (by decide)
                  · refine V_iconst (v := 0) C dX4_bid_141 (by decide) ?_
                    have hg : gg = some eU := hG.trans (by unfold g3_bid; rw [← inR_le]; first | (simp [gS, gO, h6, h14, h28, h51, h97, h112, h138]; done) | (simp [gS, gO, tjp, tiw, h6, h14, h28, h51, h97, h112, h138]; done))
                    exact V_ireti C hr dX4_bid_142 ⟨by rw [hg]; exact rfl, rfl, by rw [hg]; exact (by first | exact up2_2 | exact up2_2.trans up2_2 | rfl)⟩
                · have h112 : clB q iw = false := decide_eq_false (fun z => z h112)
                  refine V_iload C dX4_bid_115 rfl ?_
                  refine V_aload_n C dX4_bid_117 rfl ?_
                  refine gt_X4_points C fk_X4_50 dX4_bid_118 ?_
                  refine V_iload_n C dX4_bid_121 rfl ?_
                  refine la_m_points C _ rfl (by omega) dX4_bid_122 ?_
                  refine V_topi (hR.th.pt (by omega)) ?_
                  refine V_icmp_le C 130 dX4_bid_123 (by decide) (fun h123 => ?_) (fun h123 => ?_)
                  · refine V_iconst (v := 0) C dX4_bid_130 (by decide) ?_
                    refine pt_X4_thrown C fk_X4_59 dX4_bid_131 ?_
                    refine V_aload_n C dX4_bid_134 rfl ?_
                    refine gt_X4_thrown C fk_X4_59 dX4_bid_135 ?_
                    refine V_topi (show _ = (0 : Int32) from rfl) ?_
                    refine V_if_le C 143 dX4_bid_138 (by decide) (fun h138 => ?_) (fun h138 => ?_)
                    · refine V_aload_n C dX4_bid_143 rfl ?_
                      refine gt_X4_bid C fk_X4_35 dX4_bid_144 ?_
                      refine V_iload_n C dX4_bid_147 rfl ?_
                      refine V_iload_n C dX4_bid_148 rfl ?_
                      refine V_callf (R_S C (c_X4_pair hfl) mi_X4_pair mk_X4_96 rfl (by decide) rfl (Nat.le_of_ble_eq_true rfl) (by decide) dX4_bid_149) ?_
                      refine V_iload_n C dX4_bid_152 rfl ?_
                      refine sa_m_bid C _ rfl (by omega) dX4_bid_153 ?_
                      refine V_aload_n C dX4_bid_154 rfl ?_
                      refine gt_X4_when C fk_X4_38 dX4_bid_155 ?_
                      refine V_iload_n C dX4_bid_158 rfl ?_
                      refine V_iload_n C dX4_bid_159 rfl ?_
                      refine V_callf (R_S C (c_X4_pair hfl) mi_X4_pair mk_X4_96 rfl (by decide) rfl (Nat.le_of_ble_eq_true rfl) (by decide) dX4_bid_160) ?_
                      refine V_aload_n C dX4_bid_163 rfl ?_
                      refine gt_X4_told C fk_X4_100 dX4_bid_164 ?_
                      refine sa_m_when C _ rfl (by omega) dX4_bid_167 ?_
                      refine V_aload_n C dX4_bid_168 rfl ?_
                      refine V_dup C dX4_bid_169 rfl ?_
                      refine gt_X4_told C fk_X4_100 dX4_bid_170 ?_
                      refine V_iconst (v := 1) C dX4_bid_173 (by decide) ?_
                      refine V_iadd C dX4_bid_174 ?_
                      refine pt_X4_told C fk_X4_100 dX4_bid_175 ?_
                      refine V_iload C dX4_bid_178 rfl ?_
                      have hg : gg = none := hG.trans (by unfold g3_bid; rw [← inR_le]; first | (simp [gS, gO, h6, h14, h28, h51, h97, h112, h123, h138]; done) | (simp [gS, gO, tjp, tiw, h6, h14, h28, h51, h97, h112, h123, h138]; done))
                      exact V_ireti C hr dX4_bid_180 ⟨by rw [hg]; exact rfl, rfl, by rw [hg]; exact (by first | exact up2_2 | exact up2_2.trans up2_2 | rfl)⟩
                    · exact absurd h138 (by decide)
                  · refine V_iconst (v := 3) C dX4_bid_126 (by decide) ?_
                    refine V_goto C 131 dX4_bid_127 (by decide) ?_
                    refine pt_X4_thrown C fk_X4_59 dX4_bid_131 ?_
                    refine V_aload_n C dX4_bid_134 rfl ?_
                    refine gt_X4_thrown C fk_X4_59 dX4_bid_135 ?_
                    refine V_topi (show _ = (3 : Int32) from rfl) ?_
                    refine V_if_le C 143 dX4_bid_138 (by decide) (fun h138 => ?_) (fun h138 => ?_)
                    · exact absurd h138 (by decide)
                    · refine V_iconst (v := 0) C dX4_bid_141 (by decide) ?_
                      have hg : gg = some eU := hG.trans (by unfold g3_bid; rw [← inR_le]; first | (simp [gS, gO, h6, h14, h28, h51, h97, h112, h123, h138]; done) | (simp [gS, gO, tjp, tiw, h6, h14, h28, h51, h97, h112, h123, h138]; done))
                      exact V_ireti C hr dX4_bid_142 ⟨by rw [hg]; exact rfl, rfl, by rw [hg]; exact (by first | exact up2_2 | exact up2_2.trans up2_2 | rfl)⟩
            · refine V_aload_n C dX4_bid_54 rfl ?_
              refine gt_X4_thrown C fk_X4_59 dX4_bid_55 ?_
              refine V_topi (show _ = (0 : Int32) from rfl) ?_
              refine V_if_ne C 93 dX4_bid_58 (by decide) (fun h58 => ?_) (fun h58 => ?_)
              · exact absurd h58 (by decide)
              · refine V_iload C dX4_bid_61 rfl ?_
                refine V_iload C dX4_bid_63 rfl ?_
                refine V_iload_n C dX4_bid_65 rfl ?_
                refine V_icmp_ne C 73 dX4_bid_66 (by decide) (fun h66 => ?_) (fun h66 => ?_)
                · have h66 : ¬ k = iw := fun z => h66 ((nI_eq (by omega) (by omega)).mpr z)
                  refine V_aload_n C dX4_bid_73 rfl ?_
                  refine gt_X4_bid C fk_X4_35 dX4_bid_74 ?_
                  refine V_iload_n C dX4_bid_77 rfl ?_
                  refine V_iload C dX4_bid_78 rfl ?_
                  refine V_callf (R_S C (c_X4_pair hfl) mi_X4_pair mk_X4_96 rfl (by decide) rfl (Nat.le_of_ble_eq_true rfl) (by decide) dX4_bid_80) ?_
                  refine la_m_bid C _ rfl (by omega) dX4_bid_83 ?_
                  refine V_topi (hB.th.pt hW (by omega) (by omega)) ?_
                  refine V_iadd C dX4_bid_84 ?_
                  refine V_topi (Int32.add_assoc _ _ _) ?_
                  refine V_istore_4 C dX4_bid_85 (by decide) ?_
                  refine V_iinc_5 C _ dX4_bid_87 (nI_1 _) (by decide) ?_
                  refine V_goto C 45 dX4_bid_90 (by decide) ?_
                  have ih := ih45 (k + 1) (by omega) (by omega)
                  first
                    | (rw [show sumN (exB q jp iw) (k + 1) = sumN (exB q jp iw) k + 0 by (rw [sumN, exB, if_pos h66])] at ih; exact ih)
                    | (rw [show sumN (exB q jp iw) (k + 1) = sumN (exB q jp iw) k + ptB q (nI jp) (nI k) (bW q) by (rw [sumN, exB, if_neg h66])] at ih; exact ih)
                · have h66 : k = iw := (nI_eq (by omega) (by omega)).mp h66
                  refine V_iconst (v := 0) C dX4_bid_69 (by decide) ?_
                  refine V_goto C 84 dX4_bid_70 (by decide) ?_
                  refine V_iadd C dX4_bid_84 ?_
                  refine V_topi (Int32.add_assoc _ _ _) ?_
                  refine V_istore_4 C dX4_bid_85 (by decide) ?_
                  refine V_iinc_5 C _ dX4_bid_87 (nI_1 _) (by decide) ?_
                  refine V_goto C 45 dX4_bid_90 (by decide) ?_
                  have ih := ih45 (k + 1) (by omega) (by omega)
                  first
                    | (rw [show sumN (exB q jp iw) (k + 1) = sumN (exB q jp iw) k + 0 by (rw [sumN, exB, if_pos h66])] at ih; exact ih)
                    | (rw [show sumN (exB q jp iw) (k + 1) = sumN (exB q jp iw) k + ptB q (nI jp) (nI k) (bW q) by (rw [sumN, exB, if_neg h66])] at ih; exact ih)
        have L := L45 _ 0 (Nat.zero_le _) (Nat.lt_succ_self _)
        rw [show v + sumN (exB q jp iw) 0 = v from Int32.add_zero v] at L
        exact L
      · refine V_iconst (v := 2) C dX4_bid_31 (by decide) ?_
        refine V_goto C 36 dX4_bid_32 (by decide) ?_
        refine pt_X4_thrown C fk_X4_59 dX4_bid_36 ?_
        refine V_iload_n C dX4_bid_39 rfl ?_
        refine V_istore_4 C dX4_bid_40 (by decide) ?_
        refine V_iconst (v := nI 0) C dX4_bid_42 (by decide) ?_
        refine V_istore_5 C dX4_bid_43 (by decide) ?_
        refine V_iload C dX4_bid_45 rfl ?_
        refine V_aload_n C dX4_bid_47 rfl ?_
        refine gt_X4_offers C fk_X4_73 dX4_bid_48 ?_
        refine V_topi (hR.th.c4.trans hW.oe) ?_
        refine V_lt C 93 dX4_bid_51 (by decide) (by omega) (by omega) (fun h51 => ?_) (fun h51 => ?_)
        · try (have e9 : k = nO q := by omega
               subst e9
               rw [exB_sum hW hI (by omega) (by omega)])
          refine V_aload_n C dX4_bid_93 rfl ?_
          refine gt_X4_thrown C fk_X4_59 dX4_bid_94 ?_
          refine V_topi (show _ = (2 : Int32) from rfl) ?_
          refine V_if_ne C 134 dX4_bid_97 (by decide) (fun h97 => ?_) (fun h97 => ?_)
          · refine V_aload_n C dX4_bid_134 rfl ?_
            refine gt_X4_thrown C fk_X4_59 dX4_bid_135 ?_
            refine V_topi (show _ = (2 : Int32) from rfl) ?_
            refine V_if_le C 143 dX4_bid_138 (by decide) (fun h138 => ?_) (fun h138 => ?_)
            · exact absurd h138 (by decide)
            · refine V_iconst (v := 0) C dX4_bid_141 (by decide) ?_
              have hg : gg = some eA := hG.trans (by unfold g3_bid; rw [← inR_le]; first | (simp [gS, gO, h6, h14, h28, h51, h97, h138]; done) | (simp [gS, gO, tjp, tiw, h6, h14, h28, h51, h97, h138]; done))
              exact V_ireti C hr dX4_bid_142 ⟨by rw [hg]; exact rfl, rfl, by rw [hg]; exact (by first | exact up2_2 | exact up2_2.trans up2_2 | rfl)⟩
          · exact absurd h97 (by decide)
        · refine V_aload_n C dX4_bid_54 rfl ?_
          refine gt_X4_thrown C fk_X4_59 dX4_bid_55 ?_
          refine V_topi (show _ = (2 : Int32) from rfl) ?_
          refine V_if_ne C 93 dX4_bid_58 (by decide) (fun h58 => ?_) (fun h58 => ?_)
          · refine V_aload_n C dX4_bid_93 rfl ?_
            refine gt_X4_thrown C fk_X4_59 dX4_bid_94 ?_
            refine V_topi (show _ = (2 : Int32) from rfl) ?_
            refine V_if_ne C 134 dX4_bid_97 (by decide) (fun h97 => ?_) (fun h97 => ?_)
            · refine V_aload_n C dX4_bid_134 rfl ?_
              refine gt_X4_thrown C fk_X4_59 dX4_bid_135 ?_
              refine V_topi (show _ = (2 : Int32) from rfl) ?_
              refine V_if_le C 143 dX4_bid_138 (by decide) (fun h138 => ?_) (fun h138 => ?_)
              · exact absurd h138 (by decide)
              · refine V_iconst (v := 0) C dX4_bid_141 (by decide) ?_
                have hg : gg = some eA := hG.trans (by unfold g3_bid; rw [← inR_le]; first | (simp [gS, gO, h6, h14, h28, h51, h58, h97, h138]; done) | (simp [gS, gO, tjp, tiw, h6, h14, h28, h51, h58, h97, h138]; done))
                exact V_ireti C hr dX4_bid_142 ⟨by rw [hg]; exact rfl, rfl, by rw [hg]; exact (by first | exact up2_2 | exact up2_2.trans up2_2 | rfl)⟩
            · exact absurd h97 (by decide)
          · exact absurd h58 (by decide)
    · refine V_iconst (v := 1) C dX4_bid_17 (by decide) ?_
      refine V_goto C 36 dX4_bid_18 (by decide) ?_
      refine pt_X4_thrown C fk_X4_59 dX4_bid_36 ?_
      refine V_iload_n C dX4_bid_39 rfl ?_
      refine V_istore_4 C dX4_bid_40 (by decide) ?_
      refine V_iconst (v := nI 0) C dX4_bid_42 (by decide) ?_
      refine V_istore_5 C dX4_bid_43 (by decide) ?_
      refine V_iload C dX4_bid_45 rfl ?_
      refine V_aload_n C dX4_bid_47 rfl ?_
      refine gt_X4_offers C fk_X4_73 dX4_bid_48 ?_
      refine V_topi (hR.th.c4.trans hW.oe) ?_
      refine V_lt C 93 dX4_bid_51 (by decide) (by omega) (by omega) (fun h51 => ?_) (fun h51 => ?_)
      · try (have e9 : k = nO q := by omega
             subst e9
             rw [exB_sum hW hI (by omega) (by omega)])
        refine V_aload_n C dX4_bid_93 rfl ?_
        refine gt_X4_thrown C fk_X4_59 dX4_bid_94 ?_
        refine V_topi (show _ = (1 : Int32) from rfl) ?_
        refine V_if_ne C 134 dX4_bid_97 (by decide) (fun h97 => ?_) (fun h97 => ?_)
        · refine V_aload_n C dX4_bid_134 rfl ?_
          refine gt_X4_thrown C fk_X4_59 dX4_bid_135 ?_
          refine V_topi (show _ = (1 : Int32) from rfl) ?_
          refine V_if_le C 143 dX4_bid_138 (by decide) (fun h138 => ?_) (fun h138 => ?_)
          · exact absurd h138 (by decide)
          · refine V_iconst (v := 0) C dX4_bid_141 (by decide) ?_
            have hg : gg = some eI := hG.trans (by unfold g3_bid; rw [← inR_le]; first | (simp [gS, gO, h6, h14, h51, h97, h138]; done) | (simp [gS, gO, tjp, tiw, h6, h14, h51, h97, h138]; done))
            exact V_ireti C hr dX4_bid_142 ⟨by rw [hg]; exact rfl, rfl, by rw [hg]; exact (by first | exact up2_2 | exact up2_2.trans up2_2 | rfl)⟩
        · exact absurd h97 (by decide)
      · refine V_aload_n C dX4_bid_54 rfl ?_
        refine gt_X4_thrown C fk_X4_59 dX4_bid_55 ?_
        refine V_topi (show _ = (1 : Int32) from rfl) ?_
        refine V_if_ne C 93 dX4_bid_58 (by decide) (fun h58 => ?_) (fun h58 => ?_)
        · refine V_aload_n C dX4_bid_93 rfl ?_
          refine gt_X4_thrown C fk_X4_59 dX4_bid_94 ?_
          refine V_topi (show _ = (1 : Int32) from rfl) ?_
          refine V_if_ne C 134 dX4_bid_97 (by decide) (fun h97 => ?_) (fun h97 => ?_)
          · refine V_aload_n C dX4_bid_134 rfl ?_
            refine gt_X4_thrown C fk_X4_59 dX4_bid_135 ?_
            refine V_topi (show _ = (1 : Int32) from rfl) ?_
            refine V_if_le C 143 dX4_bid_138 (by decide) (fun h138 => ?_) (fun h138 => ?_)
            · exact absurd h138 (by decide)
            · refine V_iconst (v := 0) C dX4_bid_141 (by decide) ?_
              have hg : gg = some eI := hG.trans (by unfold g3_bid; rw [← inR_le]; first | (simp [gS, gO, h6, h14, h51, h58, h97, h138]; done) | (simp [gS, gO, tjp, tiw, h6, h14, h51, h58, h97, h138]; done))
              exact V_ireti C hr dX4_bid_142 ⟨by rw [hg]; exact rfl, rfl, by rw [hg]; exact (by first | exact up2_2 | exact up2_2.trans up2_2 | rfl)⟩
          · exact absurd h97 (by decide)
        · exact absurd h58 (by decide)
set_option maxHeartbeats 4000000 in
set_option maxRecDepth 100000 in
theorem c_X4_nextBid {l : Launch} {x : Sh} {a b : Mem} {o : Out} (hfl : l.stackTraces = false) {q : Mem} (hW : WC q) (hI : IQ q) {n T : Nat} (hB : BB q b n T) (hn : n ≤ bW q) : MG l x yX4_nextBid cX4_nextBid 4 (some .int) 0 40 [.ref (x.2.1 70)] a b o (QI x o (FI (if n < bW q then nI (ixN q n) else -1) a b)) := by
  refine MG.of (maxL := 4) (ret := (some .int)) hfl (by decide) [some (.ref (x.2.1 70)), none, none, none] rfl rfl (Nat.le_of_ble_eq_true rfl) ?_
  intro pP eE sS mM argsA belowB methM cC C hr
  refine V_iconst (v := -1) C dX4_nextBid_0 (by decide) ?_
  refine V_istore_n1 C dX4_nextBid_1 (by decide) ?_
  refine V_iconst (v := 0) C dX4_nextBid_2 (by decide) ?_
  refine V_istore_n2 C dX4_nextBid_3 (by decide) ?_
  have L4 : ∀ (fuel : Nat) (k : Nat), k ≤ 120 → 120 - k < fuel → VV pP l eE ({ frames := 0, cells := 0, slots := 0, locals := 40 } : Room) sS mM argsA belowB methM cC (MQ belowB (QI x o (FI (if n < bW q then nI (ixN q n) else -1) a b) sS.heap.size) argsA sS 0 0 (AW x sS.heap.size)) x 4 a b o 0 0 4 [some (.ref (x.2.1 70)), some (.int (nbV q n k)), some (.int (nI k)), none] [] := by
    intro fuel
    induction fuel with
    | zero => intro k hk hm; exact absurd hm (Nat.not_lt_zero _)
    | succ fuel ih4 =>
      intro k hk hm
      refine V_iload_n C dX4_nextBid_4 rfl ?_
      refine V_bipush (v := nI 120) C dX4_nextBid_5 (by decide) ?_
      refine V_lt C 91 dX4_nextBid_7 (by decide) (by omega) (by omega) (fun h7 => ?_) (fun h7 => ?_)
      · have e9 : k = 120 := by omega
        subst e9
        refine V_iload_n C dX4_nextBid_91 rfl ?_
        exact V_ireti C hr dX4_nextBid_92 ⟨nb_end hW hn, rfl, rfl⟩
      · refine V_aload_n C dX4_nextBid_10 rfl ?_
        refine gt_X4_bid C fk_X4_35 dX4_nextBid_11 ?_
        refine V_iload_n C dX4_nextBid_14 rfl ?_
        refine la_m_bid C _ rfl (by omega) dX4_nextBid_15 ?_
        refine V_if_le C 73 dX4_nextBid_16 (by decide) (fun h16 => ?_) (fun h16 => ?_)
        · refine V_iconst (v := 0) C dX4_nextBid_73 (by decide) ?_
          refine V_istore_n3 C dX4_nextBid_74 (by decide) ?_
          refine V_iload_n C dX4_nextBid_75 rfl ?_
          refine V_if_eq C 83 dX4_nextBid_76 (by decide) (fun h76 => ?_) (fun h76 => ?_)
          · refine V_iload_n C dX4_nextBid_83 rfl ?_
            refine V_istore_n1 C dX4_nextBid_84 (by decide) ?_
            refine V_iinc_2 C _ dX4_nextBid_85 (nI_1 _) (by decide) ?_
            refine V_goto C 4 dX4_nextBid_88 (by decide) ?_
            refine V_forget (lvLe.same (lvLe.same (lvLe.same (lvLe.drop lvLe.nil)))) ?_
            first
              | (have ih := ih4 (k + 1) (by omega) (by omega)
                 rw [nb_same (hB.dead hI h16)] at ih; exact ih)
              | (have ih := ih4 (ixN q j1 + 1) (by omega) (by omega)
                 rw [nb_at g1 g2 (by omega) (fun i hi hki hx => nb_none hW h21 i hki (by omega) (by have := ix_inj hW hI (i := i) (j := j1) (by omega) g2; omega))] at ih; exact ih)
              | (have ih := ih4 (ixN q j1 + 1) (by omega) (by omega)
                 rw [nb_new g1 g2 f4 (hB.gt f2 g2 fn h36) hW hI] at ih; exact ih)
              | (have ih := ih4 (ixN q j1 + 1) (by omega) (by omega)
                 rw [nb_new g1 g2 f4 (hB.eq_n f2 g2 fn h51 h66) hW hI] at ih; exact ih)
              | (have ih := ih4 (ixN q j1 + 1) (by omega) (by omega)
                 rw [nb_old f1 f2 f3 g2 f4 (hB.ne f2 g2 fn h36 h51) hW hI] at ih; exact ih)
              | (have ih := ih4 (ixN q j1 + 1) (by omega) (by omega)
                 rw [nb_old f1 f2 f3 g2 f4 (hB.eq_o f2 g2 fn h51 h66) hW hI] at ih; exact ih)
          · exact absurd h76 (by decide)
        · obtain ⟨j1, g1, g2, g3⟩ := hB.live h7 h16
          subst g3
          refine V_iload_n C dX4_nextBid_19 rfl ?_
          refine V_iconst (v := -1) C dX4_nextBid_20 (by decide) ?_
          refine V_icmp_eq C 69 dX4_nextBid_21 (by decide) (fun h21 => ?_) (fun h21 => ?_)
          · refine V_iconst (v := 1) C dX4_nextBid_69 (by decide) ?_
            refine V_goto C 74 dX4_nextBid_70 (by decide) ?_
            refine V_istore_n3 C dX4_nextBid_74 (by decide) ?_
            refine V_iload_n C dX4_nextBid_75 rfl ?_
            refine V_if_eq C 83 dX4_nextBid_76 (by decide) (fun h76 => ?_) (fun h76 => ?_)
            · exact absurd h76 (by decide)
            · refine V_iload_n C dX4_nextBid_79 rfl ?_
              refine V_goto C 84 dX4_nextBid_80 (by decide) ?_
              refine V_istore_n1 C dX4_nextBid_84 (by decide) ?_
              refine V_iinc_2 C _ dX4_nextBid_85 (nI_1 _) (by decide) ?_
              refine V_goto C 4 dX4_nextBid_88 (by decide) ?_
              refine V_forget (lvLe.same (lvLe.same (lvLe.same (lvLe.drop lvLe.nil)))) ?_
              first
                | (have ih := ih4 (k + 1) (by omega) (by omega)
                   rw [nb_same (hB.dead hI h16)] at ih; exact ih)
                | (have ih := ih4 (ixN q j1 + 1) (by omega) (by omega)
                   rw [nb_at g1 g2 (by omega) (fun i hi hki hx => nb_none hW h21 i hki (by omega) (by have := ix_inj hW hI (i := i) (j := j1) (by omega) g2; omega))] at ih; exact ih)
                | (have ih := ih4 (ixN q j1 + 1) (by omega) (by omega)
                   rw [nb_new g1 g2 f4 (hB.gt f2 g2 fn h36) hW hI] at ih; exact ih)
                | (have ih := ih4 (ixN q j1 + 1) (by omega) (by omega)
                   rw [nb_new g1 g2 f4 (hB.eq_n f2 g2 fn h51 h66) hW hI] at ih; exact ih)
                | (have ih := ih4 (ixN q j1 + 1) (by omega) (by omega)
                   rw [nb_old f1 f2 f3 g2 f4 (hB.ne f2 g2 fn h36 h51) hW hI] at ih; exact ih)
                | (have ih := ih4 (ixN q j1 + 1) (by omega) (by omega)
                   rw [nb_old f1 f2 f3 g2 f4 (hB.eq_o f2 g2 fn h51 h66) hW hI] at ih; exact ih)
          · obtain ⟨j0, f1, f2, f3, f4, f5⟩ := nb_some h21
            rw [f5]
            have fn : j0 ≠ j1 := by intro z; subst z; omega
            refine V_aload_n C dX4_nextBid_24 rfl ?_
            refine gt_X4_bid C fk_X4_35 dX4_nextBid_25 ?_
            refine V_iload_n C dX4_nextBid_28 rfl ?_
            refine la_m_bid C _ rfl (by omega) dX4_nextBid_29 ?_
            refine V_topi (hB.bv g1 g2) ?_
            refine V_aload_n C dX4_nextBid_30 rfl ?_
            refine gt_X4_bid C fk_X4_35 dX4_nextBid_31 ?_
            refine V_iload_n C dX4_nextBid_34 rfl ?_
            refine la_m_bid C _ rfl (by omega) dX4_nextBid_35 ?_
            refine V_topi (hB.bv f1 f2) ?_
            refine V_icmp_gt C 69 dX4_nextBid_36 (by decide) (fun h36 => ?_) (fun h36 => ?_)
            · refine V_iconst (v := 1) C dX4_nextBid_69 (by decide) ?_
              refine V_goto C 74 dX4_nextBid_70 (by decide) ?_
              refine V_istore_n3 C dX4_nextBid_74 (by decide) ?_
              refine V_iload_n C dX4_nextBid_75 rfl ?_
              refine V_if_eq C 83 dX4_nextBid_76 (by decide) (fun h76 => ?_) (fun h76 => ?_)
              · exact absurd h76 (by decide)
              · refine V_iload_n C dX4_nextBid_79 rfl ?_
                refine V_goto C 84 dX4_nextBid_80 (by decide) ?_
                refine V_istore_n1 C dX4_nextBid_84 (by decide) ?_
                refine V_iinc_2 C _ dX4_nextBid_85 (nI_1 _) (by decide) ?_
                refine V_goto C 4 dX4_nextBid_88 (by decide) ?_
                refine V_forget (lvLe.same (lvLe.same (lvLe.same (lvLe.drop lvLe.nil)))) ?_
                first
                  | (have ih := ih4 (k + 1) (by omega) (by omega)
                     rw [nb_same (hB.dead hI h16)] at ih; exact ih)
                  | (have ih := ih4 (ixN q j1 + 1) (by omega) (by omega)
                     rw [nb_at g1 g2 (by omega) (fun i hi hki hx => nb_none hW h21 i hki (by omega) (by have := ix_inj hW hI (i := i) (j := j1) (by omega) g2; omega))] at ih; exact ih)
                  | (have ih := ih4 (ixN q j1 + 1) (by omega) (by omega)
                     rw [nb_new g1 g2 f4 (hB.gt f2 g2 fn h36) hW hI] at ih; exact ih)
                  | (have ih := ih4 (ixN q j1 + 1) (by omega) (by omega)
                     rw [nb_new g1 g2 f4 (hB.eq_n f2 g2 fn h51 h66) hW hI] at ih; exact ih)
                  | (have ih := ih4 (ixN q j1 + 1) (by omega) (by omega)
                     rw [nb_old f1 f2 f3 g2 f4 (hB.ne f2 g2 fn h36 h51) hW hI] at ih; exact ih)
                  | (have ih := ih4 (ixN q j1 + 1) (by omega) (by omega)
                     rw [nb_old f1 f2 f3 g2 f4 (hB.eq_o f2 g2 fn h51 h66) hW hI] at ih; exact ih)
            · refine V_aload_n C dX4_nextBid_39 rfl ?_
              refine gt_X4_bid C fk_X4_35 dX4_nextBid_40 ?_
              refine V_iload_n C dX4_nextBid_43 rfl ?_
              refine la_m_bid C _ rfl (by omega) dX4_nextBid_44 ?_
              refine V_topi (hB.bv g1 g2) ?_
              refine V_aload_n C dX4_nextBid_45 rfl ?_
              refine gt_X4_bid C fk_X4_35 dX4_nextBid_46 ?_
              refine V_iload_n C dX4_nextBid_49 rfl ?_
              refine la_m_bid C _ rfl (by omega) dX4_nextBid_50 ?_
              refine V_topi (hB.bv f1 f2) ?_
              refine V_icmp_ne C 73 dX4_nextBid_51 (by decide) (fun h51 => ?_) (fun h51 => ?_)
              · refine V_iconst (v := 0) C dX4_nextBid_73 (by decide) ?_
                refine V_istore_n3 C dX4_nextBid_74 (by decide) ?_
                refine V_iload_n C dX4_nextBid_75 rfl ?_
                refine V_if_eq C 83 dX4_nextBid_76 (by decide) (fun h76 => ?_) (fun h76 => ?_)
                · refine V_iload_n C dX4_nextBid_83 rfl ?_
                  refine V_istore_n1 C dX4_nextBid_84 (by decide) ?_
                  refine V_iinc_2 C _ dX4_nextBid_85 (nI_1 _) (by decide) ?_
                  refine V_goto C 4 dX4_nextBid_88 (by decide) ?_
                  refine V_forget (lvLe.same (lvLe.same (lvLe.same (lvLe.drop lvLe.nil)))) ?_
                  first
                    | (have ih := ih4 (k + 1) (by omega) (by omega)
                       rw [nb_same (hB.dead hI h16)] at ih; exact ih)
                    | (have ih := ih4 (ixN q j1 + 1) (by omega) (by omega)
                       rw [nb_at g1 g2 (by omega) (fun i hi hki hx => nb_none hW h21 i hki (by omega) (by have := ix_inj hW hI (i := i) (j := j1) (by omega) g2; omega))] at ih; exact ih)
                    | (have ih := ih4 (ixN q j1 + 1) (by omega) (by omega)
                       rw [nb_new g1 g2 f4 (hB.gt f2 g2 fn h36) hW hI] at ih; exact ih)
                    | (have ih := ih4 (ixN q j1 + 1) (by omega) (by omega)
                       rw [nb_new g1 g2 f4 (hB.eq_n f2 g2 fn h51 h66) hW hI] at ih; exact ih)
                    | (have ih := ih4 (ixN q j1 + 1) (by omega) (by omega)
                       rw [nb_old f1 f2 f3 g2 f4 (hB.ne f2 g2 fn h36 h51) hW hI] at ih; exact ih)
                    | (have ih := ih4 (ixN q j1 + 1) (by omega) (by omega)
                       rw [nb_old f1 f2 f3 g2 f4 (hB.eq_o f2 g2 fn h51 h66) hW hI] at ih; exact ih)
                · exact absurd h76 (by decide)
              · refine V_aload_n C dX4_nextBid_54 rfl ?_
                refine gt_X4_when C fk_X4_38 dX4_nextBid_55 ?_
                refine V_iload_n C dX4_nextBid_58 rfl ?_
                refine la_m_when C _ rfl (by omega) dX4_nextBid_59 ?_
                refine V_aload_n C dX4_nextBid_60 rfl ?_
                refine gt_X4_when C fk_X4_38 dX4_nextBid_61 ?_
                refine V_iload_n C dX4_nextBid_64 rfl ?_
                refine la_m_when C _ rfl (by omega) dX4_nextBid_65 ?_
                refine V_icmp_ge C 73 dX4_nextBid_66 (by decide) (fun h66 => ?_) (fun h66 => ?_)
                · refine V_iconst (v := 0) C dX4_nextBid_73 (by decide) ?_
                  refine V_istore_n3 C dX4_nextBid_74 (by decide) ?_
                  refine V_iload_n C dX4_nextBid_75 rfl ?_
                  refine V_if_eq C 83 dX4_nextBid_76 (by decide) (fun h76 => ?_) (fun h76 => ?_)
                  · refine V_iload_n C dX4_nextBid_83 rfl ?_
                    refine V_istore_n1 C dX4_nextBid_84 (by decide) ?_
                    refine V_iinc_2 C _ dX4_nextBid_85 (nI_1 _) (by decide) ?_
                    refine V_goto C 4 dX4_nextBid_88 (by decide) ?_
                    refine V_forget (lvLe.same (lvLe.same (lvLe.same (lvLe.drop lvLe.nil)))) ?_
                    first
                      | (have ih := ih4 (k + 1) (by omega) (by omega)
                         rw [nb_same (hB.dead hI h16)] at ih; exact ih)
                      | (have ih := ih4 (ixN q j1 + 1) (by omega) (by omega)
                         rw [nb_at g1 g2 (by omega) (fun i hi hki hx => nb_none hW h21 i hki (by omega) (by have := ix_inj hW hI (i := i) (j := j1) (by omega) g2; omega))] at ih; exact ih)
                      | (have ih := ih4 (ixN q j1 + 1) (by omega) (by omega)
                         rw [nb_new g1 g2 f4 (hB.gt f2 g2 fn h36) hW hI] at ih; exact ih)
                      | (have ih := ih4 (ixN q j1 + 1) (by omega) (by omega)
                         rw [nb_new g1 g2 f4 (hB.eq_n f2 g2 fn h51 h66) hW hI] at ih; exact ih)
                      | (have ih := ih4 (ixN q j1 + 1) (by omega) (by omega)
                         rw [nb_old f1 f2 f3 g2 f4 (hB.ne f2 g2 fn h36 h51) hW hI] at ih; exact ih)
                      | (have ih := ih4 (ixN q j1 + 1) (by omega) (by omega)
                         rw [nb_old f1 f2 f3 g2 f4 (hB.eq_o f2 g2 fn h51 h66) hW hI] at ih; exact ih)
                  · exact absurd h76 (by decide)
                · refine V_iconst (v := 1) C dX4_nextBid_69 (by decide) ?_
                  refine V_goto C 74 dX4_nextBid_70 (by decide) ?_
                  refine V_istore_n3 C dX4_nextBid_74 (by decide) ?_
                  refine V_iload_n C dX4_nextBid_75 rfl ?_
                  refine V_if_eq C 83 dX4_nextBid_76 (by decide) (fun h76 => ?_) (fun h76 => ?_)
                  · exact absurd h76 (by decide)
                  · refine V_iload_n C dX4_nextBid_79 rfl ?_
                    refine V_goto C 84 dX4_nextBid_80 (by decide) ?_
                    refine V_istore_n1 C dX4_nextBid_84 (by decide) ?_
                    refine V_iinc_2 C _ dX4_nextBid_85 (nI_1 _) (by decide) ?_
                    refine V_goto C 4 dX4_nextBid_88 (by decide) ?_
                    refine V_forget (lvLe.same (lvLe.same (lvLe.same (lvLe.drop lvLe.nil)))) ?_
                    first
                      | (have ih := ih4 (k + 1) (by omega) (by omega)
                         rw [nb_same (hB.dead hI h16)] at ih; exact ih)
                      | (have ih := ih4 (ixN q j1 + 1) (by omega) (by omega)
                         rw [nb_at g1 g2 (by omega) (fun i hi hki hx => nb_none hW h21 i hki (by omega) (by have := ix_inj hW hI (i := i) (j := j1) (by omega) g2; omega))] at ih; exact ih)
                      | (have ih := ih4 (ixN q j1 + 1) (by omega) (by omega)
                         rw [nb_new g1 g2 f4 (hB.gt f2 g2 fn h36) hW hI] at ih; exact ih)
                      | (have ih := ih4 (ixN q j1 + 1) (by omega) (by omega)
                         rw [nb_new g1 g2 f4 (hB.eq_n f2 g2 fn h51 h66) hW hI] at ih; exact ih)
                      | (have ih := ih4 (ixN q j1 + 1) (by omega) (by omega)
                         rw [nb_old f1 f2 f3 g2 f4 (hB.ne f2 g2 fn h36 h51) hW hI] at ih; exact ih)
                      | (have ih := ih4 (ixN q j1 + 1) (by omega) (by omega)
                         rw [nb_old f1 f2 f3 g2 f4 (hB.eq_o f2 g2 fn h51 h66) hW hI] at ih; exact ih)
  have e0 : nbV q n 0 = -1 := by
    unfold nbV
    rw [if_neg]
    intro z
    have := firN_yes z
    simp [lvB] at this
  have L := L4 _ 0 (Nat.zero_le _) (Nat.lt_succ_self _)
  rw [e0] at L
  exact L
