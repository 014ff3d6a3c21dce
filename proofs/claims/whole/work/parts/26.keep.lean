/-! what holds between two calls stays so -/
theorem cntN_imp {f g : Nat → Bool} {n : Nat} (h : ∀ j, j < n → f j = true → g j = true) : cntN f n ≤ cntN g n := by
  induction n with
  | zero => exact Nat.le_refl _
  | succ n ih =>
    have h1 := ih (fun j hj => h j (by omega))
    have h2 := h n (by omega)
    simp only [cntN]
    cases hf : f n with
    | false => simp; omega
    | true => rw [h2 hf]; omega
theorem hs_t {q : Mem} {i p : Nat} : hs q i p = true ↔ ¬ q (18 + 4 * i + 1) p = -1 := by simp [hs]
theorem hs_f {q : Mem} {i p : Nat} : hs q i p = false ↔ q (18 + 4 * i + 1) p = -1 := by simp [hs]
theorem ptO_n {v : Int32} (h : ptO v) : ¬ v = -1 := by
  intro e
  have h1 := h.1
  rw [e] at h1
  exact absurd h1 (by decide)
theorem nc_mono {q q' : Mem} {r : Nat} (h : noClash q r) (hl : nO q ≤ 12) (ho : nO q' = nO q) (hf : ∀ i f, i < 12 → f ≠ 8 → q' (18 + 4 * i) f = q (18 + 4 * i) f) (hh : ∀ i, i < 12 → hs q' i r = true → hs q i r = true) : noClash q' r := by
  intro i j hij hj h1 h2
  rw [ho] at hj
  have h3 := h i j hij hj (hh i (by omega) h1) (hh j (by omega) h2)
  unfold zN at h3 ⊢
  unfold sl exN at h3 ⊢
  rw [hf i 1 (by omega) (by decide), hf j 1 (by omega) (by decide), hf i 0 (by omega) (by decide), hf j 0 (by omega) (by decide), hf i 4 (by omega) (by decide), hf j 4 (by omega) (by decide)]
  exact h3
/-- seats lost, points moved: all else stays -/
theorem IQ.seat {q q' : Mem} (hW : WC q) (hI : IQ q) (hc : ∀ c k, c ≠ 67 → c ≠ 68 → ¬ (c = 0 ∧ 11 ≤ k) → ¬ (18 ≤ c ∧ c < 66 ∧ (c - 18) % 4 = 1) → q' c k = q c k)
    (hh : ∀ i p, i < 12 → p < 10 → hs q' i p = true → hs q i p = true ∧ ptO (q' (18 + 4 * i + 1) p)) (h68 : ∀ p, nP q ≤ p → p < 10 → q' 68 p = 0) (hpw : ∀ p, p < nP q → pwB q' p = true) : IQ q' := by
  have hl := hW.ol
  have eP : nP q' = nP q := congrArg tn (hc 0 9 (by decide) (by decide) (by omega) (by omega))
  have eO : nO q' = nO q := congrArg tn (hc 0 10 (by decide) (by decide) (by omega) (by omega))
  have eR : nR q' = nR q := congrArg tn (hc 0 7 (by decide) (by decide) (by omega) (by omega))
  have eE : nE q' = nE q := congrArg tn (hc 0 8 (by decide) (by decide) (by omega) (by omega))
  have eB : bW q' = bW q := congrArg tn (hc 13 3 (by decide) (by decide) (by omega) (by omega))
  have ef : ∀ i f, i < 12 → q' (18 + 4 * i) f = q (18 + 4 * i) f := fun i f hi => hc _ _ (by omega) (by omega) (by omega) (by omega)
  have e2 : ∀ i f, i < 12 → q' (18 + 4 * i + 2) f = q (18 + 4 * i + 2) f := fun i f hi => hc _ _ (by omega) (by omega) (by omega) (by omega)
  have e3 : ∀ i f, i < 12 → q' (18 + 4 * i + 3) f = q (18 + 4 * i + 3) f := fun i f hi => hc _ _ (by omega) (by omega) (by omega) (by omega)
  have eW : ∀ i, i < 12 → qW q' i = qW q i := fun i hi => congrArg tn (ef i 8 hi)
  have hff : ∀ i p, i < 12 → p < 10 → hs q i p = false → hs q' i p = false := fun i p hi hp h => by
    cases h2 : hs q' i p with
    | false => rfl
    | true => rw [(hh i p hi hp h2).1] at h; cases h
  obtain ⟨nc, pw, fu, qd, qs, ql, sh, pb, ob, rm, rs, rc, bp, bd, pv⟩ := hI
  refine ⟨fun p hp => nc_mono (nc p hp) hl eO (fun i f hi _ => ef i f hi) (fun i hi h => (hh i p hi hp h).1), fun p hp => hpw p (by omega), fun i hi => ?_, fun i hi j k hj hk => ?_, fun i hi k hk => ?_, fun i hi k hk => ?_, fun i j hi hj hn h => ?_, fun p h1 h2 => ?_, fun i h1 h2 => ?_, fun i hi => ?_, fun r hr => ?_, fun p e hp he hx f s hf hs => ?_, fun k hk => ?_, fun j k hj hk => ?_, fun i p hi hp h => (hh i p hi hp h).2⟩
  · rw [eO] at hi
    refine Nat.le_trans (cntN_imp (fun p hp h => (hh i p (by omega) hp h).1)) ?_
    show nTaken q i ≤ tn (q' (18 + 4 * i) 3)
    rw [ef i 3 (by omega)]
    exact fu i hi
  · rw [eW i hi] at hk
    rw [e2 i j hi, e2 i k hi]
    exact qd i hi j k hj hk
  · rw [eW i hi] at hk
    refine hff i _ hi ?_ ?_
    · show tn (q' (18 + 4 * i + 2) k) < 10
      rw [e2 i k hi]
      have := hW.wtl hi hk
      exact Nat.lt_succ_of_le this
    · show hs q i (tn (q' (18 + 4 * i + 2) k)) = false
      rw [e2 i k hi]
      exact qs i hi k hk
  · rw [eW i hi] at hk
    rw [eP, e3 i k hi]
    show tn (q' (18 + 4 * i + 2) k) < nP q ∧ _
    rw [e2 i k hi]
    exact ql i hi k hk
  · rw [eO] at hi hj
    rw [ef i 2 (by omega), ef j 2 (by omega)] at h
    rw [ef i 1 (by omega), ef j 1 (by omega)]
    exact sh i j hi hj hn h
  · rw [eP] at h1
    exact ⟨fun i hi => hff i p hi h2 ((pb p h1 h2).1 i hi), h68 p h1 h2⟩
  · rw [eO] at h1
    exact ⟨fun p hp => hff i p h2 hp ((ob i h1 h2).1 p hp), (eW i h2).trans (ob i h1 h2).2⟩
  · rw [eO] at hi
    rw [ef i 2 (by omega), ef i 3 (by omega), eR, hc 66 _ (by decide) (by decide) (by omega) (by omega)]
    exact rm i hi
  · rw [eR] at hr
    rw [hc 66 _ (by decide) (by decide) (by omega) (by omega)]
    exact rs r hr
  · rw [eP, eE] at hx
    rw [hc _ _ (by omega) (by omega) (by omega) (by omega), hc (3 + f) _ (by omega) (by omega) (by omega) (by omega)]
    exact rc p e hp he hx f s hf hs
  · rw [eB] at hk
    show tn (q' 14 k) < nP q' ∧ tn (q' 15 k) < nO q' ∧ ptO (q' 16 k)
    rw [eP, eO, hc 14 k (by decide) (by decide) (by omega) (by omega), hc 15 k (by decide) (by decide) (by omega) (by omega), hc 16 k (by decide) (by decide) (by omega) (by omega)]
    exact bp k hk
  · rw [eB] at hk
    show tn (q' 14 j) ≠ tn (q' 14 k) ∨ tn (q' 15 j) ≠ tn (q' 15 k)
    rw [hc 14 k (by decide) (by decide) (by omega) (by omega), hc 15 k (by decide) (by decide) (by omega) (by omega), hc 14 j (by decide) (by decide) (by omega) (by omega), hc 15 j (by decide) (by decide) (by omega) (by omega)]
    exact bd j k hj hk
theorem sum_addn {f g : Nat → Int32} {c : Nat} {d : Int32} (hf : g c = f c + d) : ∀ n, c < n → (∀ j, j < n → j ≠ c → g j = f j) → sumN g n = sumN f n + d := by
  intro n
  induction n with
  | zero => intro hc; omega
  | succ n ih =>
    intro hc h
    simp only [sumN]
    by_cases e : n = c
    · subst e
      rw [hf, sumN_congr (f := g) (g := f) (fun i hi => h i (by omega) (by omega)), Int32.add_assoc]
    · rw [h n (by omega) e, ih (by omega) (fun j hj => h j (by omega)), Int32.add_assoc, Int32.add_assoc, Int32.add_comm d]
/-- the points of one pupil are whole still: what is taken here comes there -/
theorem pw_step {q q' : Mem} {p i : Nat} {x y : Int32} (hi : i < nO q) (eO : nO q' = nO q) (h67 : q' 67 p = q 67 p + x) (h68 : q' 68 p = q 68 p + y) (hp : psB q' p i + (x + y) = psB q p i) (ho : ∀ j, j < nO q → j ≠ i → psB q' p j = psB q p j) (h : pwB q p = true) : pwB q' p = true := by
  unfold pwB at h ⊢
  rw [decide_eq_true_eq] at h ⊢
  have e : sumN (psB q p) (nO q) = sumN (psB q' p) (nO q) + (x + y) := sum_addn (c := i) hp.symm (nO q) hi (fun j hj hn => (ho j hj hn).symm)
  rw [e] at h
  rw [eO, h67, h68, ← h]
  ac_rfl
theorem pw_same {q q' : Mem} {p : Nat} (eO : nO q' = nO q) (h67 : q' 67 p = q 67 p) (h68 : q' 68 p = q 68 p) (ho : ∀ j, j < nO q → q' (18 + 4 * j + 1) p = q (18 + 4 * j + 1) p) (h : pwB q p = true) : pwB q' p = true := by
  unfold pwB at h ⊢
  rw [eO, h67, h68, sumN_congr (f := psB q' p) (g := psB q p) (fun j hj => by unfold psB hs; rw [ho j hj])]
  exact h
theorem psB_t {q : Mem} {p i : Nat} (h : hs q i p = true) : psB q p i = q (18 + 4 * i + 1) p := if_pos h
theorem psB_f {q : Mem} {p i : Nat} (h : hs q i p = false) : psB q p i = 0 := if_neg (by rw [h]; decide)
theorem IQ.hsl {q : Mem} (hI : IQ q) {i p : Nat} (hi : i < 12) (hp : p < 10) (h : hs q i p = true) : i < nO q ∧ p < nP q := by
  constructor
  · apply Classical.byContradiction
    intro z
    rw [(hI.ob i (by omega) hi).1 p hp] at h; cases h
  · apply Classical.byContradiction
    intro z
    rw [(hI.pb p (by omega) hp).1 i hi] at h; cases h
theorem ptO_i {v : Int32} (h : ptO v) : ∃ n, 1 ≤ n ∧ n ≤ 100 ∧ v = nI n := by
  have h1 := h.1
  have h2 := h.2
  rw [Int32.le_iff_toInt_le] at h1 h2
  have a1 : (1 : Int32).toInt = 1 := by decide
  have a2 : (100 : Int32).toInt = 100 := by decide
  rw [a1] at h1
  rw [a2] at h2
  refine ⟨v.toInt.toNat, by omega, by omega, ?_⟩
  apply Int32.toInt_inj.mp
  rw [nI_toInt (by omega)]
  omega
theorem half_n : ∀ n, n < 101 → 1 ≤ n → (1 ≤ nI n - nI n / 2 ∧ nI n - nI n / 2 ≤ 100) := by decide +kernel
theorem ptO_half {v : Int32} (h : ptO v) : ptO (v - v / 2) := by
  obtain ⟨n, h1, h2, rfl⟩ := ptO_i h
  exact half_n n (by omega) h1
/-- a seat lost or paid for less, the rest paid back -/
theorem IQ.unpay {q : Mem} (hW : WC q) (hI : IQ q) {i p : Nat} {w x y : Int32} (hi : i < 12) (hp : p < 10) (h : hs q i p = true) (hw : (w = -1 ∧ x + y = q (18 + 4 * i + 1) p) ∨ (ptO w ∧ w + (x + y) = q (18 + 4 * i + 1) p)) : IQ (up2 (payA (up2 q (18 + 4 * i + 1) p w) p x) 68 p (q 68 p + y)) := by
  obtain ⟨hiO, hpP⟩ := hI.hsl hi hp h
  have hl := hW.ol
  generalize hq : up2 (payA (up2 q (18 + 4 * i + 1) p w) p x) 68 p (q 68 p + y) = q'
  have E : ∀ c k, (c ≠ 67 ∨ k ≠ p) → (c ≠ 68 ∨ k ≠ p) → (c ≠ 0 ∨ k ≠ 12) → (c ≠ 18 + 4 * i + 1 ∨ k ≠ p) → q' c k = q c k := by
    intro c k h1 h2 h3 h4
    rw [← hq]
    unfold payA
    rw [up2_o (by omega), up2_o (by omega), up2_o (by omega), up2_o (by omega)]
  have e1 : q' (18 + 4 * i + 1) p = w := by
    rw [← hq]
    unfold payA
    rw [up2_o (by omega), up2_o (by omega), up2_o (by omega), up2_s]
  have e67 : q' 67 p = q 67 p + x := by
    rw [← hq]
    unfold payA
    rw [up2_o (by omega), up2_o (by omega), up2_s, up2_o (by omega)]
  have e68 : q' 68 p = q 68 p + y := by
    rw [← hq, up2_s]
  have eO : nO q' = nO q := congrArg tn (E 0 10 (by omega) (by omega) (by omega) (by omega))
  have hps : psB q' p i + (x + y) = psB q p i := by
    rw [psB_t h]
    rcases hw with ⟨g1, g2⟩ | ⟨g1, g2⟩
    · rw [psB_f (hs_f.mpr (e1.trans g1)), Int32.zero_add, g2]
    · rw [psB_t (hs_t.mpr (by rw [e1]; exact ptO_n g1)), e1, g2]
  refine hI.seat hW (fun c k h1 h2 h3 h4 => E c k (by omega) (by omega) (by omega) (by omega)) (fun j r hj hr g => ?_) (fun r h1 h2 => ?_) (fun r hr => ?_)
  · by_cases e : j = i ∧ r = p
    · obtain ⟨rfl, rfl⟩ := e
      refine ⟨h, ?_⟩
      rw [e1]
      rcases hw with ⟨g1, g2⟩ | ⟨g1, g2⟩
      · exact absurd (e1.trans g1) (hs_t.mp g)
      · exact g1
    · have e9 := E (18 + 4 * j + 1) r (by omega) (by omega) (by omega) (by omega)
      have g2 : hs q j r = true := by
        rw [hs_t] at g ⊢
        rw [e9] at g
        exact g
      rw [e9]
      exact ⟨g2, hI.pv j r hj hr g2⟩
  · rw [E 68 r (by omega) (by omega) (by omega) (by omega)]
    exact (hI.pb r h1 h2).2
  · by_cases e : r = p
    · subst e
      exact pw_step hiO eO e67 e68 hps (fun j hj hn => by unfold psB hs; rw [E (18 + 4 * j + 1) r (by omega) (by omega) (by omega) (by omega)]) (hI.pw r hr)
    · exact pw_same eO (E 67 r (by omega) (by omega) (by omega) (by omega)) (E 68 r (by omega) (by omega) (by omega) (by omega)) (fun j hj => E (18 + 4 * j + 1) r (by omega) (by omega) (by omega) (by omega)) (hI.pw r hr)
theorem half_b (v : Int32) : v / 2 + (v - v / 2) = v := by
  rw [Int32.add_comm, Int32.sub_add_cancel]
theorem IQ.gu {q : Mem} (hW : WC q) (hI : IQ q) {i p : Nat} (hi : i < 12) (hp : p < 10) (h : hs q i p = true) : IQ (guA q p i) :=
  hI.unpay hW hi hp h (Or.inl ⟨rfl, half_b _⟩)
theorem up2_id {a : Mem} {k j : Nat} {v : Int32} (h : a k j = v) : up2 a k j v = a := by
  funext c i
  simp only [up2]
  split
  · rename_i g; rw [g.1, g.2, h]
  · rfl
theorem pay68 {q : Mem} {i p : Nat} {w x : Int32} : up2 (payA (up2 q (18 + 4 * i + 1) p w) p x) 68 p (q 68 p + 0) = payA (up2 q (18 + 4 * i + 1) p w) p x ∨ 66 < 18 + 4 * i + 1 := by
  by_cases h : 66 < 18 + 4 * i + 1
  · exact Or.inr h
  · refine Or.inl (up2_id ?_)
    unfold payA
    rw [up2_o (by omega), up2_o (by omega), up2_o (by omega), Int32.add_zero]
theorem IQ.unseat {q : Mem} (hW : WC q) (hI : IQ q) {i p : Nat} (hi : i < 12) (hp : p < 10) (h : hs q i p = true) : IQ (payA (up2 q (18 + 4 * i + 1) p (-1)) p (q (18 + 4 * i + 1) p)) := by
  have g := hI.unpay hW hi hp h (w := -1) (x := q (18 + 4 * i + 1) p) (y := 0) (Or.inl ⟨rfl, Int32.add_zero _⟩)
  rcases pay68 (q := q) (i := i) (p := p) (w := -1) (x := q (18 + 4 * i + 1) p) with e | e
  · rw [e] at g; exact g
  · omega
theorem IQ.lost {q : Mem} (hW : WC q) (hI : IQ q) {i p : Nat} {s : Int32} (hi : i < 12) (hp : p < 10) (h : hs q i p = true) : IQ (lostA q i p s) := by
  unfold lostA
  split
  · exact hI.unseat hW hi hp h
  · have g := hI.unpay hW hi hp h (w := q (18 + 4 * i + 1) p - q (18 + 4 * i + 1) p / 2) (x := q (18 + 4 * i + 1) p / 2) (y := 0) (Or.inr ⟨ptO_half (hI.pv i p hi hp h), by rw [Int32.add_zero, Int32.sub_add_cancel]⟩)
    rcases pay68 (q := q) (i := i) (p := p) (w := q (18 + 4 * i + 1) p - q (18 + 4 * i + 1) p / 2) (x := q (18 + 4 * i + 1) p / 2) with e | e
    · rw [e] at g; exact g
    · omega
/-- a queue behind is what it was, with some gone -/
def SubQ (q q' : Mem) (j : Nat) : Prop := ∃ φ : Nat → Nat, (∀ k, k < qW q' j → φ k < qW q j ∧ q' (18 + 4 * j + 2) k = q (18 + 4 * j + 2) (φ k) ∧ q' (18 + 4 * j + 3) k = q (18 + 4 * j + 3) (φ k)) ∧ ∀ k l, k < l → φ k < φ l
theorem SubQ.same {q q' : Mem} {j : Nat} (h : ∀ c k, 18 + 4 * j ≤ c → c < 18 + 4 * j + 4 → c ≠ 18 + 4 * j + 1 → q' c k = q c k) : SubQ q q' j := by
  refine ⟨fun k => k, fun k hk => ⟨?_, h _ _ (by omega) (by omega) (by omega), h _ _ (by omega) (by omega) (by omega)⟩, fun k l h => h⟩
  unfold qW at hk
  rw [h _ _ (by omega) (by omega) (by omega)] at hk
  exact hk
theorem SubQ.no {q : Mem} {j : Nat} {p : Int32} (hw : isN (q (18 + 4 * j) 8) 10) (hd : ∀ a b, a < b → b < qW q j → q (18 + 4 * j + 2) a ≠ q (18 + 4 * j + 2) b) : SubQ q (noMore q j p (qW q j)) j ∧ ∀ k, k < qW (noMore q j p (qW q j)) j → noMore q j p (qW q j) (18 + 4 * j + 2) k ≠ p := by
  have e := qW_noMore (p := p) hw
  by_cases hf : firN (qAt q j p) (qW q j) < qW q j
  · rw [if_pos hf] at e
    have hy := firN_yes hf
    generalize hpl : firN (qAt q j p) (qW q j) = pl at hf hy
    have ex : noMore q j p (qW q j) = delK q j pl (qW q j) (qW q j - 1) := by
      unfold noMore
      rw [hpl, if_pos hf]
    rw [ex] at e ⊢
    have e2 : ∀ c k, (c = 18 + 4 * j + 2 ∨ c = 18 + 4 * j + 3) → k < qW q j - 1 → delK q j pl (qW q j) (qW q j - 1) c k = q c (if k < pl then k else k + 1) := by
      intro c k hc hk
      simp only [delK]
      rw [if_neg (by omega)]
      by_cases g : k < pl
      · rw [if_neg (by omega), if_pos g]
      · rw [if_pos (by omega), if_neg g]
    refine ⟨⟨fun k => if k < pl then k else k + 1, fun k hk => ?_, fun k l h => ?_⟩, fun k hk => ?_⟩
    · rw [e] at hk
      exact ⟨by dsimp only; split <;> omega, e2 _ _ (Or.inl rfl) hk, e2 _ _ (Or.inr rfl) hk⟩
    · dsimp only; split <;> split <;> omega
    · rw [e] at hk
      rw [e2 _ _ (Or.inl rfl) hk]
      have hy2 : q (18 + 4 * j + 2) pl = p := by simpa [qAt] using hy
      rw [← hy2]
      by_cases g : k < pl
      · rw [if_pos g]
        exact hd k pl g hf
      · rw [if_neg g]
        exact fun z => hd pl (k + 1) (by omega) (by omega) z.symm
  · have ex : noMore q j p (qW q j) = q := by
      unfold noMore
      rw [if_neg hf]
    rw [ex]
    refine ⟨SubQ.same (fun _ _ _ _ _ => rfl), fun k hk z => hf ?_⟩
    exact firN_any.mpr (anyN_t hk (decide_eq_true z))
theorem SubQ.tr {q q1 q2 : Mem} {j : Nat} (h1 : SubQ q q1 j) (h2 : SubQ q1 q2 j) : SubQ q q2 j := by
  obtain ⟨f, a1, a2⟩ := h1
  obtain ⟨g, b1, b2⟩ := h2
  refine ⟨fun k => f (g k), fun k hk => ?_, fun k l h => a2 _ _ (b2 _ _ h)⟩
  have c1 := b1 k hk
  have c2 := a1 _ c1.1
  exact ⟨c2.1, c1.2.1.trans c2.2.1, c1.2.2.trans c2.2.2⟩
theorem nos_t {q : Mem} {i p : Nat} {V : Int32} (h : nos q i p V = true) : clB q i = false ∧ mayB q i p = true ∧ ∀ j, j < nO q → hs q j p = true → ¬ (q (18 + 4 * j) 0 = q (18 + 4 * i) 0 ∧ q (18 + 4 * j) 4 = q (18 + 4 * i) 4) ∧ q (18 + 4 * j) 1 ≠ q (18 + 4 * i) 1 := by
  unfold nos at h
  simp only [Bool.and_eq_true, Bool.not_eq_true'] at h
  obtain ⟨⟨⟨⟨h1, h2⟩, h3⟩, h4⟩, h5⟩ := h
  refine ⟨h1, h3, fun j hj g => ⟨fun z => ?_, fun z => ?_⟩⟩
  · have := anyN_f.mp h4 j hj
    simp [hfB, isOfB, z.1, z.2, g] at this
  · have := anyN_f.mp h5 j hj
    simp [haB, z, g] at this
theorem gv_sub {q : Mem} (hW : WC q) (hI : IQ q) {i p j : Nat} {V : Int32} (hi : i < nO q) (hj : j < 12) : SubQ q (giveA q i p V) j ∧ ((isOfB q j (q (18 + 4 * i) 0) (q (18 + 4 * i) 4) = true ∧ j < nO q) → ∀ k, k < qW (giveA q i p V) j → giveA q i p V (18 + 4 * j + 2) k ≠ nI p) := by
  have hl := hW.ol
  have e1 : ∀ c k, 18 + 4 * j ≤ c → c < 18 + 4 * j + 4 → c ≠ 18 + 4 * j + 1 → gv1 q i p V c k = q c k := fun c k a1 a2 a3 => (up2_o (by omega)).trans (up2_o (by omega))
  have eo : isOfB (gv1 q i p V) j (q (18 + 4 * i) 0) (q (18 + 4 * i) 4) = isOfB q j (q (18 + 4 * i) 0) (q (18 + 4 * i) 4) := by
    unfold isOfB
    rw [e1 _ _ (by omega) (by omega) (by omega), e1 _ _ (by omega) (by omega) (by omega)]
  have s1 : SubQ q (gv1 q i p V) j := SubQ.same e1
  by_cases hh : isOfB q j (q (18 + 4 * i) 0) (q (18 + 4 * i) 4) = true ∧ j < nO q
  · have e2 : ∀ c k, 18 + 4 * j ≤ c → c < 18 + 4 * j + 4 → giveA q i p V c k = noMore (gv1 q i p V) j (nI p) (qW (gv1 q i p V) j) c k := by
      intro c k a1 a2
      show gvA (gv1 q i p V) _ _ _ _ c k = _
      rw [gvA_in hh.2 a1 a2, if_pos (by rw [eo]; exact hh.1)]
    have hw1 : isN (gv1 q i p V (18 + 4 * j) 8) 10 := by
      rw [e1 _ _ (by omega) (by omega) (by omega)]
      exact (hW.off hj).2.2.2.1
    have hq1 : qW (gv1 q i p V) j = qW q j := congrArg tn (e1 _ _ (by omega) (by omega) (by omega))
    have s2 := SubQ.no (q := gv1 q i p V) (j := j) (p := nI p) hw1 (fun a b h1 h2 => by
      rw [e1 _ _ (by omega) (by omega) (by omega), e1 _ _ (by omega) (by omega) (by omega)]
      exact hI.qd j hj a b h1 (by rw [← hq1]; exact h2))
    have s3 : SubQ (noMore (gv1 q i p V) j (nI p) (qW (gv1 q i p V) j)) (giveA q i p V) j := SubQ.same (fun c k a1 a2 _ => e2 c k a1 a2)
    refine ⟨(s1.tr s2.1).tr s3, fun _ k hk => ?_⟩
    rw [e2 _ _ (by omega) (by omega)]
    refine s2.2 k ?_
    have : qW (giveA q i p V) j = qW (noMore (gv1 q i p V) j (nI p) (qW (gv1 q i p V) j)) j := congrArg tn (e2 _ _ (by omega) (by omega))
    rw [← this]; exact hk
  · have e2 : ∀ c k, 18 + 4 * j ≤ c → c < 18 + 4 * j + 4 → giveA q i p V c k = gv1 q i p V c k := by
      intro c k a1 a2
      show gvA (gv1 q i p V) _ _ _ _ c k = _
      by_cases hjo : j < nO q
      · rw [gvA_in hjo a1 a2, if_neg (by rw [eo]; exact fun z => hh ⟨z, hjo⟩)]
      · exact gvA_hi (Or.inl (by omega))
    exact ⟨s1.tr (SubQ.same (fun c k a1 a2 _ => e2 c k a1 a2)), fun z => absurd z hh⟩

