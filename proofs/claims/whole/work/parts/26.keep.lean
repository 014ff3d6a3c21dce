/-! what holds between two calls stays so -/
theorem cntN_imp {f g : Nat → Bool} {n : Nat} (h : ∀ j, j < n → f j = true → g j = true) : cntN f n ≤ cntN g n := by
  induction n with
  | zero => exact Nat.le_refl _
  | succ n ih =>
    have h1 := ih (fun j hj => h j (by omega))
    have h2 := h n (by omega)
    simp only [cntN]
    cases hf : f n with
    | false => simp; omega
    | true => rw [h2 hf]; omega
theorem hs_t {q : Mem} {i p : Nat} : hs q i p = true ↔ ¬ q (18 + 4 * i + 1) p = -1 := by simp [hs]
theorem hs_f {q : Mem} {i p : Nat} : hs q i p = false ↔ q (18 + 4 * i + 1) p = -1 := by simp [hs]
theorem ptO_n {v : Int32} (h : ptO v) : ¬ v = -1 := by
  intro e
  have h1 := h.1
  rw [e] at h1
  exact absurd h1 (by decide)
theorem nc_mono {q q' : Mem} {r : Nat} (h : noClash q r) (hl : nO q ≤ 12) (ho : nO q' = nO q) (hf : ∀ i f, i < 12 → f ≠ 8 → q' (18 + 4 * i) f = q (18 + 4 * i) f) (hh : ∀ i, i < 12 → hs q' i r = true → hs q i r = true) : noClash q' r := by
  intro i j hij hj h1 h2
  rw [ho] at hj
  have h3 := h i j hij hj (hh i (by omega) h1) (hh j (by omega) h2)
  unfold zN at h3 ⊢
  unfold sl exN at h3 ⊢
  rw [hf i 1 (by omega) (by decide), hf j 1 (by omega) (by decide), hf i 0 (by omega) (by decide), hf j 0 (by omega) (by decide), hf i 4 (by omega) (by decide), hf j 4 (by omega) (by decide)]
  exact h3
/-- seats lost, points moved: all else stays -/
theorem IQ.seat {q q' : Mem} (hW : WC q) (hI : IQ q) (hc : ∀ c k, c ≠ 67 → c ≠ 68 → ¬ (c = 0 ∧ 11 ≤ k) → ¬ (18 ≤ c ∧ c < 66 ∧ (c - 18) % 4 = 1) → q' c k = q c k)
    (hh : ∀ i p, i < 12 → p < 10 → hs q' i p = true → hs q i p = true ∧ ptO (q' (18 + 4 * i + 1) p)) (h68 : ∀ p, nP q ≤ p → p < 10 → q' 68 p = 0) (hpw : ∀ p, p < nP q → pwB q' p = true) : IQ q' := by
  have hl := hW.ol
  have eP : nP q' = nP q := congrArg tn (hc 0 9 (by decide) (by decide) (by omega) (by omega))
  have eO : nO q' = nO q := congrArg tn (hc 0 10 (by decide) (by decide) (by omega) (by omega))
  have eR : nR q' = nR q := congrArg tn (hc 0 7 (by decide) (by decide) (by omega) (by omega))
  have eE : nE q' = nE q := congrArg tn (hc 0 8 (by decide) (by decide) (by omega) (by omega))
  have eB : bW q' = bW q := congrArg tn (hc 13 3 (by decide) (by decide) (by omega) (by omega))
  have ef : ∀ i f, i < 12 → q' (18 + 4 * i) f = q (18 + 4 * i) f := fun i f hi => hc _ _ (by omega) (by omega) (by omega) (by omega)
  have e2 : ∀ i f, i < 12 → q' (18 + 4 * i + 2) f = q (18 + 4 * i + 2) f := fun i f hi => hc _ _ (by omega) (by omega) (by omega) (by omega)
  have e3 : ∀ i f, i < 12 → q' (18 + 4 * i + 3) f = q (18 + 4 * i + 3) f := fun i f hi => hc _ _ (by omega) (by omega) (by omega) (by omega)
  have eW : ∀ i, i < 12 → qW q' i = qW q i := fun i hi => congrArg tn (ef i 8 hi)
  have hff : ∀ i p, i < 12 → p < 10 → hs q i p = false → hs q' i p = false := fun i p hi hp h => by
    cases h2 : hs q' i p with
    | false => rfl
    | true => rw [(hh i p hi hp h2).1] at h; cases h
  obtain ⟨nc, pw, fu, qd, qs, ql, sh, pb, ob, rm, rs, rc, bp, bd, pv⟩ := hI
  refine ⟨fun p hp => nc_mono (nc p hp) hl eO (fun i f hi _ => ef i f hi) (fun i hi h => (hh i p hi hp h).1), fun p hp => hpw p (by omega), fun i hi => ?_, fun i hi j k hj hk => ?_, fun i hi k hk => ?_, fun i hi k hk => ?_, fun i j hi hj hn h => ?_, fun p h1 h2 => ?_, fun i h1 h2 => ?_, fun i hi => ?_, fun r hr => ?_, fun p e hp he hx f s hf hs => ?_, fun k hk => ?_, fun j k hj hk => ?_, fun i p hi hp h => (hh i p hi hp h).2⟩
  · rw [eO] at hi
    refine Nat.le_trans (cntN_imp (fun p hp h => (hh i p (by omega) hp h).1)) ?_
    show nTaken q i ≤ tn (q' (18 + 4 * i) 3)
    rw [ef i 3 (by omega)]
    exact fu i hi
  · rw [eW i hi] at hk
    rw [e2 i j hi, e2 i k hi]
    exact qd i hi j k hj hk
  · rw [eW i hi] at hk
    refine hff i _ hi ?_ ?_
    · show tn (q' (18 + 4 * i + 2) k) < 10
      rw [e2 i k hi]
      have := hW.wtl hi hk
      exact Nat.lt_succ_of_le this
    · show hs q i (tn (q' (18 + 4 * i + 2) k)) = false
      rw [e2 i k hi]
      exact qs i hi k hk
  · rw [eW i hi] at hk
    rw [eP, e3 i k hi]
    show tn (q' (18 + 4 * i + 2) k) < nP q ∧ _
    rw [e2 i k hi]
    exact ql i hi k hk
  · rw [eO] at hi hj
    rw [ef i 2 (by omega), ef j 2 (by omega)] at h
    rw [ef i 1 (by omega), ef j 1 (by omega)]
    exact sh i j hi hj hn h
  · rw [eP] at h1
    exact ⟨fun i hi => hff i p hi h2 ((pb p h1 h2).1 i hi), h68 p h1 h2⟩
  · rw [eO] at h1
    exact ⟨fun p hp => hff i p h2 hp ((ob i h1 h2).1 p hp), (eW i h2).trans (ob i h1 h2).2⟩
  · rw [eO] at hi
    rw [ef i 2 (by omega), ef i 3 (by omega), eR, hc 66 _ (by decide) (by decide) (by omega) (by omega)]
    exact rm i hi
  · rw [eR] at hr
    rw [hc 66 _ (by decide) (by decide) (by omega) (by omega)]
    exact rs r hr
  · rw [eP, eE] at hx
    rw [hc _ _ (by omega) (by omega) (by omega) (by omega), hc (3 + f) _ (by omega) (by omega) (by omega) (by omega)]
    exact rc p e hp he hx f s hf hs
  · rw [eB] at hk
    show tn (q' 14 k) < nP q' ∧ tn (q' 15 k) < nO q' ∧ ptO (q' 16 k)
    rw [eP, eO, hc 14 k (by decide) (by decide) (by omega) (by omega), hc 15 k (by decide) (by decide) (by omega) (by omega), hc 16 k (by decide) (by decide) (by omega) (by omega)]
    exact bp k hk
  · rw [eB] at hk
    show tn (q' 14 j) ≠ tn (q' 14 k) ∨ tn (q' 15 j) ≠ tn (q' 15 k)
    rw [hc 14 k (by decide) (by decide) (by omega) (by omega), hc 15 k (by decide) (by decide) (by omega) (by omega), hc 14 j (by decide) (by decide) (by omega) (by omega), hc 15 j (by decide) (by decide) (by omega) (by omega)]
    exact bd j k hj hk
/-- the points of one pupil are whole still: what is taken here comes there -/
theorem pw_step {q q' : Mem} {p i : Nat} {x y : Int32} (hi : i < nO q) (eO : nO q' = nO q) (h67 : q' 67 p = q 67 p + x) (h68 : q' 68 p = q 68 p + y) (hp : psB q' p i + (x + y) = psB q p i) (ho : ∀ j, j ≠ i → psB q' p j = psB q p j) (h : pwB q p = true) : pwB q' p = true := by
  unfold pwB at h ⊢
  rw [decide_eq_true_eq] at h ⊢
  have e : sumN (psB q p) (nO q) = sumN (psB q' p) (nO q) + (x + y) := sum_add (c := i) hp.symm (fun j hj => (ho j hj).symm) (nO q) hi
  rw [e] at h
  rw [eO, h67, h68, ← h]
  ac_rfl
theorem pw_same {q q' : Mem} {p : Nat} (eO : nO q' = nO q) (h67 : q' 67 p = q 67 p) (h68 : q' 68 p = q 68 p) (ho : ∀ j, j < nO q → q' (18 + 4 * j + 1) p = q (18 + 4 * j + 1) p) (h : pwB q p = true) : pwB q' p = true := by
  unfold pwB at h ⊢
  rw [eO, h67, h68, sumN_congr (f := psB q' p) (g := psB q p) (fun j hj => by unfold psB hs; rw [ho j hj])]
  exact h
theorem psB_t {q : Mem} {p i : Nat} (h : hs q i p = true) : psB q p i = q (18 + 4 * i + 1) p := if_pos h
theorem psB_f {q : Mem} {p i : Nat} (h : hs q i p = false) : psB q p i = 0 := if_neg (by rw [h]; decide)

