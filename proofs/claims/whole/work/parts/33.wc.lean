/-! well formed behind each call -/
theorem WC.room {q : Mem} (hW : WC q) {v : Int32} (hn : nR q < 3) : WC (up2 (up2 q 66 (nR q) v) 0 7 (nI (nR q + 1))) := by
  have hrl := hW.rl
  have hol := hW.ol
  have hpl := hW.pl
  have hel := hW.el
  have hbl := hW.bl
  generalize hq : up2 (up2 q 66 (nR q) v) 0 7 (nI (nR q + 1)) = q'
  have E : ∀ c k, (c ≠ 66 ∨ k ≠ nR q) ∧ (c ≠ 0 ∨ k ≠ 7) → q' c k = q c k := fun c k h => by
    rw [← hq]
    rw [up2_o (by omega), up2_o (by omega)]
  obtain ⟨h1, h2, h3, h4, h5, h6, h7, h8, h9⟩ := hW
  refine ⟨?_, ?_, ?_, ?_, ?_, ?_, ?_, ?_, ?_⟩
  · rw [← hq, up2_s]; exact isN.of rfl (by omega) (by decide)
  · rw [E 0 8 (by omega)]; exact h2
  · rw [E 0 9 (by omega)]; exact h3
  · rw [E 0 10 (by omega)]; exact h4
  · intro i hi; exact WO_congr (fun c k c1 c2 c3 c4 => E c k (by omega)) (h5 i hi)
  · intro f hf; rw [E 12 f (by omega)]; exact h6 f hf
  · rw [E 13 3 (by omega)]; exact h7
  · intro k hk
    rw [show bW q' = bW q from congrArg tn (E 13 3 (by omega))] at hk
    show isN (q' 14 k) 9 ∧ isN (q' 15 k) 11
    rw [E 14 k (by omega), E 15 k (by omega)]
    exact h8 k hk
  · intro s hs; rw [E 69 s (by omega)]; exact h9 s hs
theorem WC.exam {q : Mem} (hW : WC q) (hn : nE q < 6) : WC (up2 q 0 8 (nI (nE q + 1))) := by
  have hrl := hW.rl
  have hol := hW.ol
  have hpl := hW.pl
  have hel := hW.el
  have hbl := hW.bl
  generalize hq : up2 q 0 8 (nI (nE q + 1)) = q'
  have E : ∀ c k, (c ≠ 0 ∨ k ≠ 8) → q' c k = q c k := fun c k h => by
    rw [← hq]
    rw [up2_o (by omega)]
  obtain ⟨h1, h2, h3, h4, h5, h6, h7, h8, h9⟩ := hW
  refine ⟨?_, ?_, ?_, ?_, ?_, ?_, ?_, ?_, ?_⟩
  · rw [E 0 7 (by omega)]; exact h1
  · rw [← hq, up2_s]; exact isN.of rfl (by omega) (by decide)
  · rw [E 0 9 (by omega)]; exact h3
  · rw [E 0 10 (by omega)]; exact h4
  · intro i hi; exact WO_congr (fun c k c1 c2 c3 c4 => E c k (by omega)) (h5 i hi)
  · intro f hf; rw [E 12 f (by omega)]; exact h6 f hf
  · rw [E 13 3 (by omega)]; exact h7
  · intro k hk
    rw [show bW q' = bW q from congrArg tn (E 13 3 (by omega))] at hk
    show isN (q' 14 k) 9 ∧ isN (q' 15 k) 11
    rw [E 14 k (by omega), E 15 k (by omega)]
    exact h8 k hk
  · intro s hs; rw [E 69 s (by omega)]; exact h9 s hs
theorem WC.pupil {q : Mem} (hW : WC q) (hn : nP q < 10) : WC (up2 (up2 q 67 (nP q) 100) 0 9 (nI (nP q + 1))) := by
  have hrl := hW.rl
  have hol := hW.ol
  have hpl := hW.pl
  have hel := hW.el
  have hbl := hW.bl
  generalize hq : up2 (up2 q 67 (nP q) 100) 0 9 (nI (nP q + 1)) = q'
  have E : ∀ c k, (c ≠ 0 ∨ k ≠ 9) ∧ (c ≠ 67 ∨ k ≠ nP q) → q' c k = q c k := fun c k h => by
    rw [← hq]
    rw [up2_o (by omega), up2_o (by omega)]
  obtain ⟨h1, h2, h3, h4, h5, h6, h7, h8, h9⟩ := hW
  refine ⟨?_, ?_, ?_, ?_, ?_, ?_, ?_, ?_, ?_⟩
  · rw [E 0 7 (by omega)]; exact h1
  · rw [E 0 8 (by omega)]; exact h2
  · rw [← hq, up2_s]; exact isN.of rfl (by omega) (by decide)
  · rw [E 0 10 (by omega)]; exact h4
  · intro i hi; exact WO_congr (fun c k c1 c2 c3 c4 => E c k (by omega)) (h5 i hi)
  · intro f hf; rw [E 12 f (by omega)]; exact h6 f hf
  · rw [E 13 3 (by omega)]; exact h7
  · intro k hk
    rw [show bW q' = bW q from congrArg tn (E 13 3 (by omega))] at hk
    show isN (q' 14 k) 9 ∧ isN (q' 15 k) 11
    rw [E 14 k (by omega), E 15 k (by omega)]
    exact h8 k hk
  · intro s hs; rw [E 69 s (by omega)]; exact h9 s hs
theorem WC.wr {q : Mem} (hW : WC q) {t x f : Nat} {v : Int32} (ht : t < 3) (hf : f < 3) : WC (up2 q (3 + (t * 3 + f)) x v) := by
  have hrl := hW.rl
  have hol := hW.ol
  have hpl := hW.pl
  have hel := hW.el
  have hbl := hW.bl
  generalize hq : up2 q (3 + (t * 3 + f)) x v = q'
  have E : ∀ c k, (c < 3 ∨ 12 ≤ c) → q' c k = q c k := fun c k h => by
    rw [← hq]
    rw [up2_o (by omega)]
  obtain ⟨h1, h2, h3, h4, h5, h6, h7, h8, h9⟩ := hW
  refine ⟨?_, ?_, ?_, ?_, ?_, ?_, ?_, ?_, ?_⟩
  · rw [E 0 7 (by omega)]; exact h1
  · rw [E 0 8 (by omega)]; exact h2
  · rw [E 0 9 (by omega)]; exact h3
  · rw [E 0 10 (by omega)]; exact h4
  · intro i hi; exact WO_congr (fun c k c1 c2 c3 c4 => E c k (by omega)) (h5 i hi)
  · intro f hf; rw [E 12 f (by omega)]; exact h6 f hf
  · rw [E 13 3 (by omega)]; exact h7
  · intro k hk
    rw [show bW q' = bW q from congrArg tn (E 13 3 (by omega))] at hk
    show isN (q' 14 k) 9 ∧ isN (q' 15 k) 11
    rw [E 14 k (by omega), E 15 k (by omega)]
    exact h8 k hk
  · intro s hs; rw [E 69 s (by omega)]; exact h9 s hs
theorem WC.own1 {q : Mem} (hW : WC q) {f : Nat} {v : Int32} (hv : isN v 2) : WC (up2 q 12 f v) := by
  have hrl := hW.rl
  have hol := hW.ol
  have hpl := hW.pl
  have hel := hW.el
  have hbl := hW.bl
  generalize hq : up2 q 12 f v = q'
  have E : ∀ c k, (c ≠ 12 ∨ k ≠ f) → q' c k = q c k := fun c k h => by
    rw [← hq]
    rw [up2_o (by omega)]
  obtain ⟨h1, h2, h3, h4, h5, h6, h7, h8, h9⟩ := hW
  refine ⟨?_, ?_, ?_, ?_, ?_, ?_, ?_, ?_, ?_⟩
  · rw [E 0 7 (by omega)]; exact h1
  · rw [E 0 8 (by omega)]; exact h2
  · rw [E 0 9 (by omega)]; exact h3
  · rw [E 0 10 (by omega)]; exact h4
  · intro i hi; exact WO_congr (fun c k c1 c2 c3 c4 => E c k (by omega)) (h5 i hi)
  · intro g hg
    by_cases e : g = f
    · subst e; rw [← hq, up2_s]; exact hv
    · rw [E 12 g (by omega)]; exact h6 g hg
  · rw [E 13 3 (by omega)]; exact h7
  · intro k hk
    rw [show bW q' = bW q from congrArg tn (E 13 3 (by omega))] at hk
    show isN (q' 14 k) 9 ∧ isN (q' 15 k) 11
    rw [E 14 k (by omega), E 15 k (by omega)]
    exact h8 k hk
  · intro s hs; rw [E 69 s (by omega)]; exact h9 s hs
theorem WC.s69 {q : Mem} (hW : WC q) {n : Nat} : WC (up2 q 69 n 1) := by
  have hrl := hW.rl
  have hol := hW.ol
  have hpl := hW.pl
  have hel := hW.el
  have hbl := hW.bl
  generalize hq : up2 q 69 n 1 = q'
  have E : ∀ c k, (c ≠ 69 ∨ k ≠ n) → q' c k = q c k := fun c k h => by
    rw [← hq]
    rw [up2_o (by omega)]
  obtain ⟨h1, h2, h3, h4, h5, h6, h7, h8, h9⟩ := hW
  refine ⟨?_, ?_, ?_, ?_, ?_, ?_, ?_, ?_, ?_⟩
  · rw [E 0 7 (by omega)]; exact h1
  · rw [E 0 8 (by omega)]; exact h2
  · rw [E 0 9 (by omega)]; exact h3
  · rw [E 0 10 (by omega)]; exact h4
  · intro i hi; exact WO_congr (fun c k c1 c2 c3 c4 => E c k (by omega)) (h5 i hi)
  · intro f hf; rw [E 12 f (by omega)]; exact h6 f hf
  · rw [E 13 3 (by omega)]; exact h7
  · intro k hk
    rw [show bW q' = bW q from congrArg tn (E 13 3 (by omega))] at hk
    show isN (q' 14 k) 9 ∧ isN (q' 15 k) 11
    rw [E 14 k (by omega), E 15 k (by omega)]
    exact h8 k hk
  · intro g hg
    by_cases e : g = n
    · subst e; rw [← hq, up2_s]; exact Or.inr rfl
    · rw [E 69 g (by omega)]; exact h9 g hg
theorem WC.b0 {q : Mem} (hW : WC q) {v : Int32} : WC (up2 (up2 q 13 3 0) 0 11 v) := by
  have hrl := hW.rl
  have hol := hW.ol
  have hpl := hW.pl
  have hel := hW.el
  have hbl := hW.bl
  generalize hq : up2 (up2 q 13 3 0) 0 11 v = q'
  have E : ∀ c k, (c ≠ 13 ∨ k ≠ 3) ∧ (c ≠ 0 ∨ k ≠ 11) → q' c k = q c k := fun c k h => by
    rw [← hq]
    rw [up2_o (by omega), up2_o (by omega)]
  obtain ⟨h1, h2, h3, h4, h5, h6, h7, h8, h9⟩ := hW
  refine ⟨?_, ?_, ?_, ?_, ?_, ?_, ?_, ?_, ?_⟩
  · rw [E 0 7 (by omega)]; exact h1
  · rw [E 0 8 (by omega)]; exact h2
  · rw [E 0 9 (by omega)]; exact h3
  · rw [E 0 10 (by omega)]; exact h4
  · intro i hi; exact WO_congr (fun c k c1 c2 c3 c4 => E c k (by omega)) (h5 i hi)
  · intro f hf; rw [E 12 f (by omega)]; exact h6 f hf
  · rw [← hq, up2_o (by omega), up2_s]; exact ⟨by decide, by decide⟩
  · intro k hk
    rw [show bW q' = 0 from congrArg tn (show q' 13 3 = 0 by rw [← hq, up2_o (by omega), up2_s])] at hk
    omega
  · intro s hs; rw [E 69 s (by omega)]; exact h9 s hs
theorem WC.sync {q : Mem} (hW : WC q) {s t : Nat} (hs3 : s < 3) (ht3 : t < 3) : WC (cpO q s t 3) := by
  have hrl := hW.rl
  have hol := hW.ol
  have hpl := hW.pl
  have hel := hW.el
  have hbl := hW.bl
  generalize hq : cpO q s t 3 = q'
  have E : ∀ c k, (c < 3 ∨ 12 ≤ c) → q' c k = q c k := fun c k h => by
    rw [← hq]
    exact cpO_x 3 _ _ (by omega)
  obtain ⟨h1, h2, h3, h4, h5, h6, h7, h8, h9⟩ := hW
  refine ⟨?_, ?_, ?_, ?_, ?_, ?_, ?_, ?_, ?_⟩
  · rw [E 0 7 (by omega)]; exact h1
  · rw [E 0 8 (by omega)]; exact h2
  · rw [E 0 9 (by omega)]; exact h3
  · rw [E 0 10 (by omega)]; exact h4
  · intro i hi; exact WO_congr (fun c k c1 c2 c3 c4 => E c k (by omega)) (h5 i hi)
  · intro f hf; rw [E 12 f (by omega)]; exact h6 f hf
  · rw [E 13 3 (by omega)]; exact h7
  · intro k hk
    rw [show bW q' = bW q from congrArg tn (E 13 3 (by omega))] at hk
    show isN (q' 14 k) 9 ∧ isN (q' 15 k) 11
    rw [E 14 k (by omega), E 15 k (by omega)]
    exact h8 k hk
  · intro s hs; rw [E 69 s (by omega)]; exact h9 s hs
theorem WC.offer {q : Mem} (hW : WC q) {e1 s1 r1 z1 : Int32} (hn : nO q < 12) (he : isN e1 5) (hs1 : isN s1 5) (hz : z1 = 0 ∨ z1 = 1) (hst : isN (q 66 (tn r1)) 6) : WC (a3_offer q e1 s1 r1 z1) := by
  have hrl := hW.rl
  have hol := hW.ol
  have hpl := hW.pl
  have hel := hW.el
  have hbl := hW.bl
  generalize hq : a3_offer q e1 s1 r1 z1 = q'
  have E : ∀ c k, (c ≠ 18 + 4 * nO q ∨ k = 8) ∧ (c ≠ 0 ∨ k ≠ 10) → q' c k = q c k := fun c k h => by
    rw [← hq]
    unfold a3_offer a3_open
    rw [up2_o (by omega), up2_o (by omega), up2_o (by omega), up2_o (by omega), up2_o (by omega), up2_o (by omega)]
  have Ef : q' (18 + 4 * nO q) 0 = e1 ∧ q' (18 + 4 * nO q) 1 = s1 ∧ q' (18 + 4 * nO q) 2 = r1 ∧ q' (18 + 4 * nO q) 3 = q 66 (tn r1) ∧ q' (18 + 4 * nO q) 4 = z1 := by
    rw [← hq]
    simp only [a3_offer, a3_open]
    refine ⟨?_, ?_, ?_, ?_, ?_⟩ <;> (simp only [up2]; grind)
  obtain ⟨h1, h2, h3, h4, h5, h6, h7, h8, h9⟩ := hW
  refine ⟨?_, ?_, ?_, ?_, ?_, ?_, ?_, ?_, ?_⟩
  · rw [E 0 7 (by omega)]; exact h1
  · rw [E 0 8 (by omega)]; exact h2
  · rw [E 0 9 (by omega)]; exact h3
  · rw [← hq, show a3_offer q e1 s1 r1 z1 0 10 = nI (nO q + 1) from up2_s]; exact isN.of rfl (by omega) (by decide)
  · intro i hi
    by_cases e : i = nO q
    · subst e
      obtain ⟨g1, g2, g3, g4, g5, g6⟩ := h5 (nO q) hi
      unfold WO qW at *
      rw [Ef.1, Ef.2.1, Ef.2.2.2.1, Ef.2.2.2.2, E _ 8 (by omega)]
      refine ⟨he, hs1, hz, g4, hst, fun k hk => ?_⟩
      rw [E _ _ (by omega)]
      exact g6 k hk
    · exact WO_congr (fun c k c1 c2 c3 c4 => E c k (by omega)) (h5 i hi)
  · intro f hf; rw [E 12 f (by omega)]; exact h6 f hf
  · rw [E 13 3 (by omega)]; exact h7
  · intro k hk
    rw [show bW q' = bW q from congrArg tn (E 13 3 (by omega))] at hk
    show isN (q' 14 k) 9 ∧ isN (q' 15 k) 11
    rw [E 14 k (by omega), E 15 k (by omega)]
    exact h8 k hk
  · intro s hs; rw [E 69 s (by omega)]; exact h9 s hs
theorem ma_all {i : Nat} (hi : i < 12) : ∀ n Z, WC Z → IQ Z → i < nO Z → WC (maR i n Z) ∧ IQ (maR i n Z) := by
  intro n
  induction n with
  | zero => intro Z h1 h2 _; exact ⟨h1, h2⟩
  | succ n ih =>
    intro Z h1 h2 h3
    rw [maR]
    by_cases g : muF Z i = -1
    · rw [if_pos g]
      exact ⟨h1.mu hi, h2.mu h1 h3⟩
    · rw [if_neg g]
      exact ih _ (h1.mu hi) (h2.mu h1 h3) (by rw [(mu_more h1 h2 h3 g).2.2.2]; exact h3)
/-- the cells that a seat given leaves -/
theorem gv_o {q : Mem} {i p c k : Nat} {V : Int32} (h : c < 18 ∨ 66 ≤ c) (h2 : c ≠ 67) (hi : i < 12) (hl : nO q ≤ 12) : giveA q i p V c k = q c k := by
  show gvA (gv1 q i p V) _ _ _ _ c k = _
  rw [gvA_01 (by omega) hl]
  exact (up2_o (by omega)).trans (up2_o (by omega))
theorem mu_o {q : Mem} {i c k : Nat} (h : c < 18 ∨ 66 ≤ c) (h2 : c ≠ 67) (hi : i < 12) (hl : nO q ≤ 12) : muA q i c k = q c k := by
  unfold muA
  split
  · rfl
  · split
    · exact gv_o h h2 hi hl
    · rfl
theorem ma_o {i c k : Nat} (h : c < 18 ∨ 66 ≤ c) (h2 : c ≠ 67) (hi : i < 12) : ∀ n Z, nO Z ≤ 12 → maR i n Z c k = Z c k := by
  intro n
  induction n with
  | zero => intro Z _; rfl
  | succ n ih =>
    intro Z hl
    rw [maR]
    split
    · exact mu_o h h2 hi hl
    · rw [ih _ (by rw [show nO (muA Z i) = nO Z from congrArg tn (mu_o (by omega) (by omega) hi hl)]; exact hl), mu_o h h2 hi hl]
/-- who has sat hangs on closed offers alone -/
theorem hsE_op {q q' : Mem} {p : Nat} {ex z : Int32} (eO : nO q' = nO q) (h : ∀ i, i < nO q → isOfB q' i ex z = isOfB q i ex z ∧ clB q' i = clB q i ∧ (clB q i = true → hs q' i p = hs q i p)) : hsE q' p ex z = hsE q p ex z := by
  unfold hsE
  rw [eO]
  apply anyN_congr
  intro i hi
  obtain ⟨h1, h2, h3⟩ := h i hi
  unfold hfB
  rw [h1, h2]
  cases hc : clB q i with
  | false => rw [Bool.and_false, Bool.and_false]
  | true => rw [h3 hc]
theorem hsE_give {q : Mem} (hW : WC q) {i p r : Nat} {V ex z : Int32} (hi : i < nO q) (hc : clB q i = false) : hsE (giveA q i p V) r ex z = hsE q r ex z := by
  have hl := hW.ol
  have E : ∀ c k, (c < 18 ∨ 66 ≤ c ∨ ((c - 18) % 4 = 0 ∧ k ≠ 8) ∨ (c - 18) % 4 = 1) → giveA q i p V c k = gv1 q i p V c k := fun c k h => gvA_01 h (by omega)
  have E1 : ∀ c k, c ≠ 67 → c ≠ 18 + 4 * i + 1 → gv1 q i p V c k = q c k := fun c k h1 h2 => (up2_o (by omega)).trans (up2_o (by omega))
  refine hsE_op (congrArg tn ((E 0 10 (by omega)).trans (E1 _ _ (by omega) (by omega)))) (fun j hj => ⟨?_, ?_, fun g => ?_⟩)
  · unfold isOfB
    rw [E _ _ (by omega), E _ _ (by omega), E1 _ _ (by omega) (by omega), E1 _ _ (by omega) (by omega)]
  · have e : sl (giveA q i p V) j = sl q j := congrArg tn ((E _ _ (by omega)).trans (E1 _ _ (by omega) (by omega)))
    unfold clB
    rw [e, E 69 _ (by omega), E1 _ _ (by omega) (by omega)]
  · have hji : j ≠ i := fun z => by subst z; rw [hc] at g; cases g
    unfold hs
    rw [E _ _ (by omega), E1 _ _ (by omega) (by omega)]
theorem hsE_mu {q : Mem} (hW : WC q) {i r : Nat} {ex z : Int32} (hi : i < nO q) : hsE (muA q i) r ex z = hsE q r ex z := by
  unfold muA
  split
  · rfl
  · split
    · rename_i h
      have h2 := firN_yes h
      unfold muK at h2
      exact hsE_give hW hi (nos_t h2).1
    · rfl
theorem hsE_ma {i r : Nat} {ex z : Int32} (hi : i < 12) : ∀ n Z, WC Z → IQ Z → i < nO Z → hsE (maR i n Z) r ex z = hsE Z r ex z := by
  intro n
  induction n with
  | zero => intro Z _ _ _; rfl
  | succ n ih =>
    intro Z h1 h2 h3
    rw [maR]
    by_cases g : muF Z i = -1
    · rw [if_pos g]
      exact hsE_mu h1 h3
    · rw [if_neg g, ih _ (h1.mu hi) (h2.mu h1 h3) (by rw [(mu_more h1 h2 h3 g).2.2.2]; exact h3)]
      exact hsE_mu h1 h3
theorem hsE_let {q : Mem} (hW : WC q) {i r w : Nat} {p V ex z : Int32} (hi : i < 12) : hsE (letW q i p V w) r ex z = hsE q r ex z := by
  have hl := hW.ol
  unfold letW
  split
  · rfl
  · have E : ∀ c k, c ≠ 18 + 4 * i + 2 → c ≠ 18 + 4 * i + 3 → (c ≠ 18 + 4 * i ∨ k ≠ 8) → up2 (up2 (up2 q (18 + 4 * i + 2) w p) (18 + 4 * i + 3) w V) (18 + 4 * i) 8 (nI (w + 1)) c k = q c k := fun c k h1 h2 h3 => by
      rw [up2_o (by omega), up2_o (by omega), up2_o (by omega)]
    refine hsE_op (congrArg tn (E 0 10 (by omega) (by omega) (by omega))) (fun j hj => ⟨?_, ?_, fun g => ?_⟩)
    · unfold isOfB
      rw [E _ _ (by omega) (by omega) (by omega), E _ _ (by omega) (by omega) (by omega)]
    · unfold clB sl
      rw [E _ 1 (by omega) (by omega) (by omega), E 69 _ (by omega) (by omega) (by omega)]
    · unfold hs
      rw [E _ _ (by omega) (by omega) (by omega)]
theorem hsE_won {q : Mem} (hW : WC q) {i p r : Nat} {V ex z : Int32} (hi : i < nO q) : hsE (wonA q p i V) r ex z = hsE q r ex z := by
  have hl := hW.ol
  unfold wonA
  split
  · rename_i h
    split
    · exact hsE_let hW (by omega)
    · exact hsE_give hW hi (nos_t h).1
  · rfl
theorem hsE_st {q : Mem} (hW : WC q) (hI : IQ q) {r : Nat} {ex z : Int32} : ∀ n, n ≤ bW q → hsE (stK q n) r ex z = hsE q r ex z := by
  intro n
  induction n with
  | zero => intro _; rfl
  | succ n ih =>
    intro hn
    rw [stK, hsE_won (stK_all hW n (by omega)).1 (by rw [show nO (stK q n) = nO q from congrArg tn (congrFun (st_0 n) 10)]; exact (hI.bp n (by omega)).2.1)]
    exact ih (by omega)
theorem hsE_un {q : Mem} (hW : WC q) {i p r : Nat} {w x y ex z : Int32} (hi : i < 12) (hc : clB q i = false) : hsE (up2 (payA (up2 q (18 + 4 * i + 1) p w) p x) 68 p y) r ex z = hsE q r ex z := by
  have hl := hW.ol
  have E : ∀ c k, c ≠ 67 → c ≠ 68 → (c ≠ 0 ∨ k ≠ 12) → c ≠ 18 + 4 * i + 1 → up2 (payA (up2 q (18 + 4 * i + 1) p w) p x) 68 p y c k = q c k := fun c k h1 h2 h3 h4 => by
    unfold payA
    rw [up2_o (by omega), up2_o (by omega), up2_o (by omega), up2_o (by omega)]
  refine hsE_op (congrArg tn (E 0 10 (by omega) (by omega) (by omega) (by omega))) (fun j hj => ⟨?_, ?_, fun g => ?_⟩)
  · unfold isOfB
    rw [E _ _ (by omega) (by omega) (by omega) (by omega), E _ _ (by omega) (by omega) (by omega) (by omega)]
  · unfold clB sl
    rw [E _ 1 (by omega) (by omega) (by omega) (by omega), E 69 _ (by omega) (by omega) (by omega) (by omega)]
  · have hji : j ≠ i := fun z => by subst z; rw [hc] at g; cases g
    unfold hs
    rw [E _ _ (by omega) (by omega) (by omega) (by omega)]
theorem hsE_lost {q : Mem} (hW : WC q) {i p r : Nat} {s ex z : Int32} (hi : i < 12) (hc : clB q i = false) : hsE (lostA q i p s) r ex z = hsE q r ex z := by
  unfold lostA
  split
  · rcases pay68 (q := q) (i := i) (p := p) (w := -1) (x := q (18 + 4 * i + 1) p) with e | e
    · rw [← e]; exact hsE_un hW hi hc
    · omega
  · rcases pay68 (q := q) (i := i) (p := p) (w := q (18 + 4 * i + 1) p - q (18 + 4 * i + 1) p / 2) (x := q (18 + 4 * i + 1) p / 2) with e | e
    · rw [← e]; exact hsE_un hW hi hc
    · omega
theorem mvK_cl {q : Mem} {i j : Nat} {s : Int32} (n : Nat) (hj : j < 12) : clB (mvK q i s n) j = clB q j ∨ 12 ≤ i := by
  by_cases h : 12 ≤ i
  · exact Or.inr h
  · refine Or.inl ?_
    unfold clB sl
    rw [mvK_s n (by omega) (by omega) (by omega), mvK_s n (by omega) (by omega) (by omega)]
theorem hsE_mv {q : Mem} (hW : WC q) {i r : Nat} {s ex z : Int32} (hi : i < 12) (hc : clB q i = false) : ∀ n, hsE (mvK q i s n) r ex z = hsE q r ex z := by
  intro n
  induction n with
  | zero => rfl
  | succ n ih =>
    simp only [mvK]
    split
    · rw [hsE_lost (hW.mv hi n) hi (by rcases mvK_cl (q := q) (i := i) (s := s) n hi with e | e; rw [e]; exact hc; omega)]
      exact ih
    · exact ih
theorem hsE_slot {q : Mem} (hW : WC q) {i n r : Nat} {ex z : Int32} (hi : i < 12) (hn : n < 6) (hc : clB q i = false) (h0 : q 69 n = 0) : hsE (up2 q (18 + 4 * i) 1 (nI n)) r ex z = hsE q r ex z := by
  have hl := hW.ol
  have E : ∀ c k, (c ≠ 18 + 4 * i ∨ k ≠ 1) → up2 q (18 + 4 * i) 1 (nI n) c k = q c k := fun c k h => up2_o (by omega)
  refine hsE_op (congrArg tn (E 0 10 (by omega))) (fun j hj => ⟨?_, ?_, fun g => ?_⟩)
  · unfold isOfB
    rw [E _ _ (by omega), E _ _ (by omega)]
  · by_cases e : j = i
    · subst e
      rw [hc]
      unfold clB sl
      rw [up2_s, tn_nI (by omega), E 69 n (by omega), h0]
      rfl
    · unfold clB sl
      rw [E _ 1 (by omega), E 69 _ (by omega)]
  · unfold hs
    rw [E _ _ (by omega)]

