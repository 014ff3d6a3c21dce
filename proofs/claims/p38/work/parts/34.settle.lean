/-! the round settled -/
theorem cntN_up {f g : Nat → Bool} {q : Nat} (hf : f q = false) (hg : g q = true) (h : ∀ i, i ≠ q → g i = f i) : ∀ n, cntN g n = cntN f n + (if q < n then 1 else 0) := by
  intro n
  induction n with
  | zero => rfl
  | succ n ih =>
    by_cases e : n = q
    · subst e
      rw [cntN_t hg, cntN_f hf, ih, if_neg (Nat.lt_irrefl _), if_pos (Nat.lt_succ_self _)]
    · simp only [cntN]
      rw [ih, h n e]
      by_cases g : q < n
      · rw [if_pos g, if_pos (show q < n + 1 by omega)]
        omega
      · rw [if_neg g, if_neg (show ¬ q < n + 1 by omega)]
        omega
section STL
variable {S np N : Nat} {rg : Nat → Nat → Int32} {mx pt pd : Nat → Int32} {qw rf sat : Int32} {a : Mem} {bd ord rk : Nat → Nat}
theorem give0 (h : MD S np rg mx pt pd 0 rf sat a) {q : Nat} {V : Int32} : giveA a 0 q V = up2 (up2 a 67 q (a 67 q - V)) 19 q V := by
  have e : ∀ c k, c ≠ 67 → c ≠ 19 → up2 (up2 a 67 q (a 67 q - V)) 19 q V c k = a c k := fun c k h1 h2 => (up2_o (by omega)).trans (up2_o (by omega))
  funext c k
  show gvA (up2 (up2 a 67 q (a 67 q - V)) 19 q V) (a 18 0) (a 18 4) (nI q) (nO a) c k = _
  rw [h.knO]
  by_cases hc : 18 ≤ c ∧ c < 22
  · rw [gvA_in (i := 0) (by omega) (by omega) (by omega)]
    split
    · have hq : qW (up2 (up2 a 67 q (a 67 q - V)) 19 q V) 0 = 0 := by
        show tn (up2 (up2 a 67 q (a 67 q - V)) 19 q V 18 8) = 0
        rw [e 18 8 (by decide) (by decide), h.kq]
        rfl
      rw [hq]
      unfold noMore
      rw [if_neg (Nat.not_lt_zero _)]
    · rfl
  · exact gvA_hi (by omega)
theorem letW0 {q w : Nat} {V : Int32} (hw : w < 10) (hno : ∀ j, j < w → ¬ a 20 j = nI q) : letW a 0 (nI q) V w = up2 (up2 (up2 a 20 w (nI q)) 21 w V) 18 8 (nI (w + 1)) := by
  have e : firN (qAt a 0 (nI q)) w = w := firN_eq (Nat.le_refl _) (fun j hj => decide_eq_false (hno j hj)) (fun z => absurd z (Nat.lt_irrefl _))
  unfold letW
  rw [e, if_neg (by omega)]
set_option maxHeartbeats 4000000 in
theorem settle_all (hN : N ≤ 10) (hS : S < 10) (hM : MD S N rg mx pt pd 0 rf 0 a) (hW : WC a) (hR : RB N bd ord rk a) (hr : ∀ s q, s < 3 → q < N → rg s q = 1) (hpt : ∀ q, q < N → pt q = 100) (hpd : ∀ q, q < 10 → pd q = -1) (hT : nTaken a 0 = 0) (hb : ∀ q, bd q ≤ 100) : ∀ k, k ≤ N → WC (stK a k) ∧ MD S N rg mx (fun q => if rk q < k ∧ rk q < S then pt q - nI (bd q) else pt q) (fun q => if rk q < k ∧ rk q < S then nI (bd q) else -1) (nI (k - S)) rf 0 (stK a k) ∧ (∀ j, j < k - S → stK a k 20 j = nI (ord (S + j))) ∧ nTaken (stK a k) 0 = min k S ∧ stC a k = min k S := by
  intro k
  induction k with
  | zero =>
    intro _
    refine ⟨hW, ?_, fun j hj => absurd hj (by omega), by rw [Nat.zero_min]; exact hT, by rw [Nat.zero_min]; rfl⟩
    rw [Nat.zero_sub]
    exact hM.kto (fun _ _ _ _ => rfl) (fun _ _ => rfl) (fun q hq => by rw [if_neg (by omega)]) (fun q hq => by rw [if_neg (by omega)]; exact hpd q hq)
  | succ k ih =>
    intro hk
    obtain ⟨W, M, Q, T, K⟩ := ih (by omega)
    obtain ⟨o1, o2, o3, o4, o5⟩ := hR.2.1 k (by omega)
    have hord : ∀ q, q ≠ ord k → rk q ≠ k := fun q hq z => by
      by_cases g : q < N
      · have := (hR.2.2.1 q g).2
        rw [z] at this
        exact hq this.symm
      · have := hR.2.2.2.1 q (by omega)
        omega
    have eb : bpN a k = ord k := by
      show tn (a 14 k) = ord k
      rw [o1]
      exact tn_nI (by omega)
    have eo : boN a k = 0 := by
      show tn (a 15 k) = 0
      rw [o2]
      rfl
    have hbq := hb (ord k)
    have h100 : (100 : Int32) = nI 100 := by decide
    have hnos : nos (stK a k) 0 (ord k) (nI (bd (ord k))) = true := by
      refine M.knos (by omega) (hr 0 _ (by decide) o4) (hr 1 _ (by decide) o4) (hr 2 _ (by decide) o4) (if_neg (by omega)) ?_
      rw [if_neg (by omega), hpt _ o4, h100]
      exact nI_nlt (by omega) (by decide)
    have hfull : isFullB (stK a k) 0 = decide (S ≤ k) := by
      show decide (¬ nI (nTaken (stK a k) 0) < stK a k 18 3) = _
      rw [T, M.kc3]
      by_cases g : S ≤ k
      · rw [decide_eq_true g, decide_eq_true (nI_nlt (by omega) (by omega))]
      · rw [decide_eq_false g, decide_eq_false (fun z => z (nI_lt (by omega) (by omega)))]
    have eK : stK a (k + 1) = wonA (stK a k) (ord k) 0 (nI (bd (ord k))) := by
      show wonA (stK a k) (bpN a k) (boN a k) (a 16 k) = _
      rw [eb, eo, o3]
    have eC : stC a (k + 1) = stC a k + (if (nos (stK a k) 0 (ord k) (nI (bd (ord k))) && !isFullB (stK a k) 0) = true then 1 else 0) := by
      show stC a k + (if (nos (stK a k) (boN a k) (bpN a k) (a 16 k) && !isFullB (stK a k) (boN a k)) = true then 1 else 0) = _
      rw [eb, eo, o3]
    rw [eK, eC, hnos, hfull, K]
    unfold wonA
    rw [if_pos hnos, hfull]
    by_cases g : S ≤ k
    · rw [decide_eq_true g, if_pos rfl, if_neg (by decide)]
      have hw : qW (stK a k) 0 = k - S := by
        show tn (stK a k 18 8) = k - S
        rw [M.kq]
        exact tn_nI (by omega)
      have hl : letW (stK a k) 0 (nI (ord k)) (nI (bd (ord k))) (qW (stK a k) 0) = up2 (up2 (up2 (stK a k) 20 (k - S) (nI (ord k))) 21 (k - S) (nI (bd (ord k)))) 18 8 (nI (k - S + 1)) := by
        rw [hw]
        refine letW0 (by omega) (fun j hj z => ?_)
        rw [Q j hj] at z
        have q1 := hR.2.1 (S + j) (by omega)
        have q2 : ord (S + j) = ord k := (nI_eq (by omega) (by omega)).mp z
        have q3 := q1.2.2.2.2
        rw [q2, o5] at q3
        omega
      have hW2 := W.lw (i := 0) (p := ord k) (pts := nI (bd (ord k))) (by decide) (by omega)
      rw [hl] at hW2 ⊢
      generalize hX : up2 (up2 (up2 (stK a k) 20 (k - S) (nI (ord k))) 21 (k - S) (nI (bd (ord k)))) 18 8 (nI (k - S + 1)) = X at hW2 ⊢
      have E : ∀ c j, (c ≠ 20 ∨ j ≠ k - S) → c ≠ 21 → (c ≠ 18 ∨ j ≠ 8) → X c j = stK a k c j := fun c j h1 h2 h3 => by
        rw [← hX]
        exact (up2_o (by omega)).trans ((up2_o (by omega)).trans (up2_o (by omega)))
      refine ⟨hW2, ?_, fun j hj => ?_, ?_, by omega⟩
      · refine M.kre (fun c j h => E c j (by omega) (by omega) (by omega)) ((E 0 9 (by omega) (by omega) (by omega)).trans M.ke9) ((E 0 12 (by omega) (by omega) (by omega)).trans M.krf) (by rw [← hX, up2_s]; congr 1; omega) (fun q hq => ?_) (fun q hq => ?_) ((E 69 2 (by omega) (by omega) (by omega)).trans M.ksat) (fun s q h1 hq => (E (3 + s * 3) (q * 6) (by omega) (by omega) (by omega)).trans (M.krg h1 hq)) (fun q hq => (E 11 (q * 6) (by omega) (by omega) (by omega)).trans (M.kmx hq))
        · rw [E 19 q (by omega) (by omega) (by omega), M.kpd hq]
          by_cases e : rk q < k ∧ rk q < S
          · rw [if_pos e, if_pos (by omega)]
          · rw [if_neg e, if_neg (by omega)]
        · rw [E 67 q (by omega) (by omega) (by omega), M.kpt hq]
          by_cases e : rk q < k ∧ rk q < S
          · rw [if_pos e, if_pos (by omega)]
          · rw [if_neg e, if_neg (by omega)]
      · by_cases e : j = k - S
        · subst e
          rw [← hX, up2_o (by omega), up2_o (by omega), up2_s, show S + (k - S) = k by omega]
        · rw [E 20 j (by omega) (by omega) (by omega)]
          exact Q j (by omega)
      · have : nTaken X 0 = nTaken (stK a k) 0 := cntN_congr (fun q hq => by
          show decide (¬ X 19 q = -1) = decide (¬ stK a k 19 q = -1)
          rw [E 19 q (by omega) (by omega) (by omega)])
        rw [this, T]
        omega
    · rw [decide_eq_false g, if_neg (by decide), if_pos (by decide)]
      have M0 := M
      rw [show k - S = 0 by omega] at M0
      have hW2 := W.give (i := 0) (p := ord k) (V := nI (bd (ord k))) (by decide)
      rw [give0 M0] at hW2 ⊢
      have hp0 : stK a k 67 (ord k) = 100 := by
        rw [M.kpt (by omega), if_neg (by omega), hpt _ o4]
      have hd0 : stK a k 19 (ord k) = -1 := by rw [M.kpd (by omega), if_neg (by omega)]
      generalize hX : up2 (up2 (stK a k) 67 (ord k) (stK a k 67 (ord k) - nI (bd (ord k)))) 19 (ord k) (nI (bd (ord k))) = X at hW2 ⊢
      have E : ∀ c j, (c ≠ 67 ∨ j ≠ ord k) → (c ≠ 19 ∨ j ≠ ord k) → X c j = stK a k c j := fun c j h1 h2 => by
        rw [← hX]
        exact (up2_o (by omega)).trans (up2_o (by omega))
      refine ⟨hW2, ?_, fun j hj => absurd hj (by omega), ?_, by omega⟩
      · refine M.kre (fun c j h => E c j (by omega) (by omega)) ((E 0 9 (by omega) (by omega)).trans M.ke9) ((E 0 12 (by omega) (by omega)).trans M.krf) (by rw [E 18 8 (by omega) (by omega), M.kq, show k + 1 - S = k - S by omega]) (fun q hq => ?_) (fun q hq => ?_) ((E 69 2 (by omega) (by omega)).trans M.ksat) (fun s q h1 hq => (E (3 + s * 3) (q * 6) (by omega) (by omega)).trans (M.krg h1 hq)) (fun q hq => (E 11 (q * 6) (by omega) (by omega)).trans (M.kmx hq))
        · by_cases e : q = ord k
          · subst e
            rw [← hX, up2_s, if_pos (by omega)]
          · have := hord q e
            rw [E 19 q (by omega) (by omega), M.kpd hq]
            by_cases e2 : rk q < k ∧ rk q < S
            · rw [if_pos e2, if_pos (by omega)]
            · rw [if_neg e2, if_neg (by omega)]
        · by_cases e : q = ord k
          · subst e
            rw [← hX, up2_o (by omega), up2_s, hp0, if_pos (by omega), hpt _ o4]
          · have := hord q e
            rw [E 67 q (by omega) (by omega), M.kpt hq]
            by_cases e2 : rk q < k ∧ rk q < S
            · rw [if_pos e2, if_pos (by omega)]
            · rw [if_neg e2, if_neg (by omega)]
      · have := cntN_up (f := hs (stK a k) 0) (g := hs X 0) (q := ord k) (decide_eq_false (fun z => z hd0)) (by
          show decide (¬ X 19 (ord k) = -1) = true
          rw [← hX, up2_s]
          exact decide_eq_true (nI_ne_m1 (by omega))) (fun i hi => by
          show decide (¬ X 19 i = -1) = decide (¬ stK a k 19 i = -1)
          rw [E 19 i (by omega) (by omega)]) 10
        rw [if_pos (by omega)] at this
        show cntN (hs X 0) 10 = _
        rw [this]
        have T' : cntN (hs (stK a k) 0) 10 = min k S := T
        rw [T']
        omega
theorem settle_end (hN : N ≤ 10) (hS : S < 10) (hM : MD S N rg mx pt pd 0 rf 0 a) (hW : WC a) (hR : RB N bd ord rk a) (hr : ∀ s q, s < 3 → q < N → rg s q = 1) (hpt : ∀ q, q < N → pt q = 100) (hpd : ∀ q, q < 10 → pd q = -1) (hT : nTaken a 0 = 0) (hb : ∀ q, bd q ≤ 100) : WC (a3_settle a) ∧ MD S N rg mx (fun q => if rk q < min N S then pt q - nI (bd q) else pt q) (fun q => if rk q < min N S then nI (bd q) else -1) (nI (N - S)) rf 0 (a3_settle a) ∧ (∀ j, j < N - S → a3_settle a 20 j = nI (ord (S + j))) ∧ nTaken (a3_settle a) 0 = min N S ∧ stC a (bW a) = min N S := by
  obtain ⟨W, M, Q, T, K⟩ := settle_all hN hS hM hW hR hr hpt hpd hT hb N (Nat.le_refl _)
  have hw := hR.w (by omega)
  have E : ∀ c j, c ≠ 13 → (c ≠ 0 ∨ j ≠ 11) → a3_settle a c j = stK a N c j := fun c j h1 h2 => by
    unfold a3_settle
    rw [hw]
    exact (up2_o (by omega)).trans (up2_o (by omega))
  refine ⟨hW.settle, ?_, fun j hj => (E 20 j (by omega) (by omega)).trans (Q j hj), ?_, by rw [hw]; exact K⟩
  · refine (M.ksame (fun c j h => E c j (by omega) (by omega))).kto (fun _ _ _ _ => rfl) (fun _ _ => rfl) (fun q _ => ?_) (fun q _ => ?_)
    · by_cases e : rk q < N ∧ rk q < S
      · rw [if_pos e, if_pos (by omega)]
      · rw [if_neg e, if_neg (by omega)]
    · by_cases e : rk q < N ∧ rk q < S
      · rw [if_pos e, if_pos (by omega)]
      · rw [if_neg e, if_neg (by omega)]
  · rw [← T]
    exact cntN_congr (fun q hq => by
      show decide (¬ a3_settle a 19 q = -1) = decide (¬ stK a N 19 q = -1)
      rw [E 19 q (by omega) (by omega)])
end STL
