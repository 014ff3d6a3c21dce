/-! who is barred, who sits -/
def hG (rk : Nat → Nat) (G : Nat) : Nat → Bool := fun q => decide (rk q < G)
def PT1 (N : Nat) (bd : Nat → Nat) (hh : Nat → Bool) (q : Nat) : Int32 := if q < N then (if hh q = true then 100 - nI (bd q) else 100) else 0
def rgE (N : Nat) (br : Nat → Bool) (p : Nat) : Nat → Nat → Int32 := fun s q => if s = 1 ∧ q < p ∧ br q = true then 0 else if q < N then 1 else 0
def PE (S N : Nat) (bd rk ord : Nat → Nat) (br : Nat → Bool) (p : Nat) (c : Mem) : Prop := WC c ∧ MD S N (rgE N br p) (mxp N) (PT1 N bd (hG rk (min N S))) (PD1 bd (hG rk (min N S))) (nI (N - S)) 0 0 c ∧ ∀ j, j < N - S → c 20 j = nI (ord (S + j))
theorem cntN_0 {f : Nat → Bool} : ∀ n, (∀ k, k < n → f k = false) → cntN f n = 0 := by
  intro n
  induction n with
  | zero => intro _; rfl
  | succ n ih =>
    intro h
    rw [cntN_f (h n (by omega)), ih (fun k hk => h k (by omega))]
theorem cntN_tail {f : Nat → Bool} {N : Nat} (h : ∀ k, N ≤ k → f k = false) : ∀ m, cntN f (N + m) = cntN f N := by
  intro m
  induction m with
  | zero => rfl
  | succ m ih => rw [show N + (m + 1) = N + m + 1 by omega, cntN_f (h _ (by omega)), ih]
section PES
variable {S N p : Nat} {bd rk ord : Nat → Nat} {br : Nat → Bool} {a c : Mem}
theorem PE_0 (hN : N ≤ 10) (hS : S < 10) (h : PB S N 0 N bd a) (hR : RB N bd ord rk a) (hb : ∀ q, bd q ≤ 100) : PE S N bd rk ord br 0 (a3_settle a) ∧ nTaken (a3_settle a) 0 = min N S ∧ stC a (bW a) = min N S ∧ cntN (hG rk (min N S)) 10 = min N S := by
  obtain ⟨W, M, -⟩ := h
  have hT : nTaken a 0 = 0 := cntN_0 10 (fun q hq => by
    rw [M.khs hq]
    rfl)
  obtain ⟨W2, M2, Q, T, K⟩ := settle_end hN hS M W hR (fun s q hs hq => if_pos (Or.inl hq)) (fun q hq => if_pos hq) (fun q hq => if_neg Bool.false_ne_true) hT hb
  have M3 : MD S N (rgE N br 0) (mxp N) (PT1 N bd (hG rk (min N S))) (PD1 bd (hG rk (min N S))) (nI (N - S)) 0 0 (a3_settle a) := by
    refine M2.kto (fun s q hs hq => ?_) (fun _ _ => rfl) (fun q hq => ?_) (fun q hq => ?_)
    · unfold rgp rgE
      rw [if_neg (show ¬ (s = 1 ∧ q < 0 ∧ br q = true) by omega)]
      by_cases g : q < N
      · rw [if_pos g, if_pos (Or.inl g)]
      · rw [if_neg g, if_neg (by omega)]
    · unfold PT1 ptp hG
      by_cases g : q < N
      · rw [if_pos g, if_pos g]
        by_cases e : rk q < min N S
        · rw [if_pos e, if_pos (decide_eq_true e)]
        · rw [if_neg e, if_neg (by rw [decide_eq_false e]; decide)]
      · have := hR.2.2.2.1 q (by omega)
        rw [if_neg g, if_neg g, if_neg (by omega)]
    · unfold PD1 hG
      by_cases e : rk q < min N S
      · rw [if_pos e, if_pos (decide_eq_true e)]
      · rw [if_neg e, if_neg (by rw [decide_eq_false e]; decide)]
  refine ⟨⟨W2, M3, Q⟩, T, K, ?_⟩
  have hT2 : nTaken (a3_settle a) 0 = cntN (hG rk (min N S)) 10 := cntN_congr (fun q hq => ans_hs M3 hb hq)
  exact hT2.symm.trans T
theorem PE.wr (h : PE S N bd rk ord br p c) (hp : p < N) (hb : br p = true) : PE S N bd rk ord br (p + 1) (up2 c 6 (p * 6) 0) := by
  obtain ⟨W, M, Q⟩ := h
  refine ⟨W.wr (t := 1) (f := 0) (by decide) (by decide), (M.kwr (s := 1) (p := p) (v := 0) (by decide)).kto (fun s q hs hq => ?_) (fun _ _ => rfl) (fun _ _ => rfl) (fun _ _ => rfl), fun j hj => (up2_o (by omega)).trans (Q j hj)⟩
  unfold rgE
  by_cases e : s = 1 ∧ q = p
  · rw [if_pos e, if_pos ⟨e.1, by omega, by rw [e.2]; exact hb⟩]
  · rw [if_neg e]
    by_cases g : s = 1 ∧ q < p ∧ br q = true
    · rw [if_pos g, if_pos ⟨g.1, by omega, g.2.2⟩]
    · rw [if_neg g, if_neg (show ¬ (s = 1 ∧ q < p + 1 ∧ br q = true) from fun z => g ⟨z.1, by omega, z.2.2⟩)]
theorem PE.no (h : PE S N bd rk ord br p c) (hb : br p = false) : PE S N bd rk ord br (p + 1) c := by
  obtain ⟨W, M, Q⟩ := h
  refine ⟨W, M.kto (fun s q hs hq => ?_) (fun _ _ => rfl) (fun _ _ => rfl) (fun _ _ => rfl), Q⟩
  unfold rgE
  by_cases g : s = 1 ∧ q < p ∧ br q = true
  · rw [if_pos g, if_pos ⟨g.1, by omega, g.2.2⟩]
  · have g2 : ¬ (s = 1 ∧ q < p + 1 ∧ br q = true) := fun z => by
      by_cases e : q = p
      · rw [e, hb] at z
        exact absurd z.2.2 Bool.false_ne_true
      · exact g ⟨z.1, by omega, z.2.2⟩
    rw [if_neg g, if_neg g2]
theorem rgE_w {q : Nat} (hq : q < N) : rgE N br p 1 q = (if q < p ∧ br q = true then 0 else 1) := by
  unfold rgE
  by_cases g : q < p ∧ br q = true
  · rw [if_pos g, if_pos ⟨rfl, g⟩]
  · rw [if_neg g, if_neg (fun z => g z.2), if_pos hq]
/-- those who sat, those who were kept out, and what these had back -/
def ocF (rk : Nat → Nat) (G : Nat) (br : Nat → Bool) (p : Nat) : Nat := cntN (fun q => hG rk G q && br q) p
def rcF (bd rk : Nat → Nat) (G : Nat) (br : Nat → Bool) (p : Nat) : Nat := sumK (fun q => if (hG rk G q && br q) = true then bd q else 0) p
def hE (rk : Nat → Nat) (G : Nat) (br : Nat → Bool) (p : Nat) : Nat → Int32 := fun q => bI (if q < p then hG rk G q && !br q else hG rk G q)
theorem hE_0 {G : Nat} : hK rk G = hE rk G br 0 := funext fun q => by
  unfold hK hE hG
  rw [if_neg (Nat.not_lt_zero q)]
theorem hE_at {G : Nat} : hE rk G br p p = bI (hG rk G p) := by
  unfold hE
  rw [if_neg (Nat.lt_irrefl p)]
theorem hE_end {G q : Nat} (hq : q < p) : hE rk G br p q = bI (hG rk G q && !br q) := by
  unfold hE
  rw [if_pos hq]
theorem hE_s {G : Nat} {v : Int32} (hv : v = bI (hG rk G p && !br p)) : upd (hE rk G br p) p v = hE rk G br (p + 1) := by
  subst hv
  funext q
  unfold upd hE
  by_cases e : q = p
  · rw [if_pos e, e, if_pos (Nat.lt_succ_self p)]
  · rw [if_neg e]
    by_cases g : q < p
    · rw [if_pos g, if_pos (show q < p + 1 by omega)]
    · rw [if_neg g, if_neg (show ¬ q < p + 1 by omega)]
theorem ocF_s {G : Nat} : ocF rk G br (p + 1) = ocF rk G br p + (if (hG rk G p && br p) = true then 1 else 0) := rfl
theorem rcF_s {G : Nat} : rcF bd rk G br (p + 1) = rcF bd rk G br p + (if (hG rk G p && br p) = true then bd p else 0) := rfl
/-- behind the sitting -/
theorem PE_sit (hN : N ≤ 10) (hS : S < 10) (h : PE S N bd rk ord br N c) (hR : ∀ q, N ≤ q → N ≤ rk q) (hO : ∀ k, k < N → rk (ord k) = k ∧ ord k < N) (hb : ∀ q, bd q ≤ 100) (hC : cntN (hG rk (min N S)) 10 = min N S) : (gn (g3_sit c 2) = 0 ∧ nI (siC c 2 (nO c)) = nI (min N S - ocF rk (min N S) br N) ∧ up2 (siK c 2 (nO c)) 69 (tn 2) 1 = up2 (lsK c 0 N) 69 2 1) ∧ WC (up2 (lsK c 0 N) 69 2 1) ∧ MD S N (rgE N br N) (mxp N) (PT1 N bd (fun q => hG rk (min N S) q && !br q)) (PD1 bd (fun q => hG rk (min N S) q && !br q)) (nI (N - S)) (nI (rcF bd rk (min N S) br N)) 1 (up2 (lsK c 0 N) 69 2 1) ∧ nTaken (up2 (lsK c 0 N) 69 2 1) 0 = min N S - ocF rk (min N S) br N ∧ ocF rk (min N S) br N ≤ min N S ∧ ∀ j, j < N - S → up2 (lsK c 0 N) 69 2 1 20 j = nI (ord (S + j)) := by
  obtain ⟨W, M, Q⟩ := h
  have hr : ∀ q, q < N → rgB c q 0 = !br q := fun q hq => by
    have e0 : rgE N br N 0 q = 1 := by
      unfold rgE
      rw [if_neg (by omega), if_pos hq]
    have e2 : rgE N br N 2 q = 1 := by
      unfold rgE
      rw [if_neg (by omega), if_pos hq]
    have e1 := rgE_w (br := br) (p := N) hq
    cases hbq : br q with
    | true =>
      rw [if_pos ⟨hq, hbq⟩] at e1
      exact M.krF (by omega) e0 e1
    | false =>
      rw [if_neg (fun z => absurd (z.2.symm.trans hbq) (by decide))] at e1
      exact M.krT (by omega) e0 e1 e2
  obtain ⟨s1, s2, s3⟩ := ans_sit hN M hb hr
  have hz : ∀ k, N ≤ k → hG rk (min N S) k = false := fun k hk => decide_eq_false (by have := hR k hk; omega)
  have hC2 : cntN (hG rk (min N S)) N = min N S := by
    have := cntN_tail (f := hG rk (min N S)) hz (10 - N)
    rw [show N + (10 - N) = 10 by omega] at this
    rw [← this]
    exact hC
  have hsp := cnt_split (f := hG rk (min N S)) (g := br) N
  have hO1 : cntN (fun q => hG rk (min N S) q && !br q) N = min N S - ocF rk (min N S) br N := by
    unfold ocF
    omega
  have hO2 : ocF rk (min N S) br N ≤ min N S := by
    unfold ocF
    omega
  have L := ls_all hN M hb hr N (Nat.le_refl _)
  have h12 : (0 : Int32) + nI (sumK (fun q => if (hG rk (min N S) q && br q) = true then bd q else 0) N) = nI (rcF bd rk (min N S) br N) := by
    unfold rcF
    simp
  rw [h12] at L
  have M2 : MD S N (rgE N br N) (mxp N) (PT1 N bd (fun q => hG rk (min N S) q && !br q)) (PD1 bd (fun q => hG rk (min N S) q && !br q)) (nI (N - S)) (nI (rcF bd rk (min N S) br N)) 1 (up2 (lsK c 0 N) 69 2 1) := by
    refine L.ksit.kto (fun _ _ _ _ => rfl) (fun _ _ => rfl) (fun q hq => ?_) (fun q hq => ?_)
    · unfold PT1
      by_cases g : q < N
      · rw [if_pos g]
        cases e1 : hG rk (min N S) q <;> cases e2 : br q <;> simp [g, e1, e2]
      · have := hz q (by omega)
        simp [g]
    · unfold PD1
      by_cases g : q < N
      · cases e1 : hG rk (min N S) q <;> cases e2 : br q <;> simp [g, e1, e2]
      · have := hz q (by omega)
        simp [this]
  have hT : nTaken (up2 (lsK c 0 N) 69 2 1) 0 = min N S - ocF rk (min N S) br N := by
    have e1 : nTaken (up2 (lsK c 0 N) 69 2 1) 0 = cntN (fun q => hG rk (min N S) q && !br q) 10 := cntN_congr (fun q hq => ans_hs M2 hb hq)
    have e2 := cntN_tail (f := fun q => hG rk (min N S) q && !br q) (N := N) (fun k hk => by
      show (hG rk (min N S) k && !br k) = false
      rw [hz k hk]
      rfl) (10 - N)
    rw [show N + (10 - N) = 10 by omega] at e2
    rw [e1, e2, hO1]
  refine ⟨⟨s1, by rw [s2, hO1], s3⟩, (W.ls (i := 0) (by decide) N).s69, M2, hT, hO2, fun j hj => ?_⟩
  rw [up2_o (by omega), lsK_o N (by omega) (by omega) (by omega)]
  exact Q j hj
/-- all that isTrue asks for -/
theorem PE_true (hN : N ≤ 10) (hS : S < 10) {qf : Int32} {f : Mem} (M : MD S N (rgE N br N) (mxp N) (PT1 N bd (fun q => hG rk (min N S) q && !br q)) (PD1 bd (fun q => hG rk (min N S) q && !br q)) (nI (N - S)) qf 1 f) (hT : nTaken f 0 = min N S - ocF rk (min N S) br N) (Q : ∀ j, j < N - S → f 20 j = nI (ord (S + j))) (hO : ∀ k, k < N → rk (ord k) = k ∧ ord k < N) (hb : ∀ q, bd q ≤ 100) : (∀ p, p < nP f → noClash f p) ∧ (∀ p, p < nP f → pwB f p = true) ∧ (∀ i, i < nO f → nTaken f i ≤ stN f i) ∧ (∀ i, i < nO f → ∀ k, k < qW f i → hs f i (wtN f i k) = false) ∧ ∀ i, i < nO f → anyN (rsB f i) (nO f) = false := by
  have eP := M.knP (by omega)
  have eO := M.knO
  rw [eP, eO]
  refine ⟨fun p hp i j hij hj => ?_, fun p hp => ?_, fun i hi => ?_, fun i hi k hk => ?_, fun i hi => ?_⟩
  · rw [eO] at hj
    omega
  · unfold pwB
    rw [eO]
    have e1 : sumN (psB f p) 1 = if (hG rk (min N S) p && !br p) = true then nI (bd p) else 0 := by
      show (0 : Int32) + psB f p 0 = _
      unfold psB
      rw [ans_hs M hb (by omega)]
      show (0 : Int32) + (if (hG rk (min N S) p && !br p) = true then f 19 p else 0) = _
      rw [M.kpd (by omega)]
      unfold PD1
      by_cases g : (hG rk (min N S) p && !br p) = true
      · simp only [g, if_true]
        simp
      · simp only [g, if_false]
        rfl
    rw [e1, M.kpt (by omega), M.kfo (by omega)]
    refine decide_eq_true ?_
    unfold PT1
    rw [if_pos hp]
    by_cases g : (hG rk (min N S) p && !br p) = true
    · simp only [g, if_true]
      simp
    · simp only [g, if_false]
      rfl
  · rw [show i = 0 by omega, M.kst (by omega), hT]
    omega
  · rw [show i = 0 by omega] at hk ⊢
    have hq : qW f 0 = N - S := by
      show tn (f 18 8) = N - S
      rw [M.kq]
      exact tn_nI (by omega)
    rw [hq] at hk
    have hw : wtN f 0 k = ord (S + k) := by
      show tn (f 20 k) = _
      rw [Q k hk]
      exact tn_nI (by have := (hO (S + k) (by omega)).2; omega)
    obtain ⟨o1, o2⟩ := hO (S + k) (by omega)
    rw [hw, ans_hs M hb (by omega)]
    show (decide (rk (ord (S + k)) < min N S) && _) = false
    rw [o1, decide_eq_false (by omega)]
    rfl
  · rw [show i = 0 by omega, anyN_1]
    simp [rsB]
end PES
