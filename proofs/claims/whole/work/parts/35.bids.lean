/-! bids -/
theorem RR.cg {q q' b : Mem} (h : RR q b) (E : ∀ c k, (c < 13 ∨ 17 ≤ c) → q' c k = q c k) : RR q' b := by
  obtain ⟨r1, r2, r3, r4, r5, r6, r7, r8, r9, r10, r11, r12, r13, r14, r15, r16, r17, r18, r19⟩ := h
  refine ⟨?_, ?_, ?_, ?_, ?_, ?_, ?_, ?_, ?_, ?_, ?_, ?_, ?_, ?_, ?_, ?_, ?_, ?_, ?_⟩
  · first
    | (rw [E _ _ (by omega)]; exact r1)
    | (intro i hi; rw [E _ _ (by omega)]; exact r1 i hi)
    | (intro i k hi hk; rw [E _ _ (by omega)]; exact r1 i k hi hk)
    | (intro s p e f hs hp he hf; rw [E _ _ (by omega)]; exact r1 s p e f hs hp he hf)
  · first
    | (rw [E _ _ (by omega)]; exact r2)
    | (intro i hi; rw [E _ _ (by omega)]; exact r2 i hi)
    | (intro i k hi hk; rw [E _ _ (by omega)]; exact r2 i k hi hk)
    | (intro s p e f hs hp he hf; rw [E _ _ (by omega)]; exact r2 s p e f hs hp he hf)
  · first
    | (rw [E _ _ (by omega)]; exact r3)
    | (intro i hi; rw [E _ _ (by omega)]; exact r3 i hi)
    | (intro i k hi hk; rw [E _ _ (by omega)]; exact r3 i k hi hk)
    | (intro s p e f hs hp he hf; rw [E _ _ (by omega)]; exact r3 s p e f hs hp he hf)
  · first
    | (rw [E _ _ (by omega)]; exact r4)
    | (intro i hi; rw [E _ _ (by omega)]; exact r4 i hi)
    | (intro i k hi hk; rw [E _ _ (by omega)]; exact r4 i k hi hk)
    | (intro s p e f hs hp he hf; rw [E _ _ (by omega)]; exact r4 s p e f hs hp he hf)
  · first
    | (rw [E _ _ (by omega)]; exact r5)
    | (intro i hi; rw [E _ _ (by omega)]; exact r5 i hi)
    | (intro i k hi hk; rw [E _ _ (by omega)]; exact r5 i k hi hk)
    | (intro s p e f hs hp he hf; rw [E _ _ (by omega)]; exact r5 s p e f hs hp he hf)
  · first
    | (rw [E _ _ (by omega)]; exact r6)
    | (intro i hi; rw [E _ _ (by omega)]; exact r6 i hi)
    | (intro i k hi hk; rw [E _ _ (by omega)]; exact r6 i k hi hk)
    | (intro s p e f hs hp he hf; rw [E _ _ (by omega)]; exact r6 s p e f hs hp he hf)
  · first
    | (rw [E _ _ (by omega)]; exact r7)
    | (intro i hi; rw [E _ _ (by omega)]; exact r7 i hi)
    | (intro i k hi hk; rw [E _ _ (by omega)]; exact r7 i k hi hk)
    | (intro s p e f hs hp he hf; rw [E _ _ (by omega)]; exact r7 s p e f hs hp he hf)
  · first
    | (rw [E _ _ (by omega)]; exact r8)
    | (intro i hi; rw [E _ _ (by omega)]; exact r8 i hi)
    | (intro i k hi hk; rw [E _ _ (by omega)]; exact r8 i k hi hk)
    | (intro s p e f hs hp he hf; rw [E _ _ (by omega)]; exact r8 s p e f hs hp he hf)
  · first
    | (rw [E _ _ (by omega)]; exact r9)
    | (intro i hi; rw [E _ _ (by omega)]; exact r9 i hi)
    | (intro i k hi hk; rw [E _ _ (by omega)]; exact r9 i k hi hk)
    | (intro s p e f hs hp he hf; rw [E _ _ (by omega)]; exact r9 s p e f hs hp he hf)
  · first
    | (rw [E _ _ (by omega)]; exact r10)
    | (intro i hi; rw [E _ _ (by omega)]; exact r10 i hi)
    | (intro i k hi hk; rw [E _ _ (by omega)]; exact r10 i k hi hk)
    | (intro s p e f hs hp he hf; rw [E _ _ (by omega)]; exact r10 s p e f hs hp he hf)
  · first
    | (rw [E _ _ (by omega)]; exact r11)
    | (intro i hi; rw [E _ _ (by omega)]; exact r11 i hi)
    | (intro i k hi hk; rw [E _ _ (by omega)]; exact r11 i k hi hk)
    | (intro s p e f hs hp he hf; rw [E _ _ (by omega)]; exact r11 s p e f hs hp he hf)
  · first
    | (rw [E _ _ (by omega)]; exact r12)
    | (intro i hi; rw [E _ _ (by omega)]; exact r12 i hi)
    | (intro i k hi hk; rw [E _ _ (by omega)]; exact r12 i k hi hk)
    | (intro s p e f hs hp he hf; rw [E _ _ (by omega)]; exact r12 s p e f hs hp he hf)
  · first
    | (rw [E _ _ (by omega)]; exact r13)
    | (intro i hi; rw [E _ _ (by omega)]; exact r13 i hi)
    | (intro i k hi hk; rw [E _ _ (by omega)]; exact r13 i k hi hk)
    | (intro s p e f hs hp he hf; rw [E _ _ (by omega)]; exact r13 s p e f hs hp he hf)
  · first
    | (rw [E _ _ (by omega)]; exact r14)
    | (intro i hi; rw [E _ _ (by omega)]; exact r14 i hi)
    | (intro i k hi hk; rw [E _ _ (by omega)]; exact r14 i k hi hk)
    | (intro s p e f hs hp he hf; rw [E _ _ (by omega)]; exact r14 s p e f hs hp he hf)
  · first
    | (rw [E _ _ (by omega)]; exact r15)
    | (intro i hi; rw [E _ _ (by omega)]; exact r15 i hi)
    | (intro i k hi hk; rw [E _ _ (by omega)]; exact r15 i k hi hk)
    | (intro s p e f hs hp he hf; rw [E _ _ (by omega)]; exact r15 s p e f hs hp he hf)
  · first
    | (rw [E _ _ (by omega)]; exact r16)
    | (intro i hi; rw [E _ _ (by omega)]; exact r16 i hi)
    | (intro i k hi hk; rw [E _ _ (by omega)]; exact r16 i k hi hk)
    | (intro s p e f hs hp he hf; rw [E _ _ (by omega)]; exact r16 s p e f hs hp he hf)
  · first
    | (rw [E _ _ (by omega)]; exact r17)
    | (intro i hi; rw [E _ _ (by omega)]; exact r17 i hi)
    | (intro i k hi hk; rw [E _ _ (by omega)]; exact r17 i k hi hk)
    | (intro s p e f hs hp he hf; rw [E _ _ (by omega)]; exact r17 s p e f hs hp he hf)
  · first
    | (rw [E _ _ (by omega)]; exact r18)
    | (intro i hi; rw [E _ _ (by omega)]; exact r18 i hi)
    | (intro i k hi hk; rw [E _ _ (by omega)]; exact r18 i k hi hk)
    | (intro s p e f hs hp he hf; rw [E _ _ (by omega)]; exact r18 s p e f hs hp he hf)
  · first
    | (rw [E _ _ (by omega)]; exact r19)
    | (intro i hi; rw [E _ _ (by omega)]; exact r19 i hi)
    | (intro i k hi hk; rw [E _ _ (by omega)]; exact r19 i k hi hk)
    | (intro s p e f hs hp he hf; rw [E _ _ (by omega)]; exact r19 s p e f hs hp he hf)
theorem WC.bl2 {q q' : Mem} (hW : WC q) (E : ∀ c k, (c < 13 ∨ 17 ≤ c) → q' c k = q c k) (hb : isN (q' 13 3) 120) (hd : ∀ k, k < bW q' → isN (q' 14 k) 9 ∧ isN (q' 15 k) 11) : WC q' := by
  obtain ⟨h1, h2, h3, h4, h5, h6, h7, h8, h9⟩ := hW
  refine ⟨?_, ?_, ?_, ?_, ?_, ?_, hb, hd, ?_⟩
  · rw [E 0 7 (by omega)]; exact h1
  · rw [E 0 8 (by omega)]; exact h2
  · rw [E 0 9 (by omega)]; exact h3
  · rw [E 0 10 (by omega)]; exact h4
  · intro i hi; exact WO_congr (fun c k c1 c2 c3 c4 => E c k (by omega)) (h5 i hi)
  · intro f hf; rw [E 12 f (by omega)]; exact h6 f hf
  · intro s hs; rw [E 69 s (by omega)]; exact h9 s hs
/-- a bid taken out: what is left, and where it stood -/
def OutB (q q' : Mem) (m : Nat) (φ : Nat → Nat) : Prop :=
  (∀ c k, (c < 13 ∨ 17 ≤ c) → q' c k = q c k) ∧ (q' 13 3 = nI (bW q') ∧ bW q' ≤ bW q) ∧
  (∀ k, k < bW q' → φ k < bW q ∧ q' 14 k = q 14 (φ k) ∧ q' 15 k = q 15 (φ k) ∧ q' 16 k = q 16 (φ k) ∧ ixN q (φ k) ≠ m) ∧
  (∀ j k, j < k → φ j < φ k) ∧ (∀ j, j < bW q → ixN q j ≠ m → ∃ k, k < bW q' ∧ φ k = j)
theorem outA_B {q : Mem} (hW : WC q) (hI : IQ q) {p i : Nat} (hp : p < 10) (hi : i < 12) : ∃ φ, OutB q (outA q (nI p) (nI i) (bW q)) (p * 12 + i) φ := by
  have hbl := hW.bl
  by_cases hf : firN (bAt q (nI p) (nI i)) (bW q) < bW q
  · have hy := (bAt_ix hW hp hi hf).mp (firN_yes hf)
    have ex : outA q (nI p) (nI i) (bW q) = del3 q (firN (bAt q (nI p) (nI i)) (bW q)) (bW q) (bW q - 1) := by
      unfold outA
      rw [if_pos hf]
    rw [ex]
    generalize firN (bAt q (nI p) (nI i)) (bW q) = pl at hf hy
    have e13 : del3 q pl (bW q) (bW q - 1) 13 3 = nI (bW q - 1) := by
      unfold del3
      rw [if_pos ⟨rfl, rfl⟩]
    have eB : bW (del3 q pl (bW q) (bW q - 1)) = bW q - 1 := (congrArg tn e13).trans (tn_nI (by omega))
    have e2 : ∀ c k, (c = 14 ∨ c = 15 ∨ c = 16) → k < bW q - 1 → del3 q pl (bW q) (bW q - 1) c k = q c (if k < pl then k else k + 1) := by
      intro c k hc hk
      simp only [del3]
      rw [if_neg (by omega)]
      by_cases g : k < pl
      · rw [if_neg (by omega), if_pos g]
      · rw [if_pos (by omega), if_neg g]
    refine ⟨fun k => if k < pl then k else k + 1, fun c k h => ?_, ⟨by rw [eB]; exact e13, by rw [eB]; omega⟩, fun k hk => ?_, fun j k h => ?_, fun j hj hn => ?_⟩
    · simp only [del3]
      rw [if_neg (by omega), if_neg (by omega)]
    · rw [eB] at hk
      refine ⟨by dsimp only; split <;> omega, e2 14 k (by omega) hk, e2 15 k (by omega) hk, e2 16 k (by omega) hk, fun z => ?_⟩
      have h3 : (if k < pl then k else k + 1) < bW q := by split <;> omega
      have h4 := ix_inj hW hI h3 hf (z.trans hy.symm)
      split at h4 <;> omega
    · dsimp only
      split <;> split <;> omega
    · rw [eB]
      have : j ≠ pl := fun z => hn (by rw [z]; exact hy)
      by_cases g : j < pl
      · exact ⟨j, by omega, if_pos g⟩
      · refine ⟨j - 1, by omega, ?_⟩
        dsimp only
        rw [if_neg (by omega)]
        omega
  · have ex : outA q (nI p) (nI i) (bW q) = q := by
      unfold outA
      rw [if_neg hf]
    rw [ex]
    refine ⟨fun k => k, fun c k h => rfl, ⟨hW.be, Nat.le_refl _⟩, fun k hk => ⟨hk, rfl, rfl, rfl, fun z => ?_⟩, fun j k h => h, fun j hj _ => ⟨j, hj, rfl⟩⟩
    exact hf (firN_any.mpr (anyN_t hk ((bAt_ix hW hp hi hk).mpr z)))
theorem IQ.bl2 {q q' : Mem} (hW : WC q) (hI : IQ q) (E : ∀ c k, (c < 13 ∨ 17 ≤ c) → q' c k = q c k) (hbp : ∀ k, k < bW q' → bpN q' k < nP q ∧ boN q' k < nO q ∧ ptO (q' 16 k)) (hbd : ∀ j k, j < k → k < bW q' → bpN q' j ≠ bpN q' k ∨ boN q' j ≠ boN q' k) : IQ q' := by
  have hl := hW.ol
  have hpl := hW.pl
  have eP : nP q' = nP q := congrArg tn (E 0 9 (by omega))
  have eO : nO q' = nO q := congrArg tn (E 0 10 (by omega))
  have eR : nR q' = nR q := congrArg tn (E 0 7 (by omega))
  have eE : nE q' = nE q := congrArg tn (E 0 8 (by omega))

  have eW : ∀ j, j < 12 → qW q' j = qW q j := fun j hj => congrArg tn (E _ _ (by omega))
  have Hs : ∀ j r, j < 12 → hs q' j r = hs q j r := fun j r hj => by unfold hs; rw [E _ _ (by omega)]
  obtain ⟨nc, pw, fu, qd, qs, ql, sh, pb, ob, rm, rs, rc, bp, bd, pv⟩ := hI
  refine ⟨?_, ?_, ?_, ?_, ?_, ?_, ?_, ?_, ?_, ?_, ?_, ?_, ?_, ?_, ?_⟩
  · exact fun r hr => nc_mono (nc r hr) hl eO (fun i f hi hf => E _ _ (by omega)) (fun i hi g => by rw [Hs i r hi] at g; exact g)
  · intro r hr
    rw [eP] at hr
    exact pw_same eO (E _ _ (by omega)) (E _ _ (by omega)) (fun j hj => E _ _ (by omega)) (pw r hr)
  · intro j hj
    rw [eO] at hj
    show nTaken q' j ≤ tn (q' (18 + 4 * j) 3)
    rw [E _ _ (by omega), show nTaken q' j = nTaken q j from cntN_congr (fun r _ => Hs j r (by omega))]
    exact fu j hj
  · intro j hj k1 k2 h1 h2
    rw [eW j hj] at h2
    rw [E _ _ (by omega), E _ _ (by omega)]
    exact qd j hj k1 k2 h1 h2
  · intro j hj k hk
    rw [eW j hj] at hk
    rw [Hs _ _ hj]
    show hs q j (tn (q' (18 + 4 * j + 2) k)) = false
    rw [E _ _ (by omega)]
    exact qs j hj k hk
  · intro j hj k hk
    rw [eW j hj] at hk
    show tn (q' (18 + 4 * j + 2) k) < nP q' ∧ _
    rw [E _ _ (by omega), E _ _ (by omega), eP]
    exact ql j hj k hk
  · intro j1 j2 h1 h2 hn h
    rw [eO] at h1 h2
    rw [E _ _ (by omega), E _ _ (by omega)] at h
    rw [E (18 + 4 * j1) 1 (by omega), E (18 + 4 * j2) 1 (by omega)]
    exact sh j1 j2 h1 h2 hn h
  · intro r h1 h2
    rw [eP] at h1
    exact ⟨fun j hj => by rw [Hs _ _ hj]; exact (pb r h1 h2).1 j hj, by rw [E _ _ (by omega)]; exact (pb r h1 h2).2⟩
  · intro j h1 h2
    rw [eO] at h1
    exact ⟨fun r hr => by rw [Hs _ _ h2]; exact (ob j h1 h2).1 r hr, by rw [eW j h2]; exact (ob j h1 h2).2⟩
  · intro j hj
    rw [eO] at hj
    obtain ⟨a1, a2, a3⟩ := rm j hj
    rw [E _ _ (by omega), E (18 + 4 * j) 3 (by omega), E 66 _ (by omega), eR]
    exact ⟨a1, a2, a3⟩
  · intro r hr
    rw [eR] at hr
    rw [E _ _ (by omega)]
    exact rs r hr
  · intro p e hp he hx f s hf hs
    rw [eP, eE] at hx
    rw [E _ _ (by omega), E (3 + f) _ (by omega)]
    exact rc p e hp he hx f s hf hs
  · intro k hk
    rw [eP, eO]
    exact hbp k hk
  · exact hbd
  · intro j r hj hr h
    rw [Hs _ _ hj] at h
    rw [E _ _ (by omega)]
    exact pv j r hj hr h
theorem JJ_out {q b : Mem} {T p i : Nat} (h : JJ q b T) (hp : p < 10) (hi : i < 12) : JJ (outA q (nI p) (nI i) (bW q)) (up2 b 79 (p * 12 + i) 0) T ∧ ∀ k, k < bW (outA q (nI p) (nI i) (bW q)) → ixN (outA q (nI p) (nI i) (bW q)) k ≠ p * 12 + i := by
  obtain ⟨hW, hI, hR, hB, hH⟩ := h
  have hbl := hW.bl
  obtain ⟨φ, E, ⟨e13, eB⟩, hφ, hm, hs⟩ := outA_B hW hI hp hi
  generalize outA q (nI p) (nI i) (bW q) = q' at E e13 eB hφ hs ⊢
  have hix : ∀ k, k < bW q' → ixN q' k = ixN q (φ k) := fun k hk => by
    show tn (q' 14 k) * 12 + tn (q' 15 k) = _
    rw [(hφ k hk).2.1, (hφ k hk).2.2.1]
  refine ⟨⟨hW.bl2 E (isN.of e13 (by omega) (by decide)) (fun k hk => ?_), hI.bl2 hW E (fun k hk => ?_) (fun j k hj hk => ?_), (hR.cg E).bd, ⟨hB.1, fun j _ hj => ?_, fun m hm2 hn => ?_, fun j hj => ?_, fun j k hj hk => ?_⟩, hH.cg (fun r ex z _ => hsE_cg (fun c k hc => E _ _ (by omega)) hW.ol) (fun m => up2_o (by omega))⟩, fun k hk => by rw [hix k hk]; exact (hφ k hk).2.2.2.2⟩
  · rw [(hφ k hk).2.1, (hφ k hk).2.2.1]
    exact hW.bd (hφ k hk).1
  · show tn (q' 14 k) < nP q ∧ tn (q' 15 k) < nO q ∧ ptO (q' 16 k)
    rw [(hφ k hk).2.1, (hφ k hk).2.2.1, (hφ k hk).2.2.2.1]
    exact hI.bp _ (hφ k hk).1
  · show tn (q' 14 j) ≠ tn (q' 14 k) ∨ tn (q' 15 j) ≠ tn (q' 15 k)
    rw [(hφ k hk).2.1, (hφ k hk).2.2.1, (hφ j (by omega)).2.1, (hφ j (by omega)).2.2.1]
    exact hI.bd _ _ (hm _ _ hj) (hφ k hk).1
  · rw [hix j hj, (hφ j hj).2.2.2.1, up2_o (Or.inr (hφ j hj).2.2.2.2)]
    exact hB.bv (Nat.zero_le _) (hφ j hj).1
  · by_cases e : m = p * 12 + i
    · subst e; exact up2_s
    · rw [up2_o (Or.inr e)]
      refine hB.bz hm2 (fun j _ hj z => ?_)
      obtain ⟨k, hk, rfl⟩ := hs j hj (by rw [z]; exact e)
      exact hn k (Nat.zero_le _) hk ((hix k hk).trans z)
  · rw [hix j hj]
    exact ⟨hB.wv (hφ j hj).1, hB.wl (hφ j hj).1⟩
  · rw [hix j (by omega), hix k hk, (hφ j (by omega)).2.2.2.1, (hφ k hk).2.2.2.1]
    exact hB.so (hm _ _ hj) (hφ k hk).1
theorem insPl_lt {g : Nat → Int32} {V : Int32} : ∀ n k, insPl g V n ≤ k → k < n → g k < V := by
  intro n
  induction n with
  | zero => intro k _ h; omega
  | succ n ih =>
    intro k h1 h2
    simp only [insPl] at h1
    split at h1
    · rename_i h
      by_cases e : k = n
      · subst e; exact h
      · exact ih k h1 (by omega)
    · omega
theorem insPl_ge {g : Nat → Int32} {V : Int32} : ∀ n, 0 < insPl g V n → ¬ g (insPl g V n - 1) < V := by
  intro n
  induction n with
  | zero => intro h; simp [insPl] at h
  | succ n ih =>
    simp only [insPl]
    split
    · exact ih
    · rename_i h
      intro _
      exact h
theorem JJ_tell {q b : Mem} {T p i : Nat} {V : Int32} (h : JJ q b T) (hT : T + 1 < 2 ^ 31) (hp : p < nP q) (hi : i < nO q) (hV : ptO V) (hno : ∀ k, k < bW q → ixN q k ≠ p * 12 + i) : JJ (tellA q (nI p) (nI i) V (bW q)) (up2 (up2 (up2 b 79 (p * 12 + i) V) 80 (p * 12 + i) (b 70 7)) 70 7 (b 70 7 + 1)) (T + 1) := by
  obtain ⟨hW, hI, hR, hB, hH⟩ := h
  have hbl := hW.bl
  have hpl := hW.pl
  have hol := hW.ol
  have hw : bW q < 120 := by
    have h1 := cnt_inj (g := fun j => if j < bW q then ixN q j else p * 12 + i) (N := 120) (bW q + 1) (fun j hj => by
      try dsimp only
      split
      · rename_i g; exact ix_lt hW g
      · omega) (fun j k hj hk z => by
      try dsimp only at z
      by_cases g1 : j < bW q
      · rw [if_pos g1] at z
        by_cases g2 : k < bW q
        · rw [if_pos g2] at z
          exact ix_inj hW hI g1 g2 z
        · rw [if_neg g2] at z
          exact absurd z (hno j g1)
      · rw [if_neg g1] at z
        by_cases g2 : k < bW q
        · rw [if_pos g2] at z
          exact absurd z.symm (hno k g2)
        · omega)
    have h2 := cntN_le (fun m => anyN (fun j => decide ((if j < bW q then ixN q j else p * 12 + i) = m)) (bW q + 1)) 120
    omega
  have hpos := insPl_le (g := q 16) (V := V) (n := bW q)
  have hlt := insPl_lt (g := q 16) (V := V) (bW q)
  have hge := insPl_ge (g := q 16) (V := V) (bW q)
  have ex : tellA q (nI p) (nI i) V (bW q) = tellP q (nI p) (nI i) V (bW q) (insPl (q 16) V (bW q)) := by
    unfold tellA
    rw [if_neg (by omega)]
  rw [ex]
  generalize insPl (q 16) V (bW q) = pl at hpos hlt hge
  generalize hq : tellP q (nI p) (nI i) V (bW q) pl = q'
  have E : ∀ c k, (c < 13 ∨ 17 ≤ c) → q' c k = q c k := fun c k h => by
    rw [← hq]
    unfold tellP
    rw [if_neg (by omega), if_neg (by omega), if_neg (by omega), if_neg (by omega), if_neg (by omega)]
  have e13 : q' 13 3 = nI (bW q + 1) := by
    rw [← hq]
    unfold tellP
    rw [if_pos ⟨rfl, rfl⟩]
  have eB : bW q' = bW q + 1 := (congrArg tn e13).trans (tn_nI (by omega))
  have e14 : q' 14 pl = nI p ∧ q' 15 pl = nI i ∧ q' 16 pl = V := by
    rw [← hq]
    unfold tellP
    refine ⟨?_, ?_, ?_⟩ <;> simp
  have eo : ∀ c k, (c = 14 ∨ c = 15 ∨ c = 16) → k ≠ pl → k < bW q + 1 → q' c k = q c (if k < pl then k else k - 1) := by
    intro c k hc hk hk2
    rw [← hq]
    unfold tellP
    rw [if_neg (by omega), if_neg (by omega), if_neg (by omega), if_neg (by omega)]
    by_cases g : k < pl
    · rw [if_neg (by omega), if_pos g]
    · rw [if_pos (by omega), if_neg g]
  have hψ : ∀ k, k ≠ pl → k < bW q + 1 → (if k < pl then k else k - 1) < bW q := fun k h1 h2 => by split <;> omega
  have hmo : ∀ j k, j ≠ pl → k ≠ pl → j < k → (if j < pl then j else j - 1) < (if k < pl then k else k - 1) := fun j k h1 h2 h3 => by split <;> split <;> omega
  have hixp : ixN q' pl = p * 12 + i := by
    show tn (q' 14 pl) * 12 + tn (q' 15 pl) = _
    rw [e14.1, e14.2.1, tn_nI (by omega), tn_nI (by omega)]
  have hix : ∀ k, k ≠ pl → k < bW q + 1 → ixN q' k = ixN q (if k < pl then k else k - 1) := fun k h1 h2 => by
    show tn (q' 14 k) * 12 + tn (q' 15 k) = _
    rw [eo 14 k (by omega) h1 h2, eo 15 k (by omega) h1 h2]
  have htl := hB.tl
  have ht1 : b 70 7 + 1 = nI (tn (b 70 7) + 1) := by rw [htl.1, nI_1, ← htl.1]
  have ht2 : tn (nI (tn (b 70 7) + 1)) = tn (b 70 7) + 1 := tn_nI (by omega)
  refine ⟨hW.bl2 E (by rw [e13]; exact isN.of rfl (by omega) (by decide)) (fun k hk => ?_), hI.bl2 hW E (fun k hk => ?_) (fun j k hj hk => ?_), hR.cg E, ⟨⟨?_, ?_⟩, fun j _ hj => ?_, fun m hm2 hn => ?_, fun j hj => ?_, fun j k hj hk => ?_⟩, hH.cg (fun r ex z _ => hsE_cg (fun c k hc => E _ _ (by omega)) hW.ol) (fun m => ?_)⟩
  · rw [eB] at hk
    by_cases e : k = pl
    · subst e
      rw [e14.1, e14.2.1]
      exact ⟨isN.of rfl (by omega) (by decide), isN.of rfl (by omega) (by decide)⟩
    · rw [eo 14 k (by omega) e hk, eo 15 k (by omega) e hk]
      exact hW.bd (hψ k e hk)
  · rw [eB] at hk
    show tn (q' 14 k) < nP q ∧ tn (q' 15 k) < nO q ∧ ptO (q' 16 k)
    by_cases e : k = pl
    · subst e
      rw [e14.1, e14.2.1, e14.2.2, tn_nI (by omega), tn_nI (by omega)]
      exact ⟨hp, hi, hV⟩
    · rw [eo 14 k (by omega) e hk, eo 15 k (by omega) e hk, eo 16 k (by omega) e hk]
      exact hI.bp _ (hψ k e hk)
  · rw [eB] at hk
    show tn (q' 14 j) ≠ tn (q' 14 k) ∨ tn (q' 15 j) ≠ tn (q' 15 k)
    have key : ∀ m, m ≠ pl → m < bW q + 1 → tn (q' 14 m) ≠ p ∨ tn (q' 15 m) ≠ i := fun m h1 h2 => by
      have h3 := hno _ (hψ m h1 h2)
      rw [← hix m h1 h2] at h3
      have h4 : ixN q' m = tn (q' 14 m) * 12 + tn (q' 15 m) := rfl
      by_cases g : tn (q' 14 m) = p
      · refine Or.inr (fun z => h3 ?_)
        rw [h4, g, z]
      · exact Or.inl g
    by_cases e1 : j = pl
    · subst e1
      rw [e14.1, e14.2.1, tn_nI (by omega), tn_nI (by omega)]
      rcases key k (by omega) hk with g | g
      · exact Or.inl (fun z => g z.symm)
      · exact Or.inr (fun z => g z.symm)
    · by_cases e2 : k = pl
      · subst e2
        rw [e14.1, e14.2.1, tn_nI (by omega), tn_nI (by omega)]
        exact key j e1 (by omega)
      · rw [eo 14 k (by omega) e2 hk, eo 15 k (by omega) e2 hk, eo 14 j (by omega) e1 (by omega), eo 15 j (by omega) e1 (by omega)]
        exact hI.bd _ _ (hmo j k e1 e2 hj) (hψ k e2 hk)
  · rw [up2_s, ht1, ht2]
  · rw [up2_s, ht1, ht2]; omega
  · rw [eB] at hj
    rw [up2_o (by omega), up2_o (by omega)]
    by_cases e : j = pl
    · subst e
      rw [hixp, up2_s, e14.2.2]
    · have h3 := hno _ (hψ j e hj)
      rw [hix j e hj, up2_o (Or.inr h3), eo 16 j (by omega) e hj]
      exact hB.bv (Nat.zero_le _) (hψ j e hj)
  · rw [up2_o (by omega), up2_o (by omega)]
    have h1 : m ≠ p * 12 + i := fun z => hn pl (Nat.zero_le _) (by omega) (hixp.trans z.symm)
    rw [up2_o (Or.inr h1)]
    refine hB.bz hm2 (fun j _ hj z => ?_)
    by_cases g : j < pl
    · refine hn j (Nat.zero_le _) (by omega) ?_
      rw [hix j (by omega) (by omega), if_pos g]
      exact z
    · refine hn (j + 1) (Nat.zero_le _) (by omega) ?_
      rw [hix (j + 1) (by omega) (by omega), if_neg (by omega)]
      exact z
  · rw [eB] at hj
    rw [up2_o (by omega), show up2 (up2 (up2 b 79 (p * 12 + i) V) 80 (p * 12 + i) (b 70 7)) 70 7 (b 70 7 + 1) 70 7 = b 70 7 + 1 from up2_s, ht1, ht2]
    by_cases e : j = pl
    · subst e
      rw [hixp, up2_s]
      exact ⟨htl.1, by omega⟩
    · have h3 := hno _ (hψ j e hj)
      rw [hix j e hj, up2_o (Or.inr h3), up2_o (by omega)]
      exact ⟨hB.wv (hψ j e hj), by have := hB.wl (hψ j e hj); omega⟩
  · rw [eB] at hk
    have hwn : ∀ m, m ≠ pl → m < bW q + 1 → up2 (up2 (up2 b 79 (p * 12 + i) V) 80 (p * 12 + i) (b 70 7)) 70 7 (b 70 7 + 1) 80 (ixN q' m) = b 80 (ixN q (if m < pl then m else m - 1)) := fun m h1 h2 => by
      have h3 := hno _ (hψ m h1 h2)
      rw [hix m h1 h2, up2_o (by omega), up2_o (Or.inr h3), up2_o (by omega)]
    have hwp : up2 (up2 (up2 b 79 (p * 12 + i) V) 80 (p * 12 + i) (b 70 7)) 70 7 (b 70 7 + 1) 80 (ixN q' pl) = b 70 7 := by
      rw [hixp, up2_o (by omega), up2_s]
    by_cases e1 : j = pl
    · subst e1
      rw [e14.2.2, eo 16 k (by omega) (by omega) hk, if_neg (by omega)]
      exact Or.inl (hlt _ (by omega) (by omega))
    · by_cases e2 : k = pl
      · subst e2
        have hle : ¬ q 16 j < V := by
          have h5 := hge (by omega)
          by_cases g : j = k - 1
          · rw [g]; exact h5
          · intro z
            apply h5
            rcases hB.so (i := j) (j := k - 1) (by omega) (by omega) with h6 | h6
            · exact Int32.lt_trans h6 z
            · rw [← h6.1]; exact z
        rw [e14.2.2, eo 16 j (by omega) e1 (by omega), if_pos hj, hwn j e1 (by omega), hwp, if_pos hj]
        by_cases g : V = q 16 j
        · exact Or.inr ⟨g.symm, hB.wl (by omega)⟩
        · refine Or.inl ?_
          rw [Int32.lt_iff_toInt_lt] at hle ⊢
          have : V.toInt ≠ (q 16 j).toInt := fun z => g (Int32.toInt_inj.mp z)
          omega
      · rw [eo 16 k (by omega) e2 hk, eo 16 j (by omega) e1 (by omega), hwn j e1 (by omega), hwn k e2 hk]
        exact hB.so (hmo j k e1 e2 hj) (hψ k e2 hk)
  · rw [up2_o (by omega), up2_o (by omega), up2_o (by omega)]
theorem JJ_unbid {q b : Mem} {T : Nat} {p w : Int32} (h : JJ q b T) (hg : g3_unbid q p w = none) : JJ (outA q p w (bW q)) (up2 (up2 b 70 0 0) 79 (tn p * 12 + tn w) 0) T := by
  have hpl := h.W.pl
  have hol := h.W.ol
  obtain ⟨g1, hg⟩ := gS_n.mp hg
  obtain ⟨g2, hg⟩ := gS_n.mp hg
  obtain ⟨jp, p1, rfl, p3⟩ := inB_n (gO_n.mp g1) h.W.pe (by omega)
  obtain ⟨iw, w1, rfl, w3⟩ := inB_n (gO_n.mp g2) h.W.oe (by omega)
  rw [p3, w3]
  exact (JJ_out h.th (by omega) (by omega)).1
theorem JJ_bid {q b : Mem} {T : Nat} {p w v : Int32} (h : JJ q b T) (hT : T + 1 < 2 ^ 31) (hg : g3_bid q p w v = none) : JJ (a3_bid q p w v) (up2 (up2 (up2 (up2 (up2 b 70 0 0) 70 0 0) 79 (tn p * 12 + tn w) v) 80 (tn p * 12 + tn w) (b 70 7)) 70 7 (b 70 7 + 1)) (T + 1) := by
  have hpl := h.W.pl
  have hol := h.W.ol
  obtain ⟨g1, hg⟩ := gS_n.mp hg
  obtain ⟨g2, hg⟩ := gS_n.mp hg
  obtain ⟨g3, hg⟩ := gS_n.mp hg
  obtain ⟨jp, p1, rfl, p3⟩ := inB_n (gO_n.mp g1) h.W.pe (by omega)
  obtain ⟨iw, w1, rfl, w3⟩ := inB_n (gO_n.mp g2) h.W.oe (by omega)
  have g3 := gO_n.mp g3
  rw [Bool.and_eq_true, decide_eq_true_eq, decide_eq_true_eq] at g3
  obtain ⟨h1, h2⟩ := JJ_out (h.th (v := 0)) (p := jp) (i := iw) (by omega) (by omega)
  obtain ⟨φ, E, -⟩ := outA_B h.W h.I (p := jp) (i := iw) (by omega) (by omega)
  have eP : nP (outA q (nI jp) (nI iw) (bW q)) = nP q := congrArg tn (E 0 9 (by omega))
  have eO : nO (outA q (nI jp) (nI iw) (bW q)) = nO q := congrArg tn (E 0 10 (by omega))
  have h3 := JJ_tell h1 hT (p := jp) (i := iw) (V := v) (by omega) (by omega) ⟨Int32.not_lt.mp g3.1, g3.2⟩ h2
  rw [p3, w3]
  rw [up2_2] at h3 ⊢
  exact h3

