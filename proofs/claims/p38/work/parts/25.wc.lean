/-! well formed behind each call -/
theorem WC.room {q : Mem} (hW : WC q) {v : Int32} (hn : nR q < 3) : WC (up2 (up2 q 66 (nR q) v) 0 7 (nI (nR q + 1))) := by
  have hrl := hW.rl
  have hol := hW.ol
  have hpl := hW.pl
  have hel := hW.el
  have hbl := hW.bl
  generalize hq : up2 (up2 q 66 (nR q) v) 0 7 (nI (nR q + 1)) = q'
  have E : ∀ c k, (c ≠ 66 ∨ k ≠ nR q) ∧ (c ≠ 0 ∨ k ≠ 7) → q' c k = q c k := fun c k h => by
    rw [← hq]
    rw [up2_o (by omega), up2_o (by omega)]
  obtain ⟨h1, h2, h3, h4, h5, h6, h7, h8, h9⟩ := hW
  refine ⟨?_, ?_, ?_, ?_, ?_, ?_, ?_, ?_, ?_⟩
  · rw [← hq, up2_s]; exact isN.of rfl (by omega) (by decide)
  · rw [E 0 8 (by omega)]; exact h2
  · rw [E 0 9 (by omega)]; exact h3
  · rw [E 0 10 (by omega)]; exact h4
  · intro i hi; exact WO_congr (fun c k c1 c2 c3 c4 => E c k (by omega)) (h5 i hi)
  · intro f hf; rw [E 12 f (by omega)]; exact h6 f hf
  · rw [E 13 3 (by omega)]; exact h7
  · intro k hk
    rw [show bW q' = bW q from congrArg tn (E 13 3 (by omega))] at hk
    show isN (q' 14 k) 9 ∧ isN (q' 15 k) 11
    rw [E 14 k (by omega), E 15 k (by omega)]
    exact h8 k hk
  · intro s hs; rw [E 69 s (by omega)]; exact h9 s hs
theorem WC.exam {q : Mem} (hW : WC q) (hn : nE q < 6) : WC (up2 q 0 8 (nI (nE q + 1))) := by
  have hrl := hW.rl
  have hol := hW.ol
  have hpl := hW.pl
  have hel := hW.el
  have hbl := hW.bl
  generalize hq : up2 q 0 8 (nI (nE q + 1)) = q'
  have E : ∀ c k, (c ≠ 0 ∨ k ≠ 8) → q' c k = q c k := fun c k h => by
    rw [← hq]
    rw [up2_o (by omega)]
  obtain ⟨h1, h2, h3, h4, h5, h6, h7, h8, h9⟩ := hW
  refine ⟨?_, ?_, ?_, ?_, ?_, ?_, ?_, ?_, ?_⟩
  · rw [E 0 7 (by omega)]; exact h1
  · rw [← hq, up2_s]; exact isN.of rfl (by omega) (by decide)
  · rw [E 0 9 (by omega)]; exact h3
  · rw [E 0 10 (by omega)]; exact h4
  · intro i hi; exact WO_congr (fun c k c1 c2 c3 c4 => E c k (by omega)) (h5 i hi)
  · intro f hf; rw [E 12 f (by omega)]; exact h6 f hf
  · rw [E 13 3 (by omega)]; exact h7
  · intro k hk
    rw [show bW q' = bW q from congrArg tn (E 13 3 (by omega))] at hk
    show isN (q' 14 k) 9 ∧ isN (q' 15 k) 11
    rw [E 14 k (by omega), E 15 k (by omega)]
    exact h8 k hk
  · intro s hs; rw [E 69 s (by omega)]; exact h9 s hs
theorem WC.pupil {q : Mem} (hW : WC q) (hn : nP q < 10) : WC (up2 (up2 q 67 (nP q) 100) 0 9 (nI (nP q + 1))) := by
  have hrl := hW.rl
  have hol := hW.ol
  have hpl := hW.pl
  have hel := hW.el
  have hbl := hW.bl
  generalize hq : up2 (up2 q 67 (nP q) 100) 0 9 (nI (nP q + 1)) = q'
  have E : ∀ c k, (c ≠ 0 ∨ k ≠ 9) ∧ (c ≠ 67 ∨ k ≠ nP q) → q' c k = q c k := fun c k h => by
    rw [← hq]
    rw [up2_o (by omega), up2_o (by omega)]
  obtain ⟨h1, h2, h3, h4, h5, h6, h7, h8, h9⟩ := hW
  refine ⟨?_, ?_, ?_, ?_, ?_, ?_, ?_, ?_, ?_⟩
  · rw [E 0 7 (by omega)]; exact h1
  · rw [E 0 8 (by omega)]; exact h2
  · rw [← hq, up2_s]; exact isN.of rfl (by omega) (by decide)
  · rw [E 0 10 (by omega)]; exact h4
  · intro i hi; exact WO_congr (fun c k c1 c2 c3 c4 => E c k (by omega)) (h5 i hi)
  · intro f hf; rw [E 12 f (by omega)]; exact h6 f hf
  · rw [E 13 3 (by omega)]; exact h7
  · intro k hk
    rw [show bW q' = bW q from congrArg tn (E 13 3 (by omega))] at hk
    show isN (q' 14 k) 9 ∧ isN (q' 15 k) 11
    rw [E 14 k (by omega), E 15 k (by omega)]
    exact h8 k hk
  · intro s hs; rw [E 69 s (by omega)]; exact h9 s hs
theorem WC.wr {q : Mem} (hW : WC q) {t x f : Nat} {v : Int32} (ht : t < 3) (hf : f < 3) : WC (up2 q (3 + (t * 3 + f)) x v) := by
  have hrl := hW.rl
  have hol := hW.ol
  have hpl := hW.pl
  have hel := hW.el
  have hbl := hW.bl
  generalize hq : up2 q (3 + (t * 3 + f)) x v = q'
  have E : ∀ c k, (c < 3 ∨ 12 ≤ c) → q' c k = q c k := fun c k h => by
    rw [← hq]
    rw [up2_o (by omega)]
  obtain ⟨h1, h2, h3, h4, h5, h6, h7, h8, h9⟩ := hW
  refine ⟨?_, ?_, ?_, ?_, ?_, ?_, ?_, ?_, ?_⟩
  · rw [E 0 7 (by omega)]; exact h1
  · rw [E 0 8 (by omega)]; exact h2
  · rw [E 0 9 (by omega)]; exact h3
  · rw [E 0 10 (by omega)]; exact h4
  · intro i hi; exact WO_congr (fun c k c1 c2 c3 c4 => E c k (by omega)) (h5 i hi)
  · intro f hf; rw [E 12 f (by omega)]; exact h6 f hf
  · rw [E 13 3 (by omega)]; exact h7
  · intro k hk
    rw [show bW q' = bW q from congrArg tn (E 13 3 (by omega))] at hk
    show isN (q' 14 k) 9 ∧ isN (q' 15 k) 11
    rw [E 14 k (by omega), E 15 k (by omega)]
    exact h8 k hk
  · intro s hs; rw [E 69 s (by omega)]; exact h9 s hs
theorem WC.own1 {q : Mem} (hW : WC q) {f : Nat} {v : Int32} (hv : isN v 2) : WC (up2 q 12 f v) := by
  have hrl := hW.rl
  have hol := hW.ol
  have hpl := hW.pl
  have hel := hW.el
  have hbl := hW.bl
  generalize hq : up2 q 12 f v = q'
  have E : ∀ c k, (c ≠ 12 ∨ k ≠ f) → q' c k = q c k := fun c k h => by
    rw [← hq]
    rw [up2_o (by omega)]
  obtain ⟨h1, h2, h3, h4, h5, h6, h7, h8, h9⟩ := hW
  refine ⟨?_, ?_, ?_, ?_, ?_, ?_, ?_, ?_, ?_⟩
  · rw [E 0 7 (by omega)]; exact h1
  · rw [E 0 8 (by omega)]; exact h2
  · rw [E 0 9 (by omega)]; exact h3
  · rw [E 0 10 (by omega)]; exact h4
  · intro i hi; exact WO_congr (fun c k c1 c2 c3 c4 => E c k (by omega)) (h5 i hi)
  · intro g hg
    by_cases e : g = f
    · subst e; rw [← hq, up2_s]; exact hv
    · rw [E 12 g (by omega)]; exact h6 g hg
  · rw [E 13 3 (by omega)]; exact h7
  · intro k hk
    rw [show bW q' = bW q from congrArg tn (E 13 3 (by omega))] at hk
    show isN (q' 14 k) 9 ∧ isN (q' 15 k) 11
    rw [E 14 k (by omega), E 15 k (by omega)]
    exact h8 k hk
  · intro s hs; rw [E 69 s (by omega)]; exact h9 s hs
theorem WC.s69 {q : Mem} (hW : WC q) {n : Nat} : WC (up2 q 69 n 1) := by
  have hrl := hW.rl
  have hol := hW.ol
  have hpl := hW.pl
  have hel := hW.el
  have hbl := hW.bl
  generalize hq : up2 q 69 n 1 = q'
  have E : ∀ c k, (c ≠ 69 ∨ k ≠ n) → q' c k = q c k := fun c k h => by
    rw [← hq]
    rw [up2_o (by omega)]
  obtain ⟨h1, h2, h3, h4, h5, h6, h7, h8, h9⟩ := hW
  refine ⟨?_, ?_, ?_, ?_, ?_, ?_, ?_, ?_, ?_⟩
  · rw [E 0 7 (by omega)]; exact h1
  · rw [E 0 8 (by omega)]; exact h2
  · rw [E 0 9 (by omega)]; exact h3
  · rw [E 0 10 (by omega)]; exact h4
  · intro i hi; exact WO_congr (fun c k c1 c2 c3 c4 => E c k (by omega)) (h5 i hi)
  · intro f hf; rw [E 12 f (by omega)]; exact h6 f hf
  · rw [E 13 3 (by omega)]; exact h7
  · intro k hk
    rw [show bW q' = bW q from congrArg tn (E 13 3 (by omega))] at hk
    show isN (q' 14 k) 9 ∧ isN (q' 15 k) 11
    rw [E 14 k (by omega), E 15 k (by omega)]
    exact h8 k hk
  · intro g hg
    by_cases e : g = n
    · subst e; rw [← hq, up2_s]; exact Or.inr rfl
    · rw [E 69 g (by omega)]; exact h9 g hg
theorem WC.b0 {q : Mem} (hW : WC q) {v : Int32} : WC (up2 (up2 q 13 3 0) 0 11 v) := by
  have hrl := hW.rl
  have hol := hW.ol
  have hpl := hW.pl
  have hel := hW.el
  have hbl := hW.bl
  generalize hq : up2 (up2 q 13 3 0) 0 11 v = q'
  have E : ∀ c k, (c ≠ 13 ∨ k ≠ 3) ∧ (c ≠ 0 ∨ k ≠ 11) → q' c k = q c k := fun c k h => by
    rw [← hq]
    rw [up2_o (by omega), up2_o (by omega)]
  obtain ⟨h1, h2, h3, h4, h5, h6, h7, h8, h9⟩ := hW
  refine ⟨?_, ?_, ?_, ?_, ?_, ?_, ?_, ?_, ?_⟩
  · rw [E 0 7 (by omega)]; exact h1
  · rw [E 0 8 (by omega)]; exact h2
  · rw [E 0 9 (by omega)]; exact h3
  · rw [E 0 10 (by omega)]; exact h4
  · intro i hi; exact WO_congr (fun c k c1 c2 c3 c4 => E c k (by omega)) (h5 i hi)
  · intro f hf; rw [E 12 f (by omega)]; exact h6 f hf
  · rw [← hq, up2_o (by omega), up2_s]; exact ⟨by decide, by decide⟩
  · intro k hk
    rw [show bW q' = 0 from congrArg tn (show q' 13 3 = 0 by rw [← hq, up2_o (by omega), up2_s])] at hk
    omega
  · intro s hs; rw [E 69 s (by omega)]; exact h9 s hs
theorem WC.offer {q : Mem} (hW : WC q) {e1 s1 r1 z1 : Int32} (hn : nO q < 12) (he : isN e1 5) (hs1 : isN s1 5) (hz : z1 = 0 ∨ z1 = 1) (hst : isN (q 66 (tn r1)) 6) : WC (a3_offer q e1 s1 r1 z1) := by
  have hrl := hW.rl
  have hol := hW.ol
  have hpl := hW.pl
  have hel := hW.el
  have hbl := hW.bl
  generalize hq : a3_offer q e1 s1 r1 z1 = q'
  have E : ∀ c k, (c ≠ 18 + 4 * nO q ∨ k = 8) ∧ (c ≠ 0 ∨ k ≠ 10) → q' c k = q c k := fun c k h => by
    rw [← hq]
    unfold a3_offer a3_open
    rw [up2_o (by omega), up2_o (by omega), up2_o (by omega), up2_o (by omega), up2_o (by omega), up2_o (by omega)]
  have Ef : q' (18 + 4 * nO q) 0 = e1 ∧ q' (18 + 4 * nO q) 1 = s1 ∧ q' (18 + 4 * nO q) 2 = r1 ∧ q' (18 + 4 * nO q) 3 = q 66 (tn r1) ∧ q' (18 + 4 * nO q) 4 = z1 := by
    rw [← hq]
    simp only [a3_offer, a3_open]
    refine ⟨?_, ?_, ?_, ?_, ?_⟩ <;> (simp only [up2]; grind)
  obtain ⟨h1, h2, h3, h4, h5, h6, h7, h8, h9⟩ := hW
  refine ⟨?_, ?_, ?_, ?_, ?_, ?_, ?_, ?_, ?_⟩
  · rw [E 0 7 (by omega)]; exact h1
  · rw [E 0 8 (by omega)]; exact h2
  · rw [E 0 9 (by omega)]; exact h3
  · rw [← hq, show a3_offer q e1 s1 r1 z1 0 10 = nI (nO q + 1) from up2_s]; exact isN.of rfl (by omega) (by decide)
  · intro i hi
    by_cases e : i = nO q
    · subst e
      obtain ⟨g1, g2, g3, g4, g5, g6⟩ := h5 (nO q) hi
      unfold WO qW at *
      rw [Ef.1, Ef.2.1, Ef.2.2.2.1, Ef.2.2.2.2, E _ 8 (by omega)]
      refine ⟨he, hs1, hz, g4, hst, fun k hk => ?_⟩
      rw [E _ _ (by omega)]
      exact g6 k hk
    · exact WO_congr (fun c k c1 c2 c3 c4 => E c k (by omega)) (h5 i hi)
  · intro f hf; rw [E 12 f (by omega)]; exact h6 f hf
  · rw [E 13 3 (by omega)]; exact h7
  · intro k hk
    rw [show bW q' = bW q from congrArg tn (E 13 3 (by omega))] at hk
    show isN (q' 14 k) 9 ∧ isN (q' 15 k) 11
    rw [E 14 k (by omega), E 15 k (by omega)]
    exact h8 k hk
  · intro s hs; rw [E 69 s (by omega)]; exact h9 s hs
theorem WC.bl2 {q q' : Mem} (hW : WC q) (E : ∀ c k, (c < 13 ∨ 17 ≤ c) → q' c k = q c k) (hb : isN (q' 13 3) 120) (hd : ∀ k, k < bW q' → isN (q' 14 k) 9 ∧ isN (q' 15 k) 11) : WC q' := by
  obtain ⟨h1, h2, h3, h4, h5, h6, h7, h8, h9⟩ := hW
  refine ⟨?_, ?_, ?_, ?_, ?_, ?_, hb, hd, ?_⟩
  · rw [E 0 7 (by omega)]; exact h1
  · rw [E 0 8 (by omega)]; exact h2
  · rw [E 0 9 (by omega)]; exact h3
  · rw [E 0 10 (by omega)]; exact h4
  · intro i hi; exact WO_congr (fun c k c1 c2 c3 c4 => E c k (by omega)) (h5 i hi)
  · intro f hf; rw [E 12 f (by omega)]; exact h6 f hf
  · intro s hs; rw [E 69 s (by omega)]; exact h9 s hs
theorem WC.tell {q : Mem} (hW : WC q) {p i : Nat} {V : Int32} (hp : p < 10) (hi : i < 12) : WC (tellA q (nI p) (nI i) V (bW q)) := by
  have hbl := hW.bl
  unfold tellA
  split
  · exact hW
  · rename_i hn
    have hpl := insPl_le (g := q 16) (V := V) (n := bW q)
    generalize insPl (q 16) V (bW q) = pl at hpl
    have e13 : tellP q (nI p) (nI i) V (bW q) pl 13 3 = nI (bW q + 1) := by
      unfold tellP
      rw [if_pos ⟨rfl, rfl⟩]
    have eB : bW (tellP q (nI p) (nI i) V (bW q) pl) = bW q + 1 := (congrArg tn e13).trans (tn_nI (by omega))
    refine hW.bl2 (fun c k h => ?_) (by rw [e13]; exact isN.of rfl (by omega) (by decide)) (fun k hk => ?_)
    · unfold tellP
      rw [if_neg (by omega), if_neg (by omega), if_neg (by omega), if_neg (by omega), if_neg (by omega)]
    · rw [eB] at hk
      have hP : isN (nI p) 9 := isN.of rfl (by omega) (by decide)
      have hO : isN (nI i) 11 := isN.of rfl (by omega) (by decide)
      have t1 : tellP q (nI p) (nI i) V (bW q) pl 14 k = if k = pl then nI p else if pl < k ∧ k ≤ bW q then q 14 (k - 1) else q 14 k := by simp [tellP]
      have t2 : tellP q (nI p) (nI i) V (bW q) pl 15 k = if k = pl then nI i else if pl < k ∧ k ≤ bW q then q 15 (k - 1) else q 15 k := by simp [tellP]
      rw [t1, t2]
      by_cases e : k = pl
      · rw [if_pos e, if_pos e]
        exact ⟨hP, hO⟩
      · rw [if_neg e, if_neg e]
        by_cases g : pl < k ∧ k ≤ bW q
        · rw [if_pos g, if_pos g]
          exact hW.bd (k := k - 1) (by omega)
        · rw [if_neg g, if_neg g]
          exact hW.bd (by omega)
theorem WC.out {q : Mem} (hW : WC q) {P O : Int32} : WC (outA q P O (bW q)) := by
  have hbl := hW.bl
  by_cases hf : firN (bAt q P O) (bW q) < bW q
  · have ex : outA q P O (bW q) = del3 q (firN (bAt q P O) (bW q)) (bW q) (bW q - 1) := by
      unfold outA
      rw [if_pos hf]
    rw [ex]
    generalize firN (bAt q P O) (bW q) = pl at hf
    have e13 : del3 q pl (bW q) (bW q - 1) 13 3 = nI (bW q - 1) := by
      unfold del3
      rw [if_pos ⟨rfl, rfl⟩]
    have eB : bW (del3 q pl (bW q) (bW q - 1)) = bW q - 1 := (congrArg tn e13).trans (tn_nI (by omega))
    refine hW.bl2 (fun c k h => ?_) (by rw [e13]; exact isN.of rfl (by omega) (by decide)) (fun k hk => ?_)
    · unfold del3
      rw [if_neg (by omega), if_neg (by omega)]
    · rw [eB] at hk
      have e2 : ∀ c, (c = 14 ∨ c = 15 ∨ c = 16) → del3 q pl (bW q) (bW q - 1) c k = q c (if k < pl then k else k + 1) := by
        intro c hc
        simp only [del3]
        rw [if_neg (by omega)]
        by_cases g : k < pl
        · rw [if_neg (by omega), if_pos g]
        · rw [if_pos (by omega), if_neg g]
      rw [e2 14 (by omega), e2 15 (by omega)]
      exact hW.bd (by split <;> omega)
  · unfold outA
    rw [if_neg hf]
    exact hW
theorem WC.bid {q : Mem} (hW : WC q) {p i : Nat} {V : Int32} (hp : p < 10) (hi : i < 12) : WC (a3_bid q (nI p) (nI i) V) := hW.out.tell hp hi
theorem WC.settle {q : Mem} (hW : WC q) : WC (a3_settle q) := by
  have h : ∀ n, n ≤ bW q → WC (stK q n) := by
    intro n
    induction n with
    | zero => intro _; exact hW
    | succ n ih =>
      intro hn
      have h1 := ih (by omega)
      exact h1.won (by have := hW.bol (k := n) (by omega); omega) (by have := hW.bpl (k := n) (by omega); omega)
  exact (h _ (Nat.le_refl _)).b0
theorem WC.sit {q : Mem} (hW : WC q) {s : Int32} {n : Nat} : WC (up2 (siK q s (nO q)) 69 n 1) := (hW.si _ hW.ol).s69
