/-! what holds between two calls -/
def JJ (q b : Mem) (T : Nat) : Prop := WC q ∧ IQ q ∧ RR q b ∧ BB q b 0 T ∧ HH q b
theorem JJ.th {q b : Mem} {T : Nat} {v : Int32} (h : JJ q b T) : JJ q (up2 b 70 0 v) T := h
theorem BB.mo {q b : Mem} {k T T2 : Nat} (h : BB q b k T) (hT : T ≤ T2) : BB q b k T2 := ⟨⟨h.1.1, Nat.le_trans h.1.2 hT⟩, h.2⟩
theorem BB.cg {q q' b b' : Mem} {k T : Nat} (h : BB q b k T) (e13 : q' 13 3 = q 13 3) (e14 : ∀ j, q' 14 j = q 14 j) (e15 : ∀ j, q' 15 j = q 15 j) (e16 : ∀ j, q' 16 j = q 16 j) (k79 : ∀ m, b' 79 m = b 79 m) (k80 : ∀ m, b' 80 m = b 80 m) (k7 : b' 70 7 = b 70 7) : BB q' b' k T := by
  unfold BB ixN bpN boN bW at *
  simp only [e13, e14, e15, e16, k79, k80, k7]
  exact h
theorem hsE_cg {q q' : Mem} {p : Nat} {ex z : Int32} (h : ∀ c k, ((18 ≤ c ∧ c < 66) ∨ c = 69 ∨ (c = 0 ∧ k = 10)) → q' c k = q c k) (hl : nO q ≤ 12) : hsE q' p ex z = hsE q p ex z := by
  unfold hsE
  rw [show nO q' = nO q from congrArg tn (h 0 10 (by omega))]
  apply anyN_congr
  intro i hi
  have e : sl q' i = sl q i := congrArg tn (h _ _ (by omega))
  unfold hfB isOfB hs clB
  rw [h _ _ (by omega), h (18 + 4 * i) 4 (by omega), h (18 + 4 * i + 1) p (by omega), e, h 69 _ (by omega)]
theorem HH.cg {q q' b b' : Mem} (h : HH q b) (hh : ∀ p ex z, p < 10 → hsE q' p ex z = hsE q p ex z) (k : ∀ m, b' 86 m = b 86 m) : HH q' b' := fun p e z h1 h2 h3 => by
  rw [k, hh p _ _ h1]
  exact h p e z h1 h2 h3
theorem IQ.room {q : Mem} (hW : WC q) (hI : IQ q) {v : Int32} (hn : nR q < 3) (h1 : isN v 6) (h2 : 1 ≤ tn v) : IQ (up2 (up2 q 66 (nR q) v) 0 7 (nI (nR q + 1))) := by
  have hl := hW.ol
  have hpl := hW.pl
  generalize hq : up2 (up2 q 66 (nR q) v) 0 7 (nI (nR q + 1)) = q'
  have E : ∀ c k, (c ≠ 66 ∨ k ≠ nR q) ∧ (c ≠ 0 ∨ k ≠ 7) → q' c k = q c k := fun c k h => by
    rw [← hq]
    rw [up2_o (by omega), up2_o (by omega)]
  have eP : nP q' = nP q := congrArg tn (E 0 9 (by omega))
  have eO : nO q' = nO q := congrArg tn (E 0 10 (by omega))
  have eR : nR q' = nR q + 1 := (congrArg tn (show q' 0 7 = nI (nR q + 1) by rw [← hq, up2_s])).trans (tn_nI (by omega))
  have eE : nE q' = nE q := congrArg tn (E 0 8 (by omega))
  have eB : bW q' = bW q := congrArg tn (E 13 3 (by omega))
  have eW : ∀ j, j < 12 → qW q' j = qW q j := fun j hj => congrArg tn (E _ _ (by omega))
  have Hs : ∀ j r, j < 12 → hs q' j r = hs q j r := fun j r hj => by unfold hs; rw [E _ _ (by omega)]
  obtain ⟨nc, pw, fu, qd, qs, ql, sh, pb, ob, rm, rs, rc, bp, bd, pv⟩ := hI
  refine ⟨?_, ?_, ?_, ?_, ?_, ?_, ?_, ?_, ?_, ?_, ?_, ?_, ?_, ?_, ?_⟩
  · exact fun r hr => nc_mono (nc r hr) hl eO (fun i f hi hf => E _ _ (by omega)) (fun i hi g => by rw [Hs i r hi] at g; exact g)
  · intro r hr
    rw [eP] at hr
    exact pw_same eO (E _ _ (by omega)) (E _ _ (by omega)) (fun j hj => E _ _ (by omega)) (pw r hr)
  · intro j hj
    rw [eO] at hj
    show nTaken q' j ≤ tn (q' (18 + 4 * j) 3)
    rw [E _ _ (by omega), show nTaken q' j = nTaken q j from cntN_congr (fun r _ => Hs j r (by omega))]
    exact fu j hj
  · intro j hj k1 k2 h1 h2
    rw [eW j hj] at h2
    rw [E _ _ (by omega), E _ _ (by omega)]
    exact qd j hj k1 k2 h1 h2
  · intro j hj k hk
    rw [eW j hj] at hk
    rw [Hs _ _ hj]
    show hs q j (tn (q' (18 + 4 * j + 2) k)) = false
    rw [E _ _ (by omega)]
    exact qs j hj k hk
  · intro j hj k hk
    rw [eW j hj] at hk
    show tn (q' (18 + 4 * j + 2) k) < nP q' ∧ _
    rw [E _ _ (by omega), E _ _ (by omega), eP]
    exact ql j hj k hk
  · intro j1 j2 h1 h2 hn h
    rw [eO] at h1 h2
    rw [E _ _ (by omega), E _ _ (by omega)] at h
    rw [E (18 + 4 * j1) 1 (by omega), E (18 + 4 * j2) 1 (by omega)]
    exact sh j1 j2 h1 h2 hn h
  · intro r h1 h2
    rw [eP] at h1
    exact ⟨fun j hj => by rw [Hs _ _ hj]; exact (pb r h1 h2).1 j hj, by rw [E _ _ (by omega)]; exact (pb r h1 h2).2⟩
  · intro j h1 h2
    rw [eO] at h1
    exact ⟨fun r hr => by rw [Hs _ _ h2]; exact (ob j h1 h2).1 r hr, by rw [eW j h2]; exact (ob j h1 h2).2⟩
  · intro j hj
    rw [eO] at hj
    obtain ⟨a1, a2, a3⟩ := rm j hj
    rw [E _ _ (by omega), E (18 + 4 * j) 3 (by omega), E 66 _ (by omega), eR]
    exact ⟨a1, by omega, a3⟩
  · intro r hr
    rw [eR] at hr
    by_cases e : r = nR q
    · subst e
      have : q' 66 (nR q) = v := by rw [← hq, up2_o (by omega), up2_s]
      rw [this]
      exact ⟨h1, h2⟩
    · rw [E _ _ (by omega)]
      exact rs r (by omega)
  · intro p e hp he hx f s hf hs
    rw [eP, eE] at hx
    rw [E _ _ (by omega), E (3 + f) _ (by omega)]
    exact rc p e hp he hx f s hf hs
  · intro k hk
    rw [eB] at hk
    show tn (q' 14 k) < nP q' ∧ tn (q' 15 k) < nO q' ∧ ptO (q' 16 k)
    rw [eP, eO, E _ _ (by omega), E 15 _ (by omega), E 16 _ (by omega)]
    exact bp k hk
  · intro j k hj hk
    rw [eB] at hk
    show tn (q' 14 j) ≠ tn (q' 14 k) ∨ tn (q' 15 j) ≠ tn (q' 15 k)
    rw [E 14 k (by omega), E 15 k (by omega), E 14 j (by omega), E 15 j (by omega)]
    exact bd j k hj hk
  · intro j r hj hr h
    rw [Hs _ _ hj] at h
    rw [E _ _ (by omega)]
    exact pv j r hj hr h
theorem IQ.exam {q : Mem} (hW : WC q) (hI : IQ q) (hn : nE q < 6) : IQ (up2 q 0 8 (nI (nE q + 1))) := by
  have hl := hW.ol
  have hpl := hW.pl
  generalize hq : up2 q 0 8 (nI (nE q + 1)) = q'
  have E : ∀ c k, (c ≠ 0 ∨ k ≠ 8) → q' c k = q c k := fun c k h => by
    rw [← hq]
    rw [up2_o (by omega)]
  have eP : nP q' = nP q := congrArg tn (E 0 9 (by omega))
  have eO : nO q' = nO q := congrArg tn (E 0 10 (by omega))
  have eR : nR q' = nR q := congrArg tn (E 0 7 (by omega))
  have eE : nE q' = nE q + 1 := (congrArg tn (show q' 0 8 = nI (nE q + 1) by rw [← hq, up2_s])).trans (tn_nI (by omega))
  have eB : bW q' = bW q := congrArg tn (E 13 3 (by omega))
  have eW : ∀ j, j < 12 → qW q' j = qW q j := fun j hj => congrArg tn (E _ _ (by omega))
  have Hs : ∀ j r, j < 12 → hs q' j r = hs q j r := fun j r hj => by unfold hs; rw [E _ _ (by omega)]
  obtain ⟨nc, pw, fu, qd, qs, ql, sh, pb, ob, rm, rs, rc, bp, bd, pv⟩ := hI
  refine ⟨?_, ?_, ?_, ?_, ?_, ?_, ?_, ?_, ?_, ?_, ?_, ?_, ?_, ?_, ?_⟩
  · exact fun r hr => nc_mono (nc r hr) hl eO (fun i f hi hf => E _ _ (by omega)) (fun i hi g => by rw [Hs i r hi] at g; exact g)
  · intro r hr
    rw [eP] at hr
    exact pw_same eO (E _ _ (by omega)) (E _ _ (by omega)) (fun j hj => E _ _ (by omega)) (pw r hr)
  · intro j hj
    rw [eO] at hj
    show nTaken q' j ≤ tn (q' (18 + 4 * j) 3)
    rw [E _ _ (by omega), show nTaken q' j = nTaken q j from cntN_congr (fun r _ => Hs j r (by omega))]
    exact fu j hj
  · intro j hj k1 k2 h1 h2
    rw [eW j hj] at h2
    rw [E _ _ (by omega), E _ _ (by omega)]
    exact qd j hj k1 k2 h1 h2
  · intro j hj k hk
    rw [eW j hj] at hk
    rw [Hs _ _ hj]
    show hs q j (tn (q' (18 + 4 * j + 2) k)) = false
    rw [E _ _ (by omega)]
    exact qs j hj k hk
  · intro j hj k hk
    rw [eW j hj] at hk
    show tn (q' (18 + 4 * j + 2) k) < nP q' ∧ _
    rw [E _ _ (by omega), E _ _ (by omega), eP]
    exact ql j hj k hk
  · intro j1 j2 h1 h2 hn h
    rw [eO] at h1 h2
    rw [E _ _ (by omega), E _ _ (by omega)] at h
    rw [E (18 + 4 * j1) 1 (by omega), E (18 + 4 * j2) 1 (by omega)]
    exact sh j1 j2 h1 h2 hn h
  · intro r h1 h2
    rw [eP] at h1
    exact ⟨fun j hj => by rw [Hs _ _ hj]; exact (pb r h1 h2).1 j hj, by rw [E _ _ (by omega)]; exact (pb r h1 h2).2⟩
  · intro j h1 h2
    rw [eO] at h1
    exact ⟨fun r hr => by rw [Hs _ _ h2]; exact (ob j h1 h2).1 r hr, by rw [eW j h2]; exact (ob j h1 h2).2⟩
  · intro j hj
    rw [eO] at hj
    obtain ⟨a1, a2, a3⟩ := rm j hj
    rw [E _ _ (by omega), E (18 + 4 * j) 3 (by omega), E 66 _ (by omega), eR]
    exact ⟨a1, a2, a3⟩
  · intro r hr
    rw [eR] at hr
    rw [E _ _ (by omega)]
    exact rs r hr
  · intro p e hp he hx f s hf hs
    rw [eP, eE] at hx
    rw [E _ _ (by omega), E (3 + f) _ (by omega)]
    exact rc p e hp he (by omega) f s hf hs
  · intro k hk
    rw [eB] at hk
    show tn (q' 14 k) < nP q' ∧ tn (q' 15 k) < nO q' ∧ ptO (q' 16 k)
    rw [eP, eO, E _ _ (by omega), E 15 _ (by omega), E 16 _ (by omega)]
    exact bp k hk
  · intro j k hj hk
    rw [eB] at hk
    show tn (q' 14 j) ≠ tn (q' 14 k) ∨ tn (q' 15 j) ≠ tn (q' 15 k)
    rw [E 14 k (by omega), E 15 k (by omega), E 14 j (by omega), E 15 j (by omega)]
    exact bd j k hj hk
  · intro j r hj hr h
    rw [Hs _ _ hj] at h
    rw [E _ _ (by omega)]
    exact pv j r hj hr h
theorem IQ.pupil {q : Mem} (hW : WC q) (hI : IQ q) (hn : nP q < 10) : IQ (up2 (up2 q 67 (nP q) 100) 0 9 (nI (nP q + 1))) := by
  have hl := hW.ol
  have hpl := hW.pl
  generalize hq : up2 (up2 q 67 (nP q) 100) 0 9 (nI (nP q + 1)) = q'
  have E : ∀ c k, (c ≠ 0 ∨ k ≠ 9) ∧ (c ≠ 67 ∨ k ≠ nP q) → q' c k = q c k := fun c k h => by
    rw [← hq]
    rw [up2_o (by omega), up2_o (by omega)]
  have eP : nP q' = nP q + 1 := (congrArg tn (show q' 0 9 = nI (nP q + 1) by rw [← hq, up2_s])).trans (tn_nI (by omega))
  have eO : nO q' = nO q := congrArg tn (E 0 10 (by omega))
  have eR : nR q' = nR q := congrArg tn (E 0 7 (by omega))
  have eE : nE q' = nE q := congrArg tn (E 0 8 (by omega))
  have eB : bW q' = bW q := congrArg tn (E 13 3 (by omega))
  have eW : ∀ j, j < 12 → qW q' j = qW q j := fun j hj => congrArg tn (E _ _ (by omega))
  have Hs : ∀ j r, j < 12 → hs q' j r = hs q j r := fun j r hj => by unfold hs; rw [E _ _ (by omega)]
  obtain ⟨nc, pw, fu, qd, qs, ql, sh, pb, ob, rm, rs, rc, bp, bd, pv⟩ := hI
  refine ⟨?_, ?_, ?_, ?_, ?_, ?_, ?_, ?_, ?_, ?_, ?_, ?_, ?_, ?_, ?_⟩
  · exact fun r hr => nc_mono (nc r hr) hl eO (fun i f hi hf => E _ _ (by omega)) (fun i hi g => by rw [Hs i r hi] at g; exact g)
  · intro r hr
    rw [eP] at hr
    by_cases e : r = nP q
    · subst e
      have e7 : q' 67 (nP q) = 100 := by rw [← hq, up2_o (by omega), up2_s]
      have hb := pb (nP q) (Nat.le_refl _) hn
      have hz : ∀ n, n ≤ 12 → sumN (psB q' (nP q)) n = 0 := by
        intro n
        induction n with
        | zero => intro _; rfl
        | succ n ih =>
          intro hn2
          rw [sumN, ih (by omega), psB_f (by rw [Hs n _ (by omega)]; exact hb.1 n (by omega))]
          rfl
      unfold pwB
      rw [e7, E 68 _ (by omega), hb.2, hz _ (by omega)]
      decide
    · exact pw_same eO (E _ _ (by omega)) (E _ _ (by omega)) (fun j hj => E _ _ (by omega)) (pw r (by omega))
  · intro j hj
    rw [eO] at hj
    show nTaken q' j ≤ tn (q' (18 + 4 * j) 3)
    rw [E _ _ (by omega), show nTaken q' j = nTaken q j from cntN_congr (fun r _ => Hs j r (by omega))]
    exact fu j hj
  · intro j hj k1 k2 h1 h2
    rw [eW j hj] at h2
    rw [E _ _ (by omega), E _ _ (by omega)]
    exact qd j hj k1 k2 h1 h2
  · intro j hj k hk
    rw [eW j hj] at hk
    rw [Hs _ _ hj]
    show hs q j (tn (q' (18 + 4 * j + 2) k)) = false
    rw [E _ _ (by omega)]
    exact qs j hj k hk
  · intro j hj k hk
    rw [eW j hj] at hk
    show tn (q' (18 + 4 * j + 2) k) < nP q' ∧ _
    rw [E _ _ (by omega), E _ _ (by omega), eP]
    exact ⟨Nat.lt_succ_of_lt (ql j hj k hk).1, (ql j hj k hk).2⟩
  · intro j1 j2 h1 h2 hn h
    rw [eO] at h1 h2
    rw [E _ _ (by omega), E _ _ (by omega)] at h
    rw [E (18 + 4 * j1) 1 (by omega), E (18 + 4 * j2) 1 (by omega)]
    exact sh j1 j2 h1 h2 hn h
  · intro r h1 h2
    rw [eP] at h1
    exact ⟨fun j hj => by rw [Hs _ _ hj]; exact (pb r (by omega) h2).1 j hj, by rw [E _ _ (by omega)]; exact (pb r (by omega) h2).2⟩
  · intro j h1 h2
    rw [eO] at h1
    exact ⟨fun r hr => by rw [Hs _ _ h2]; exact (ob j h1 h2).1 r hr, by rw [eW j h2]; exact (ob j h1 h2).2⟩
  · intro j hj
    rw [eO] at hj
    obtain ⟨a1, a2, a3⟩ := rm j hj
    rw [E _ _ (by omega), E (18 + 4 * j) 3 (by omega), E 66 _ (by omega), eR]
    exact ⟨a1, a2, a3⟩
  · intro r hr
    rw [eR] at hr
    rw [E _ _ (by omega)]
    exact rs r hr
  · intro p e hp he hx f s hf hs
    rw [eP, eE] at hx
    rw [E _ _ (by omega), E (3 + f) _ (by omega)]
    exact rc p e hp he (by omega) f s hf hs
  · intro k hk
    rw [eB] at hk
    show tn (q' 14 k) < nP q' ∧ tn (q' 15 k) < nO q' ∧ ptO (q' 16 k)
    rw [eP, eO, E _ _ (by omega), E 15 _ (by omega), E 16 _ (by omega)]
    exact ⟨Nat.lt_succ_of_lt (bp k hk).1, (bp k hk).2⟩
  · intro j k hj hk
    rw [eB] at hk
    show tn (q' 14 j) ≠ tn (q' 14 k) ∨ tn (q' 15 j) ≠ tn (q' 15 k)
    rw [E 14 k (by omega), E 15 k (by omega), E 14 j (by omega), E 15 j (by omega)]
    exact bd j k hj hk
  · intro j r hj hr h
    rw [Hs _ _ hj] at h
    rw [E _ _ (by omega)]
    exact pv j r hj hr h
theorem IQ.wr {q : Mem} (hW : WC q) (hI : IQ q) {t p e f : Nat} {v : Int32} (ht : t < 3) (hp : p < nP q) (he : e < nE q) (hf : f < 3) : IQ (up2 q (3 + (t * 3 + f)) (p * 6 + e) v) := by
  have hl := hW.ol
  have hpl := hW.pl
  generalize hq : up2 q (3 + (t * 3 + f)) (p * 6 + e) v = q'
  have E : ∀ c k, (c ≠ 3 + (t * 3 + f) ∨ k ≠ p * 6 + e) → q' c k = q c k := fun c k h => by
    rw [← hq]
    rw [up2_o (by omega)]
  have hel := hW.el
  have eP : nP q' = nP q := congrArg tn (E 0 9 (by omega))
  have eO : nO q' = nO q := congrArg tn (E 0 10 (by omega))
  have eR : nR q' = nR q := congrArg tn (E 0 7 (by omega))
  have eE : nE q' = nE q := congrArg tn (E 0 8 (by omega))
  have eB : bW q' = bW q := congrArg tn (E 13 3 (by omega))
  have eW : ∀ j, j < 12 → qW q' j = qW q j := fun j hj => congrArg tn (E _ _ (by omega))
  have Hs : ∀ j r, j < 12 → hs q' j r = hs q j r := fun j r hj => by unfold hs; rw [E _ _ (by omega)]
  obtain ⟨nc, pw, fu, qd, qs, ql, sh, pb, ob, rm, rs, rc, bp, bd, pv⟩ := hI
  refine ⟨?_, ?_, ?_, ?_, ?_, ?_, ?_, ?_, ?_, ?_, ?_, ?_, ?_, ?_, ?_⟩
  · exact fun r hr => nc_mono (nc r hr) hl eO (fun i f hi hf => E _ _ (by omega)) (fun i hi g => by rw [Hs i r hi] at g; exact g)
  · intro r hr
    rw [eP] at hr
    exact pw_same eO (E _ _ (by omega)) (E _ _ (by omega)) (fun j hj => E _ _ (by omega)) (pw r hr)
  · intro j hj
    rw [eO] at hj
    show nTaken q' j ≤ tn (q' (18 + 4 * j) 3)
    rw [E _ _ (by omega), show nTaken q' j = nTaken q j from cntN_congr (fun r _ => Hs j r (by omega))]
    exact fu j hj
  · intro j hj k1 k2 h1 h2
    rw [eW j hj] at h2
    rw [E _ _ (by omega), E _ _ (by omega)]
    exact qd j hj k1 k2 h1 h2
  · intro j hj k hk
    rw [eW j hj] at hk
    rw [Hs _ _ hj]
    show hs q j (tn (q' (18 + 4 * j + 2) k)) = false
    rw [E _ _ (by omega)]
    exact qs j hj k hk
  · intro j hj k hk
    rw [eW j hj] at hk
    show tn (q' (18 + 4 * j + 2) k) < nP q' ∧ _
    rw [E _ _ (by omega), E _ _ (by omega), eP]
    exact ql j hj k hk
  · intro j1 j2 h1 h2 hn h
    rw [eO] at h1 h2
    rw [E _ _ (by omega), E _ _ (by omega)] at h
    rw [E (18 + 4 * j1) 1 (by omega), E (18 + 4 * j2) 1 (by omega)]
    exact sh j1 j2 h1 h2 hn h
  · intro r h1 h2
    rw [eP] at h1
    exact ⟨fun j hj => by rw [Hs _ _ hj]; exact (pb r h1 h2).1 j hj, by rw [E _ _ (by omega)]; exact (pb r h1 h2).2⟩
  · intro j h1 h2
    rw [eO] at h1
    exact ⟨fun r hr => by rw [Hs _ _ h2]; exact (ob j h1 h2).1 r hr, by rw [eW j h2]; exact (ob j h1 h2).2⟩
  · intro j hj
    rw [eO] at hj
    obtain ⟨a1, a2, a3⟩ := rm j hj
    rw [E _ _ (by omega), E (18 + 4 * j) 3 (by omega), E 66 _ (by omega), eR]
    exact ⟨a1, a2, a3⟩
  · intro r hr
    rw [eR] at hr
    rw [E _ _ (by omega)]
    exact rs r hr
  · intro p2 e2 hp2 he2 hx f s hf2 hs
    rw [eP, eE] at hx
    rw [E _ _ (by omega), E (3 + f) _ (by omega)]
    exact rc p2 e2 hp2 he2 hx f s hf2 hs
  · intro k hk
    rw [eB] at hk
    show tn (q' 14 k) < nP q' ∧ tn (q' 15 k) < nO q' ∧ ptO (q' 16 k)
    rw [eP, eO, E _ _ (by omega), E 15 _ (by omega), E 16 _ (by omega)]
    exact bp k hk
  · intro j k hj hk
    rw [eB] at hk
    show tn (q' 14 j) ≠ tn (q' 14 k) ∨ tn (q' 15 j) ≠ tn (q' 15 k)
    rw [E 14 k (by omega), E 15 k (by omega), E 14 j (by omega), E 15 j (by omega)]
    exact bd j k hj hk
  · intro j r hj hr h
    rw [Hs _ _ hj] at h
    rw [E _ _ (by omega)]
    exact pv j r hj hr h
theorem IQ.ow {q : Mem} (hW : WC q) (hI : IQ q) {f : Nat} {v : Int32} : IQ (up2 q 12 f v) := by
  have hl := hW.ol
  have hpl := hW.pl
  generalize hq : up2 q 12 f v = q'
  have E : ∀ c k, c ≠ 12 → q' c k = q c k := fun c k h => by
    rw [← hq]
    rw [up2_o (by omega)]
  have eP : nP q' = nP q := congrArg tn (E 0 9 (by omega))
  have eO : nO q' = nO q := congrArg tn (E 0 10 (by omega))
  have eR : nR q' = nR q := congrArg tn (E 0 7 (by omega))
  have eE : nE q' = nE q := congrArg tn (E 0 8 (by omega))
  have eB : bW q' = bW q := congrArg tn (E 13 3 (by omega))
  have eW : ∀ j, j < 12 → qW q' j = qW q j := fun j hj => congrArg tn (E _ _ (by omega))
  have Hs : ∀ j r, j < 12 → hs q' j r = hs q j r := fun j r hj => by unfold hs; rw [E _ _ (by omega)]
  obtain ⟨nc, pw, fu, qd, qs, ql, sh, pb, ob, rm, rs, rc, bp, bd, pv⟩ := hI
  refine ⟨?_, ?_, ?_, ?_, ?_, ?_, ?_, ?_, ?_, ?_, ?_, ?_, ?_, ?_, ?_⟩
  · exact fun r hr => nc_mono (nc r hr) hl eO (fun i f hi hf => E _ _ (by omega)) (fun i hi g => by rw [Hs i r hi] at g; exact g)
  · intro r hr
    rw [eP] at hr
    exact pw_same eO (E _ _ (by omega)) (E _ _ (by omega)) (fun j hj => E _ _ (by omega)) (pw r hr)
  · intro j hj
    rw [eO] at hj
    show nTaken q' j ≤ tn (q' (18 + 4 * j) 3)
    rw [E _ _ (by omega), show nTaken q' j = nTaken q j from cntN_congr (fun r _ => Hs j r (by omega))]
    exact fu j hj
  · intro j hj k1 k2 h1 h2
    rw [eW j hj] at h2
    rw [E _ _ (by omega), E _ _ (by omega)]
    exact qd j hj k1 k2 h1 h2
  · intro j hj k hk
    rw [eW j hj] at hk
    rw [Hs _ _ hj]
    show hs q j (tn (q' (18 + 4 * j + 2) k)) = false
    rw [E _ _ (by omega)]
    exact qs j hj k hk
  · intro j hj k hk
    rw [eW j hj] at hk
    show tn (q' (18 + 4 * j + 2) k) < nP q' ∧ _
    rw [E _ _ (by omega), E _ _ (by omega), eP]
    exact ql j hj k hk
  · intro j1 j2 h1 h2 hn h
    rw [eO] at h1 h2
    rw [E _ _ (by omega), E _ _ (by omega)] at h
    rw [E (18 + 4 * j1) 1 (by omega), E (18 + 4 * j2) 1 (by omega)]
    exact sh j1 j2 h1 h2 hn h
  · intro r h1 h2
    rw [eP] at h1
    exact ⟨fun j hj => by rw [Hs _ _ hj]; exact (pb r h1 h2).1 j hj, by rw [E _ _ (by omega)]; exact (pb r h1 h2).2⟩
  · intro j h1 h2
    rw [eO] at h1
    exact ⟨fun r hr => by rw [Hs _ _ h2]; exact (ob j h1 h2).1 r hr, by rw [eW j h2]; exact (ob j h1 h2).2⟩
  · intro j hj
    rw [eO] at hj
    obtain ⟨a1, a2, a3⟩ := rm j hj
    rw [E _ _ (by omega), E (18 + 4 * j) 3 (by omega), E 66 _ (by omega), eR]
    exact ⟨a1, a2, a3⟩
  · intro r hr
    rw [eR] at hr
    rw [E _ _ (by omega)]
    exact rs r hr
  · intro p e hp he hx f s hf hs
    rw [eP, eE] at hx
    rw [E _ _ (by omega), E (3 + f) _ (by omega)]
    exact rc p e hp he hx f s hf hs
  · intro k hk
    rw [eB] at hk
    show tn (q' 14 k) < nP q' ∧ tn (q' 15 k) < nO q' ∧ ptO (q' 16 k)
    rw [eP, eO, E _ _ (by omega), E 15 _ (by omega), E 16 _ (by omega)]
    exact bp k hk
  · intro j k hj hk
    rw [eB] at hk
    show tn (q' 14 j) ≠ tn (q' 14 k) ∨ tn (q' 15 j) ≠ tn (q' 15 k)
    rw [E 14 k (by omega), E 15 k (by omega), E 14 j (by omega), E 15 j (by omega)]
    exact bd j k hj hk
  · intro j r hj hr h
    rw [Hs _ _ hj] at h
    rw [E _ _ (by omega)]
    exact pv j r hj hr h
theorem IQ.s69 {q : Mem} (hW : WC q) (hI : IQ q) {n : Nat} {v : Int32} : IQ (up2 q 69 n v) := by
  have hl := hW.ol
  have hpl := hW.pl
  generalize hq : up2 q 69 n v = q'
  have E : ∀ c k, c ≠ 69 → q' c k = q c k := fun c k h => by
    rw [← hq]
    rw [up2_o (by omega)]
  have eP : nP q' = nP q := congrArg tn (E 0 9 (by omega))
  have eO : nO q' = nO q := congrArg tn (E 0 10 (by omega))
  have eR : nR q' = nR q := congrArg tn (E 0 7 (by omega))
  have eE : nE q' = nE q := congrArg tn (E 0 8 (by omega))
  have eB : bW q' = bW q := congrArg tn (E 13 3 (by omega))
  have eW : ∀ j, j < 12 → qW q' j = qW q j := fun j hj => congrArg tn (E _ _ (by omega))
  have Hs : ∀ j r, j < 12 → hs q' j r = hs q j r := fun j r hj => by unfold hs; rw [E _ _ (by omega)]
  obtain ⟨nc, pw, fu, qd, qs, ql, sh, pb, ob, rm, rs, rc, bp, bd, pv⟩ := hI
  refine ⟨?_, ?_, ?_, ?_, ?_, ?_, ?_, ?_, ?_, ?_, ?_, ?_, ?_, ?_, ?_⟩
  · exact fun r hr => nc_mono (nc r hr) hl eO (fun i f hi hf => E _ _ (by omega)) (fun i hi g => by rw [Hs i r hi] at g; exact g)
  · intro r hr
    rw [eP] at hr
    exact pw_same eO (E _ _ (by omega)) (E _ _ (by omega)) (fun j hj => E _ _ (by omega)) (pw r hr)
  · intro j hj
    rw [eO] at hj
    show nTaken q' j ≤ tn (q' (18 + 4 * j) 3)
    rw [E _ _ (by omega), show nTaken q' j = nTaken q j from cntN_congr (fun r _ => Hs j r (by omega))]
    exact fu j hj
  · intro j hj k1 k2 h1 h2
    rw [eW j hj] at h2
    rw [E _ _ (by omega), E _ _ (by omega)]
    exact qd j hj k1 k2 h1 h2
  · intro j hj k hk
    rw [eW j hj] at hk
    rw [Hs _ _ hj]
    show hs q j (tn (q' (18 + 4 * j + 2) k)) = false
    rw [E _ _ (by omega)]
    exact qs j hj k hk
  · intro j hj k hk
    rw [eW j hj] at hk
    show tn (q' (18 + 4 * j + 2) k) < nP q' ∧ _
    rw [E _ _ (by omega), E _ _ (by omega), eP]
    exact ql j hj k hk
  · intro j1 j2 h1 h2 hn h
    rw [eO] at h1 h2
    rw [E _ _ (by omega), E _ _ (by omega)] at h
    rw [E (18 + 4 * j1) 1 (by omega), E (18 + 4 * j2) 1 (by omega)]
    exact sh j1 j2 h1 h2 hn h
  · intro r h1 h2
    rw [eP] at h1
    exact ⟨fun j hj => by rw [Hs _ _ hj]; exact (pb r h1 h2).1 j hj, by rw [E _ _ (by omega)]; exact (pb r h1 h2).2⟩
  · intro j h1 h2
    rw [eO] at h1
    exact ⟨fun r hr => by rw [Hs _ _ h2]; exact (ob j h1 h2).1 r hr, by rw [eW j h2]; exact (ob j h1 h2).2⟩
  · intro j hj
    rw [eO] at hj
    obtain ⟨a1, a2, a3⟩ := rm j hj
    rw [E _ _ (by omega), E (18 + 4 * j) 3 (by omega), E 66 _ (by omega), eR]
    exact ⟨a1, a2, a3⟩
  · intro r hr
    rw [eR] at hr
    rw [E _ _ (by omega)]
    exact rs r hr
  · intro p e hp he hx f s hf hs
    rw [eP, eE] at hx
    rw [E _ _ (by omega), E (3 + f) _ (by omega)]
    exact rc p e hp he hx f s hf hs
  · intro k hk
    rw [eB] at hk
    show tn (q' 14 k) < nP q' ∧ tn (q' 15 k) < nO q' ∧ ptO (q' 16 k)
    rw [eP, eO, E _ _ (by omega), E 15 _ (by omega), E 16 _ (by omega)]
    exact bp k hk
  · intro j k hj hk
    rw [eB] at hk
    show tn (q' 14 j) ≠ tn (q' 14 k) ∨ tn (q' 15 j) ≠ tn (q' 15 k)
    rw [E 14 k (by omega), E 15 k (by omega), E 14 j (by omega), E 15 j (by omega)]
    exact bd j k hj hk
  · intro j r hj hr h
    rw [Hs _ _ hj] at h
    rw [E _ _ (by omega)]
    exact pv j r hj hr h
theorem IQ.b0 {q : Mem} (hW : WC q) (hI : IQ q) {v : Int32} : IQ (up2 (up2 q 13 3 0) 0 11 v) := by
  have hl := hW.ol
  have hpl := hW.pl
  generalize hq : up2 (up2 q 13 3 0) 0 11 v = q'
  have E : ∀ c k, (c ≠ 13 ∨ k ≠ 3) ∧ (c ≠ 0 ∨ k ≠ 11) → q' c k = q c k := fun c k h => by
    rw [← hq]
    rw [up2_o (by omega), up2_o (by omega)]
  have eP : nP q' = nP q := congrArg tn (E 0 9 (by omega))
  have eO : nO q' = nO q := congrArg tn (E 0 10 (by omega))
  have eR : nR q' = nR q := congrArg tn (E 0 7 (by omega))
  have eE : nE q' = nE q := congrArg tn (E 0 8 (by omega))
  have eB : bW q' = 0 := by
    have : q' 13 3 = 0 := by rw [← hq, up2_o (by omega), up2_s]
    unfold bW
    rw [this]
    rfl
  have eW : ∀ j, j < 12 → qW q' j = qW q j := fun j hj => congrArg tn (E _ _ (by omega))
  have Hs : ∀ j r, j < 12 → hs q' j r = hs q j r := fun j r hj => by unfold hs; rw [E _ _ (by omega)]
  obtain ⟨nc, pw, fu, qd, qs, ql, sh, pb, ob, rm, rs, rc, bp, bd, pv⟩ := hI
  refine ⟨?_, ?_, ?_, ?_, ?_, ?_, ?_, ?_, ?_, ?_, ?_, ?_, ?_, ?_, ?_⟩
  · exact fun r hr => nc_mono (nc r hr) hl eO (fun i f hi hf => E _ _ (by omega)) (fun i hi g => by rw [Hs i r hi] at g; exact g)
  · intro r hr
    rw [eP] at hr
    exact pw_same eO (E _ _ (by omega)) (E _ _ (by omega)) (fun j hj => E _ _ (by omega)) (pw r hr)
  · intro j hj
    rw [eO] at hj
    show nTaken q' j ≤ tn (q' (18 + 4 * j) 3)
    rw [E _ _ (by omega), show nTaken q' j = nTaken q j from cntN_congr (fun r _ => Hs j r (by omega))]
    exact fu j hj
  · intro j hj k1 k2 h1 h2
    rw [eW j hj] at h2
    rw [E _ _ (by omega), E _ _ (by omega)]
    exact qd j hj k1 k2 h1 h2
  · intro j hj k hk
    rw [eW j hj] at hk
    rw [Hs _ _ hj]
    show hs q j (tn (q' (18 + 4 * j + 2) k)) = false
    rw [E _ _ (by omega)]
    exact qs j hj k hk
  · intro j hj k hk
    rw [eW j hj] at hk
    show tn (q' (18 + 4 * j + 2) k) < nP q' ∧ _
    rw [E _ _ (by omega), E _ _ (by omega), eP]
    exact ql j hj k hk
  · intro j1 j2 h1 h2 hn h
    rw [eO] at h1 h2
    rw [E _ _ (by omega), E _ _ (by omega)] at h
    rw [E (18 + 4 * j1) 1 (by omega), E (18 + 4 * j2) 1 (by omega)]
    exact sh j1 j2 h1 h2 hn h
  · intro r h1 h2
    rw [eP] at h1
    exact ⟨fun j hj => by rw [Hs _ _ hj]; exact (pb r h1 h2).1 j hj, by rw [E _ _ (by omega)]; exact (pb r h1 h2).2⟩
  · intro j h1 h2
    rw [eO] at h1
    exact ⟨fun r hr => by rw [Hs _ _ h2]; exact (ob j h1 h2).1 r hr, by rw [eW j h2]; exact (ob j h1 h2).2⟩
  · intro j hj
    rw [eO] at hj
    obtain ⟨a1, a2, a3⟩ := rm j hj
    rw [E _ _ (by omega), E (18 + 4 * j) 3 (by omega), E 66 _ (by omega), eR]
    exact ⟨a1, a2, a3⟩
  · intro r hr
    rw [eR] at hr
    rw [E _ _ (by omega)]
    exact rs r hr
  · intro p e hp he hx f s hf hs
    rw [eP, eE] at hx
    rw [E _ _ (by omega), E (3 + f) _ (by omega)]
    exact rc p e hp he hx f s hf hs
  · exact fun k hk => absurd hk (by omega)
  · exact fun j k hj hk => absurd hk (by omega)
  · intro j r hj hr h
    rw [Hs _ _ hj] at h
    rw [E _ _ (by omega)]
    exact pv j r hj hr h
theorem IQ.sync {q : Mem} (hW : WC q) (hI : IQ q) {s t : Nat} (hs3 : s < 3) (ht3 : t < 3) (hst : s ≠ t) : IQ (cpO q s t 3) := by
  have hl := hW.ol
  have hpl := hW.pl
  generalize hq : cpO q s t 3 = q'
  have E : ∀ c k, (c < 3 ∨ 12 ≤ c) → q' c k = q c k := fun c k h => by
    rw [← hq]
    exact cpO_x 3 _ _ (by omega)
  have eP : nP q' = nP q := congrArg tn (E 0 9 (by omega))
  have eO : nO q' = nO q := congrArg tn (E 0 10 (by omega))
  have eR : nR q' = nR q := congrArg tn (E 0 7 (by omega))
  have eE : nE q' = nE q := congrArg tn (E 0 8 (by omega))
  have eB : bW q' = bW q := congrArg tn (E 13 3 (by omega))
  have eW : ∀ j, j < 12 → qW q' j = qW q j := fun j hj => congrArg tn (E _ _ (by omega))
  have Hs : ∀ j r, j < 12 → hs q' j r = hs q j r := fun j r hj => by unfold hs; rw [E _ _ (by omega)]
  obtain ⟨nc, pw, fu, qd, qs, ql, sh, pb, ob, rm, rs, rc, bp, bd, pv⟩ := hI
  refine ⟨?_, ?_, ?_, ?_, ?_, ?_, ?_, ?_, ?_, ?_, ?_, ?_, ?_, ?_, ?_⟩
  · exact fun r hr => nc_mono (nc r hr) hl eO (fun i f hi hf => E _ _ (by omega)) (fun i hi g => by rw [Hs i r hi] at g; exact g)
  · intro r hr
    rw [eP] at hr
    exact pw_same eO (E _ _ (by omega)) (E _ _ (by omega)) (fun j hj => E _ _ (by omega)) (pw r hr)
  · intro j hj
    rw [eO] at hj
    show nTaken q' j ≤ tn (q' (18 + 4 * j) 3)
    rw [E _ _ (by omega), show nTaken q' j = nTaken q j from cntN_congr (fun r _ => Hs j r (by omega))]
    exact fu j hj
  · intro j hj k1 k2 h1 h2
    rw [eW j hj] at h2
    rw [E _ _ (by omega), E _ _ (by omega)]
    exact qd j hj k1 k2 h1 h2
  · intro j hj k hk
    rw [eW j hj] at hk
    rw [Hs _ _ hj]
    show hs q j (tn (q' (18 + 4 * j + 2) k)) = false
    rw [E _ _ (by omega)]
    exact qs j hj k hk
  · intro j hj k hk
    rw [eW j hj] at hk
    show tn (q' (18 + 4 * j + 2) k) < nP q' ∧ _
    rw [E _ _ (by omega), E _ _ (by omega), eP]
    exact ql j hj k hk
  · intro j1 j2 h1 h2 hn h
    rw [eO] at h1 h2
    rw [E _ _ (by omega), E _ _ (by omega)] at h
    rw [E (18 + 4 * j1) 1 (by omega), E (18 + 4 * j2) 1 (by omega)]
    exact sh j1 j2 h1 h2 hn h
  · intro r h1 h2
    rw [eP] at h1
    exact ⟨fun j hj => by rw [Hs _ _ hj]; exact (pb r h1 h2).1 j hj, by rw [E _ _ (by omega)]; exact (pb r h1 h2).2⟩
  · intro j h1 h2
    rw [eO] at h1
    exact ⟨fun r hr => by rw [Hs _ _ h2]; exact (ob j h1 h2).1 r hr, by rw [eW j h2]; exact (ob j h1 h2).2⟩
  · intro j hj
    rw [eO] at hj
    obtain ⟨a1, a2, a3⟩ := rm j hj
    rw [E _ _ (by omega), E (18 + 4 * j) 3 (by omega), E 66 _ (by omega), eR]
    exact ⟨a1, a2, a3⟩
  · intro r hr
    rw [eR] at hr
    rw [E _ _ (by omega)]
    exact rs r hr
  · intro p e hp he hx f s2 hf hs2
    rw [eP, eE] at hx
    have key : ∀ r, r < 3 → q' (3 + (r * 3 + f)) (p * 6 + e) = q (3 + f) (p * 6 + e) := by
      intro r hr
      rw [← hq]
      by_cases g : r = t
      · subst g
        rw [cpO_y hst hf 3 _ (by omega) (by omega) (by omega)]
        split
        · exact rc p e hp he hx f s hf hs3
        · exact rc p e hp he hx f r hf hr
      · rw [cpO_x 3 _ _ (by omega)]
        exact rc p e hp he hx f r hf hr
    have k0 := key 0 (by omega)
    rw [show 3 + (0 * 3 + f) = 3 + f by omega] at k0
    rw [key s2 hs2, k0]
  · intro k hk
    rw [eB] at hk
    show tn (q' 14 k) < nP q' ∧ tn (q' 15 k) < nO q' ∧ ptO (q' 16 k)
    rw [eP, eO, E _ _ (by omega), E 15 _ (by omega), E 16 _ (by omega)]
    exact bp k hk
  · intro j k hj hk
    rw [eB] at hk
    show tn (q' 14 j) ≠ tn (q' 14 k) ∨ tn (q' 15 j) ≠ tn (q' 15 k)
    rw [E 14 k (by omega), E 15 k (by omega), E 14 j (by omega), E 15 j (by omega)]
    exact bd j k hj hk
  · intro j r hj hr h
    rw [Hs _ _ hj] at h
    rw [E _ _ (by omega)]
    exact pv j r hj hr h
theorem IQ.offer {q : Mem} (hW : WC q) (hI : IQ q) {e1 s1 r1 z1 : Int32} (hn : nO q < 12) (hr : isN r1 3) (hr2 : tn r1 < nR q) (hno : anyN (rtB q r1 s1) (nO q) = false) : IQ (a3_offer q e1 s1 r1 z1) := by
  have hl := hW.ol
  have hpl := hW.pl
  generalize hq : a3_offer q e1 s1 r1 z1 = q'
  have E : ∀ c k, (c ≠ 18 + 4 * nO q ∨ k = 8) ∧ (c ≠ 0 ∨ k ≠ 10) → q' c k = q c k := fun c k h => by
    rw [← hq]
    unfold a3_offer a3_open
    rw [up2_o (by omega), up2_o (by omega), up2_o (by omega), up2_o (by omega), up2_o (by omega), up2_o (by omega)]
  have Ef : q' (18 + 4 * nO q) 0 = e1 ∧ q' (18 + 4 * nO q) 1 = s1 ∧ q' (18 + 4 * nO q) 2 = r1 ∧ q' (18 + 4 * nO q) 3 = q 66 (tn r1) ∧ q' (18 + 4 * nO q) 4 = z1 := by
    rw [← hq]
    simp only [a3_offer, a3_open]
    refine ⟨?_, ?_, ?_, ?_, ?_⟩ <;> (simp only [up2]; grind)
  have eP : nP q' = nP q := congrArg tn (E 0 9 (by omega))
  have eO : nO q' = nO q + 1 := (congrArg tn (show q' 0 10 = nI (nO q + 1) by rw [← hq]; exact up2_s)).trans (tn_nI (by omega))
  have eR : nR q' = nR q := congrArg tn (E 0 7 (by omega))
  have eE : nE q' = nE q := congrArg tn (E 0 8 (by omega))
  have eB : bW q' = bW q := congrArg tn (E 13 3 (by omega))
  have eW : ∀ j, j < 12 → qW q' j = qW q j := fun j hj => congrArg tn (E _ _ (by omega))
  have Hs : ∀ j r, j < 12 → hs q' j r = hs q j r := fun j r hj => by unfold hs; rw [E _ _ (by omega)]
  obtain ⟨nc, pw, fu, qd, qs, ql, sh, pb, ob, rm, rs, rc, bp, bd, pv⟩ := hI
  refine ⟨?_, ?_, ?_, ?_, ?_, ?_, ?_, ?_, ?_, ?_, ?_, ?_, ?_, ?_, ?_⟩
  · intro r hr
    intro i j hij hj h1 h2
    rw [eO] at hj
    rw [Hs i r (by omega)] at h1
    rw [Hs j r (by omega)] at h2
    by_cases e : j = nO q
    · subst e
      rw [(ob (nO q) (Nat.le_refl _) hn).1 r hr] at h2
      cases h2
    · have h3 := nc r hr i j hij (by omega) h1 h2
      unfold sl exN zN at h3 ⊢
      rw [E (18 + 4 * i) 1 (by omega), E (18 + 4 * j) 1 (by omega), E (18 + 4 * i) 0 (by omega), E (18 + 4 * j) 0 (by omega), E (18 + 4 * i) 4 (by omega), E (18 + 4 * j) 4 (by omega)]
      exact h3
  · intro r hr
    rw [eP] at hr
    have h := pw r hr
    unfold pwB at h ⊢
    rw [eO, sumN, psB_f (by rw [Hs _ _ hn]; exact (ob (nO q) (Nat.le_refl _) hn).1 r (by omega)), Int32.add_zero, E 67 r (by omega), E 68 r (by omega), sumN_congr (f := psB q' r) (g := psB q r) (fun j hj => by unfold psB; rw [Hs j r (by omega), E _ _ (by omega)])]
    exact h
  · intro j hj
    rw [eO] at hj
    rw [show nTaken q' j = nTaken q j from cntN_congr (fun r _ => Hs j r (by omega))]
    by_cases e : j = nO q
    · subst e
      have : nTaken q (nO q) = 0 := by
        have h0 := (ob (nO q) (Nat.le_refl _) hn).1
        have : ∀ n, n ≤ 10 → cntN (hs q (nO q)) n = 0 := by
          intro n
          induction n with
          | zero => intro _; rfl
          | succ n ih => intro h; rw [cntN, ih (by omega), h0 n (by omega)]; rfl
        exact this 10 (Nat.le_refl _)
      omega
    · show nTaken q j ≤ tn (q' (18 + 4 * j) 3)
      rw [E _ _ (by omega)]
      exact fu j (by omega)
  · intro j hj k1 k2 h1 h2
    rw [eW j hj] at h2
    rw [E _ _ (by omega), E _ _ (by omega)]
    exact qd j hj k1 k2 h1 h2
  · intro j hj k hk
    rw [eW j hj] at hk
    rw [Hs _ _ hj]
    show hs q j (tn (q' (18 + 4 * j + 2) k)) = false
    rw [E _ _ (by omega)]
    exact qs j hj k hk
  · intro j hj k hk
    rw [eW j hj] at hk
    show tn (q' (18 + 4 * j + 2) k) < nP q' ∧ _
    rw [E _ _ (by omega), E _ _ (by omega), eP]
    exact ql j hj k hk
  · intro j1 j2 h1 h2 hn2 h
    rw [eO] at h1 h2
    have key : ∀ j, j < nO q → q (18 + 4 * j) 2 = r1 → q (18 + 4 * j) 1 ≠ s1 := by
      intro j hj g1 g2
      have := anyN_f.mp hno j hj
      simp [rtB, g1, g2] at this
    by_cases c1 : j1 = nO q
    · subst c1
      rw [Ef.2.2.1, E (18 + 4 * j2) 2 (by omega)] at h
      rw [Ef.2.1, E (18 + 4 * j2) 1 (by omega)]
      exact fun z => key j2 (by omega) h.symm z.symm
    · rw [E (18 + 4 * j1) 2 (by omega)] at h
      rw [E (18 + 4 * j1) 1 (by omega)]
      by_cases c2 : j2 = nO q
      · subst c2
        rw [Ef.2.2.1] at h
        rw [Ef.2.1]
        exact key j1 (by omega) h
      · rw [E (18 + 4 * j2) 2 (by omega)] at h
        rw [E (18 + 4 * j2) 1 (by omega)]
        exact sh j1 j2 (by omega) (by omega) hn2 h
  · intro r h1 h2
    rw [eP] at h1
    exact ⟨fun j hj => by rw [Hs _ _ hj]; exact (pb r h1 h2).1 j hj, by rw [E _ _ (by omega)]; exact (pb r h1 h2).2⟩
  · intro j h1 h2
    rw [eO] at h1
    exact ⟨fun r hr => by rw [Hs _ _ h2]; exact (ob j (by omega) h2).1 r hr, by rw [eW j h2]; exact (ob j (by omega) h2).2⟩
  · intro j hj
    rw [eO] at hj
    by_cases e : j = nO q
    · subst e
      rw [Ef.2.2.1, Ef.2.2.2.1, eR, E 66 _ (by omega)]
      exact ⟨hr.1, hr2, rfl⟩
    · obtain ⟨a1, a2, a3⟩ := rm j (by omega)
      rw [E _ _ (by omega), E (18 + 4 * j) 3 (by omega), E 66 _ (by omega), eR]
      exact ⟨a1, a2, a3⟩
  · intro r hr
    rw [eR] at hr
    rw [E _ _ (by omega)]
    exact rs r hr
  · intro p e hp he hx f s hf hs
    rw [eP, eE] at hx
    rw [E _ _ (by omega), E (3 + f) _ (by omega)]
    exact rc p e hp he hx f s hf hs
  · intro k hk
    rw [eB] at hk
    show tn (q' 14 k) < nP q' ∧ tn (q' 15 k) < nO q' ∧ ptO (q' 16 k)
    rw [eP, eO, E _ _ (by omega), E 15 _ (by omega), E 16 _ (by omega)]
    have h := bp k hk
    exact ⟨h.1, Nat.lt_succ_of_lt h.2.1, h.2.2⟩
  · intro j k hj hk
    rw [eB] at hk
    show tn (q' 14 j) ≠ tn (q' 14 k) ∨ tn (q' 15 j) ≠ tn (q' 15 k)
    rw [E 14 k (by omega), E 15 k (by omega), E 14 j (by omega), E 15 j (by omega)]
    exact bd j k hj hk
  · intro j r hj hr h
    rw [Hs _ _ hj] at h
    rw [E _ _ (by omega)]
    exact pv j r hj hr h

