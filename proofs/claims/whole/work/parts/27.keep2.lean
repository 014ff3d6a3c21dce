/-- all that is fixed stays; what moves is told anew -/
theorem IQ.of {q q' : Mem} (hW : WC q) (hI : IQ q) (hc : ∀ c k, c ≠ 67 → c ≠ 68 → ¬ (c = 0 ∧ 11 ≤ k) → ¬ (18 ≤ c ∧ c < 66 ∧ ((c - 18) % 4 ≠ 0 ∨ k = 8)) → q' c k = q c k)
    (nc : ∀ p, p < 10 → noClash q' p) (pw : ∀ p, p < nP q → pwB q' p = true) (fu : ∀ i, i < nO q → nTaken q' i ≤ stN q i)
    (qd : ∀ i, i < 12 → ∀ j k, j < k → k < qW q' i → q' (18 + 4 * i + 2) j ≠ q' (18 + 4 * i + 2) k) (qs : ∀ i, i < 12 → ∀ k, k < qW q' i → hs q' i (wtN q' i k) = false)
    (ql : ∀ i, i < 12 → ∀ k, k < qW q' i → wtN q' i k < nP q ∧ ptO (q' (18 + 4 * i + 3) k)) (pb : ∀ p, nP q ≤ p → p < 10 → (∀ i, i < 12 → hs q' i p = false) ∧ q' 68 p = 0)
    (ob : ∀ i, nO q ≤ i → i < 12 → (∀ p, p < 10 → hs q' i p = false) ∧ qW q' i = 0) (pv : ∀ i p, i < 12 → p < 10 → hs q' i p = true → ptO (q' (18 + 4 * i + 1) p)) : IQ q' := by
  have hl := hW.ol
  have eP : nP q' = nP q := congrArg tn (hc 0 9 (by decide) (by decide) (by omega) (by omega))
  have eO : nO q' = nO q := congrArg tn (hc 0 10 (by decide) (by decide) (by omega) (by omega))
  have eR : nR q' = nR q := congrArg tn (hc 0 7 (by decide) (by decide) (by omega) (by omega))
  have eE : nE q' = nE q := congrArg tn (hc 0 8 (by decide) (by decide) (by omega) (by omega))
  have eB : bW q' = bW q := congrArg tn (hc 13 3 (by decide) (by decide) (by omega) (by omega))
  have ef : ∀ i f, i < 12 → f ≠ 8 → q' (18 + 4 * i) f = q (18 + 4 * i) f := fun i f hi hf => hc _ _ (by omega) (by omega) (by omega) (by omega)
  refine ⟨nc, fun p hp => pw p (by omega), fun i hi => ?_, qd, qs, fun i hi k hk => ?_, fun i j hi hj hn h => ?_, fun p h1 h2 => pb p (by omega) h2, fun i h1 h2 => ob i (by omega) h2, fun i hi => ?_, fun r hr => ?_, fun p e hp he hx f s hf hs => ?_, fun k hk => ?_, fun j k hj hk => ?_, pv⟩
  · rw [eO] at hi
    show nTaken q' i ≤ tn (q' (18 + 4 * i) 3)
    rw [ef i 3 (by omega) (by decide)]
    exact fu i hi
  · rw [eP]
    exact ql i hi k hk
  · rw [eO] at hi hj
    rw [ef i 2 (by omega) (by decide), ef j 2 (by omega) (by decide)] at h
    rw [ef i 1 (by omega) (by decide), ef j 1 (by omega) (by decide)]
    exact hI.sh i j hi hj hn h
  · rw [eO] at hi
    rw [ef i 2 (by omega) (by decide), ef i 3 (by omega) (by decide), eR, hc 66 _ (by decide) (by decide) (by omega) (by omega)]
    exact hI.rm i hi
  · rw [eR] at hr
    rw [hc 66 _ (by decide) (by decide) (by omega) (by omega)]
    exact hI.rs r hr
  · rw [eP, eE] at hx
    rw [hc _ _ (by omega) (by omega) (by omega) (by omega), hc (3 + f) _ (by omega) (by omega) (by omega) (by omega)]
    exact hI.rc p e hp he hx f s hf hs
  · rw [eB] at hk
    show tn (q' 14 k) < nP q' ∧ tn (q' 15 k) < nO q' ∧ ptO (q' 16 k)
    rw [eP, eO, hc 14 k (by decide) (by decide) (by omega) (by omega), hc 15 k (by decide) (by decide) (by omega) (by omega), hc 16 k (by decide) (by decide) (by omega) (by omega)]
    exact hI.bp k hk
  · rw [eB] at hk
    show tn (q' 14 j) ≠ tn (q' 14 k) ∨ tn (q' 15 j) ≠ tn (q' 15 k)
    rw [hc 14 k (by decide) (by decide) (by omega) (by omega), hc 15 k (by decide) (by decide) (by omega) (by omega), hc 14 j (by decide) (by decide) (by omega) (by omega), hc 15 j (by decide) (by decide) (by omega) (by omega)]
    exact hI.bd j k hj hk
theorem full_f {q : Mem} (hW : WC q) {i : Nat} (hi : i < 12) (h : isFullB q i = false) : nTaken q i < stN q i := by
  have h2 : nI (nTaken q i) < q (18 + 4 * i) 3 := Classical.not_not.mp (of_decide_eq_false h)
  rw [hW.ste hi, nI_ltI (by have := cntN_le (hs q i) 10; unfold nTaken; omega) (by have := hW.stl hi; omega)] at h2
  exact h2
theorem IQ.give {q : Mem} (hW : WC q) (hI : IQ q) {i p : Nat} {V : Int32} (hi : i < nO q) (hp : p < nP q) (hn : nos q i p V = true) (hf : isFullB q i = false) (hV : ptO V) : IQ (giveA q i p V) := by
  have hl := hW.ol
  have hpl := hW.pl
  have hW2 : WC (giveA q i p V) := hW.give (by omega)
  obtain ⟨n1, n2, n3⟩ := nos_t hn
  have hno : hs q i p = false := by
    cases g : hs q i p with
    | false => rfl
    | true => exact absurd ⟨rfl, rfl⟩ (n3 i hi g).1
  have hsub := fun j (hj : j < 12) => gv_sub (p := p) (V := V) hW hI hi hj
  generalize hq : giveA q i p V = q' at hW2 hsub ⊢
  have E : ∀ c k, (c < 18 ∨ 66 ≤ c ∨ ((c - 18) % 4 = 0 ∧ k ≠ 8) ∨ (c - 18) % 4 = 1) → q' c k = gv1 q i p V c k := fun c k h => by
    rw [← hq]
    exact gvA_01 h (by omega)
  have E0 : ∀ c k, (c < 18 ∨ 66 ≤ c ∨ ((c - 18) % 4 = 0 ∧ k ≠ 8)) → c ≠ 67 → q' c k = q c k := fun c k h h7 => (E c k (by omega)).trans ((up2_o (by omega)).trans (up2_o (by omega)))
  have Ep : ∀ j r, j < 12 → ¬ (j = i ∧ r = p) → q' (18 + 4 * j + 1) r = q (18 + 4 * j + 1) r := fun j r hj h => (E _ _ (by omega)).trans ((up2_o (by omega)).trans (up2_o (by omega)))
  have Epi : q' (18 + 4 * i + 1) p = V := (E _ _ (by omega)).trans up2_s
  have E67 : ∀ r, r ≠ p → q' 67 r = q 67 r := fun r h => (E _ _ (by omega)).trans ((up2_o (by omega)).trans (up2_o (by omega)))
  have E67p : q' 67 p = q 67 p - V := (E _ _ (by omega)).trans ((up2_o (by omega)).trans up2_s)
  have H1 : ∀ j r, j < 12 → ¬ (j = i ∧ r = p) → hs q' j r = hs q j r := fun j r hj h => by unfold hs; rw [Ep j r hj h]
  have H2 : hs q' i p = true := hs_t.mpr (by rw [Epi]; exact ptO_n hV)
  have eO : nO q' = nO q := congrArg tn (E0 0 10 (by omega) (by omega))
  have es : ∀ j f, j < 12 → f ≠ 8 → q' (18 + 4 * j) f = q (18 + 4 * j) f := fun j f hj hf => E0 _ _ (by omega) (by omega)
  refine IQ.of hW hI (fun c k h1 h2 h3 h4 => E0 c k (by omega) h1) (fun r hr => ?_) (fun r hr => ?_) (fun j hj => ?_) (fun j hj k1 k2 h1 h2 => ?_) (fun j hj k hk => ?_) (fun j hj k hk => ?_) (fun r h1 h2 => ⟨fun j hj => ?_, ?_⟩) (fun j h1 h2 => ⟨fun r hr => ?_, ?_⟩) (fun j r hj hr h => ?_)
  · by_cases e : r = p
    · subst e
      have key : ∀ j, j < nO q → j ≠ i → hs q j r = true → sl q j ≠ sl q i ∧ 2 * exN q j + zN q j ≠ 2 * exN q i + zN q i := by
        intro j hj hji g
        obtain ⟨g1, g2⟩ := n3 j hj g
        constructor
        · intro z
          apply g2
          rw [hW.sle (by omega), hW.sle (by omega), z]
        · intro z
          apply g1
          have z1 : zN q j < 2 := by unfold zN; split <;> omega
          have z2 : zN q i < 2 := by unfold zN; split <;> omega
          have a1 : exN q j = exN q i := by omega
          have a2 : zN q j = zN q i := by omega
          refine ⟨by rw [hW.exe (by omega), hW.exe (by omega), a1], ?_⟩
          unfold zN at a2
          rcases hW.zz (i := j) (by omega) with h3 | h3 <;> rcases hW.zz (i := i) (by omega) with h4 | h4 <;> rw [h3, h4] at a2 ⊢ <;> simp at a2
      intro j1 j2 h12 hj2 g1 g2
      rw [eO] at hj2
      have e3 : ∀ j, j < 12 → sl q' j = sl q j ∧ exN q' j = exN q j ∧ zN q' j = zN q j := fun j hj => ⟨congrArg tn (es j 1 hj (by decide)), congrArg tn (es j 0 hj (by decide)), by unfold zN; rw [es j 4 hj (by decide)]⟩
      rw [(e3 j1 (by omega)).1, (e3 j2 (by omega)).1, (e3 j1 (by omega)).2.1, (e3 j2 (by omega)).2.1, (e3 j1 (by omega)).2.2, (e3 j2 (by omega)).2.2]
      by_cases c1 : j1 = i
      · subst c1
        rw [H1 j2 r (by omega) (by omega)] at g2
        have := key j2 hj2 (by omega) g2
        exact ⟨fun z => this.1 z.symm, fun z => this.2 z.symm⟩
      · rw [H1 j1 r (by omega) (by omega)] at g1
        by_cases c2 : j2 = i
        · subst c2
          exact key j1 (by omega) c1 g1
        · rw [H1 j2 r (by omega) (by omega)] at g2
          exact hI.nc r hr j1 j2 h12 hj2 g1 g2
    · exact nc_mono (hI.nc r hr) hl eO es (fun j hj g => by rw [H1 j r hj (fun z => e z.2)] at g; exact g)
  · by_cases e : r = p
    · subst e
      refine pw_step (x := -V) (y := 0) hi eO (by rw [E67p, Int32.sub_eq_add_neg]) (by rw [E0 68 r (by omega) (by omega), Int32.add_zero]) ?_ (fun j hj hji => ?_) (hI.pw r hr)
      · rw [psB_t H2, psB_f hno, Epi, Int32.add_zero, Int32.add_right_neg]
      · unfold psB
        rw [H1 j r (by omega) (by omega), Ep j r (by omega) (by omega)]
    · exact pw_same eO (E67 r e) (E0 68 r (by omega) (by omega)) (fun j hj => Ep j r (by omega) (by omega)) (hI.pw r hr)
  · by_cases e : j = i
    · subst e
      have := cnt_add1 (f := hs q j) (g := hs q' j) (c := p) hno H2 (fun r hr => H1 j r (by omega) (by omega)) 10 (by omega)
      have h3 := full_f hW (by omega) hf
      unfold nTaken at h3 ⊢
      omega
    · have : nTaken q' j = nTaken q j := cntN_congr (fun r _ => H1 j r (by omega) (by omega))
      rw [this]
      exact hI.fu j hj
  · obtain ⟨⟨φ, a1, a2⟩, _⟩ := hsub j hj
    rw [(a1 k1 (by omega)).2.1, (a1 k2 h2).2.1]
    exact hI.qd j hj _ _ (a2 _ _ h1) (a1 k2 h2).1
  · obtain ⟨⟨φ, a1, a2⟩, a3⟩ := hsub j hj
    have b1 := a1 k hk
    have b2 : wtN q' j k = wtN q j (φ k) := congrArg tn b1.2.1
    by_cases e : j = i ∧ wtN q' j k = p
    · exfalso
      obtain ⟨rfl, e2⟩ := e
      refine a3 ⟨by simp [isOfB], hi⟩ k hk ?_
      rw [hW2.wte hj hk, e2]
    · rw [H1 j _ hj e, b2]
      exact hI.qs j hj _ b1.1
  · obtain ⟨⟨φ, a1, a2⟩, _⟩ := hsub j hj
    have b1 := a1 k hk
    have b2 : wtN q' j k = wtN q j (φ k) := congrArg tn b1.2.1
    rw [b2, b1.2.2]
    exact hI.ql j hj _ b1.1
  · rw [H1 j r hj (by omega)]
    exact (hI.pb r h1 h2).1 j hj
  · rw [E0 68 r (by omega) (by omega)]
    exact (hI.pb r h1 h2).2
  · rw [H1 j r h2 (by omega)]
    exact (hI.ob j h1 h2).1 r hr
  · obtain ⟨⟨φ, a1, a2⟩, _⟩ := hsub j h2
    have b0 := (hI.ob j h1 h2).2
    rcases Nat.eq_zero_or_pos (qW q' j) with z | z
    · exact z
    · have := (a1 0 z).1
      omega
  · by_cases e : j = i ∧ r = p
    · obtain ⟨rfl, rfl⟩ := e
      rw [Epi]; exact hV
    · rw [H1 j r hj e] at h
      rw [Ep j r hj e]
      exact hI.pv j r hj hr h
theorem IQ.wait {q : Mem} (hW : WC q) (hI : IQ q) {i p : Nat} {V : Int32} (hi : i < nO q) (hp : p < nP q) (hn : nos q i p V = true) (hV : ptO V) : IQ (letW q i (nI p) V (qW q i)) := by
  have hl := hW.ol
  have hpl := hW.pl
  obtain ⟨n1, n2, n3⟩ := nos_t hn
  have hno : hs q i p = false := by
    cases g : hs q i p with
    | false => rfl
    | true => exact absurd ⟨rfl, rfl⟩ (n3 i hi g).1
  by_cases hx : firN (qAt q i (nI p)) (qW q i) < qW q i ∨ 10 ≤ qW q i
  · unfold letW
    rw [if_pos hx]
    exact hI
  · have hnone : ∀ k, k < qW q i → q (18 + 4 * i + 2) k ≠ nI p := fun k hk z => hx (Or.inl (firN_any.mpr (anyN_t hk (decide_eq_true z))))
    generalize hq : letW q i (nI p) V (qW q i) = q'
    have hq2 : up2 (up2 (up2 q (18 + 4 * i + 2) (qW q i) (nI p)) (18 + 4 * i + 3) (qW q i) V) (18 + 4 * i) 8 (nI (qW q i + 1)) = q' := by
      rw [← hq]
      unfold letW
      rw [if_neg hx]
    have E : ∀ c k, (c ≠ 18 + 4 * i + 2 ∨ k ≠ qW q i) → (c ≠ 18 + 4 * i + 3 ∨ k ≠ qW q i) → (c ≠ 18 + 4 * i ∨ k ≠ 8) → q' c k = q c k := fun c k h1 h2 h3 => by
      rw [← hq2, up2_o (by omega), up2_o (by omega), up2_o (by omega)]
    have E2 : q' (18 + 4 * i + 2) (qW q i) = nI p := by rw [← hq2, up2_o (by omega), up2_o (by omega), up2_s]
    have E3 : q' (18 + 4 * i + 3) (qW q i) = V := by rw [← hq2, up2_o (by omega), up2_s]
    have E8 : q' (18 + 4 * i) 8 = nI (qW q i + 1) := by rw [← hq2, up2_s]
    have eW : qW q' i = qW q i + 1 := by
      unfold qW at E8 ⊢
      rw [E8]
      exact tn_nI (by unfold qW at hx; omega)
    have eWo : ∀ j, j < 12 → j ≠ i → qW q' j = qW q j := fun j hj hji => congrArg tn (E _ _ (by omega) (by omega) (by omega))
    have eO : nO q' = nO q := congrArg tn (E 0 10 (by omega) (by omega) (by omega))
    have Hs : ∀ j r, j < 12 → hs q' j r = hs q j r := fun j r hj => by unfold hs; rw [E _ _ (by omega) (by omega) (by omega)]
    refine IQ.of hW hI (fun c k h1 h2 h3 h4 => E c k (by omega) (by omega) (by omega)) (fun r hr => nc_mono (hI.nc r hr) hl eO (fun j f hj hf => E _ _ (by omega) (by omega) (by omega)) (fun j hj g => by rw [Hs j r hj] at g; exact g)) (fun r hr => pw_same eO (E 67 r (by omega) (by omega) (by omega)) (E 68 r (by omega) (by omega) (by omega)) (fun j hj => E (18 + 4 * j + 1) r (by omega) (by omega) (by omega)) (hI.pw r hr)) (fun j hj => ?_) (fun j hj k1 k2 h1 h2 => ?_) (fun j hj k hk => ?_) (fun j hj k hk => ?_) (fun r h1 h2 => ⟨fun j hj => ?_, ?_⟩) (fun j h1 h2 => ⟨fun r hr => ?_, ?_⟩) (fun j r hj hr h => ?_)
    · have : nTaken q' j = nTaken q j := cntN_congr (fun r _ => Hs j r (by omega))
      rw [this]
      exact hI.fu j hj
    · by_cases e : j = i
      · subst e
        rw [eW] at h2
        by_cases e2 : k2 = qW q j
        · subst e2
          rw [E2, E _ _ (by omega) (by omega) (by omega)]
          exact hnone k1 h1
        · rw [E _ _ (by omega) (by omega) (by omega), E _ _ (by omega) (by omega) (by omega)]
          exact hI.qd j hj k1 k2 h1 (by omega)
      · rw [eWo j hj e] at h2
        rw [E _ _ (by omega) (by omega) (by omega), E _ _ (by omega) (by omega) (by omega)]
        exact hI.qd j hj k1 k2 h1 h2
    · rw [Hs j _ hj]
      by_cases e : j = i
      · subst e
        rw [eW] at hk
        by_cases e2 : k = qW q j
        · subst e2
          show hs q j (tn (q' (18 + 4 * j + 2) (qW q j))) = false
          rw [E2, tn_nI (by omega)]
          exact hno
        · show hs q j (tn (q' (18 + 4 * j + 2) k)) = false
          rw [E _ _ (by omega) (by omega) (by omega)]
          exact hI.qs j hj k (by omega)
      · rw [eWo j hj e] at hk
        show hs q j (tn (q' (18 + 4 * j + 2) k)) = false
        rw [E _ _ (by omega) (by omega) (by omega)]
        exact hI.qs j hj k hk
    · show tn (q' (18 + 4 * j + 2) k) < nP q ∧ _
      by_cases e : j = i
      · subst e
        rw [eW] at hk
        by_cases e2 : k = qW q j
        · subst e2
          rw [E2, E3, tn_nI (by omega)]
          exact ⟨hp, hV⟩
        · rw [E _ _ (by omega) (by omega) (by omega), E _ _ (by omega) (by omega) (by omega)]
          exact hI.ql j hj k (by omega)
      · rw [eWo j hj e] at hk
        rw [E _ _ (by omega) (by omega) (by omega), E _ _ (by omega) (by omega) (by omega)]
        exact hI.ql j hj k hk
    · rw [Hs j r hj]
      exact (hI.pb r h1 h2).1 j hj
    · rw [E 68 r (by omega) (by omega) (by omega)]
      exact (hI.pb r h1 h2).2
    · rw [Hs j r h2]
      exact (hI.ob j h1 h2).1 r hr
    · rw [eWo j h2 (by omega)]
      exact (hI.ob j h1 h2).2
    · rw [Hs j r hj] at h
      rw [E _ _ (by omega) (by omega) (by omega)]
      exact hI.pv j r hj hr h
theorem IQ.mu {q : Mem} (hW : WC q) (hI : IQ q) {i : Nat} (hi : i < nO q) : IQ (muA q i) := by
  have hl := hW.ol
  unfold muA
  by_cases hf : isFullB q i = true
  · rw [if_pos hf]; exact hI
  · rw [if_neg hf]
    split
    · rename_i h
      have h2 := firN_yes h
      have h3 := hI.ql i (by omega) _ h
      exact hI.give hW hi h3.1 h2 (by cases g : isFullB q i with | false => rfl | true => exact absurd g hf) h3.2
    · exact hI
theorem IQ.won {q : Mem} (hW : WC q) (hI : IQ q) {i p : Nat} {V : Int32} (hi : i < nO q) (hp : p < nP q) (hV : ptO V) : IQ (wonA q p i V) := by
  unfold wonA
  split
  · rename_i hn
    split
    · exact hI.wait hW hi hp hn hV
    · rename_i hf
      exact hI.give hW hi hp hn (by cases g : isFullB q i with | false => rfl | true => exact absurd g hf) hV
  · exact hI
/-- an offer at another slot -/
theorem IQ.slot {q : Mem} (hW : WC q) (hI : IQ q) {i n : Nat} (hi : i < nO q) (hn : n < 6) (hr : ∀ j, j < nO q → q (18 + 4 * j) 2 = q (18 + 4 * i) 2 → q (18 + 4 * j) 1 ≠ nI n) (hf : ∀ r, r < 10 → hs q i r = true → ∀ j, j < nO q → j ≠ i → hs q j r = true → q (18 + 4 * j) 1 ≠ nI n) : IQ (up2 q (18 + 4 * i) 1 (nI n)) := by
  have hl := hW.ol
  generalize hq : up2 q (18 + 4 * i) 1 (nI n) = q'
  have E : ∀ c k, (c ≠ 18 + 4 * i ∨ k ≠ 1) → q' c k = q c k := fun c k h => by rw [← hq, up2_o (by omega)]
  have Ei : q' (18 + 4 * i) 1 = nI n := by rw [← hq, up2_s]
  have eO : nO q' = nO q := congrArg tn (E 0 10 (by omega))
  have eP : nP q' = nP q := congrArg tn (E 0 9 (by omega))
  have eR : nR q' = nR q := congrArg tn (E 0 7 (by omega))
  have eE : nE q' = nE q := congrArg tn (E 0 8 (by omega))
  have eB : bW q' = bW q := congrArg tn (E 13 3 (by omega))
  have eW : ∀ j, qW q' j = qW q j := fun j => congrArg tn (E _ _ (by omega))
  have Hs : ∀ j r, hs q' j r = hs q j r := fun j r => by unfold hs; rw [E _ _ (by omega)]
  have e3 : ∀ j, exN q' j = exN q j ∧ zN q' j = zN q j := fun j => ⟨congrArg tn (E _ _ (by omega)), by unfold zN; rw [E _ _ (by omega)]⟩
  have e1 : ∀ j, j ≠ i → sl q' j = sl q j := fun j hj => congrArg tn (E _ _ (by omega))
  have e1i : sl q' i = n := (congrArg tn Ei).trans (tn_nI (by omega))
  have hne : ∀ j, j < nO q → q (18 + 4 * j) 1 ≠ nI n → sl q j ≠ n := fun j hj h z => h (by rw [hW.sle (by omega), z])
  obtain ⟨nc, pw, fu, qd, qs, ql, sh, pb, ob, rm, rs, rc, bp, bd, pv⟩ := hI
  refine ⟨fun r hr9 => ?_, fun r hr9 => ?_, fun j hj => ?_, fun j hj k1 k2 h1 h2 => ?_, fun j hj k hk => ?_, fun j hj k hk => ?_, fun j1 j2 h1 h2 hn h => ?_, fun r h1 h2 => ⟨fun j hj => ?_, ?_⟩, fun j h1 h2 => ⟨fun r hr9 => ?_, ?_⟩, fun j hj => ?_, fun r hr9 => ?_, fun p e hp he hx f s hf hs => ?_, fun k hk => ?_, fun j k hj hk => ?_, fun j r hj hr9 h => ?_⟩
  · intro j1 j2 h12 hj2 g1 g2
    rw [eO] at hj2
    rw [Hs] at g1 g2
    rw [(e3 j1).1, (e3 j1).2, (e3 j2).1, (e3 j2).2]
    have h0 := nc r hr9 j1 j2 h12 hj2 g1 g2
    refine ⟨?_, h0.2⟩
    by_cases c1 : j1 = i
    · subst c1
      rw [e1i, e1 j2 (by omega)]
      exact fun z => hne j2 hj2 (hf r hr9 g1 j2 hj2 (by omega) g2) z.symm
    · rw [e1 j1 c1]
      by_cases c2 : j2 = i
      · subst c2
        rw [e1i]
        exact hne j1 (by omega) (hf r hr9 g2 j1 (by omega) c1 g1)
      · rw [e1 j2 c2]
        exact h0.1
  · rw [eP] at hr9
    exact pw_same eO (E _ _ (by omega)) (E _ _ (by omega)) (fun j hj => E _ _ (by omega)) (pw r hr9)
  · rw [eO] at hj
    show nTaken q' j ≤ tn (q' (18 + 4 * j) 3)
    rw [E _ _ (by omega), show nTaken q' j = nTaken q j from cntN_congr (fun r _ => Hs j r)]
    exact fu j hj
  · rw [eW] at h2
    rw [E _ _ (by omega), E _ _ (by omega)]
    exact qd j hj k1 k2 h1 h2
  · rw [eW] at hk
    rw [Hs]
    show hs q j (tn (q' (18 + 4 * j + 2) k)) = false
    rw [E _ _ (by omega)]
    exact qs j hj k hk
  · rw [eW] at hk
    show tn (q' (18 + 4 * j + 2) k) < nP q' ∧ _
    rw [E _ _ (by omega), E _ _ (by omega), eP]
    exact ql j hj k hk
  · rw [eO] at h1 h2
    rw [E _ _ (by omega), E _ _ (by omega)] at h
    by_cases c1 : j1 = i
    · subst c1
      rw [Ei, E (18 + 4 * j2) 1 (by omega)]
      exact fun z => hr j2 h2 h.symm z.symm
    · rw [E (18 + 4 * j1) 1 (by omega)]
      by_cases c2 : j2 = i
      · subst c2
        rw [Ei]
        exact hr j1 h1 h
      · rw [E (18 + 4 * j2) 1 (by omega)]
        exact sh j1 j2 h1 h2 hn h
  · rw [Hs]
    exact (pb r (by omega) h2).1 j hj
  · rw [E _ _ (by omega)]
    exact (pb r (by omega) h2).2
  · rw [Hs]
    exact (ob j (by omega) h2).1 r hr9
  · rw [eW]
    exact (ob j (by omega) h2).2
  · rw [eO] at hj
    rw [E _ _ (by omega), E _ _ (by omega), E 66 _ (by omega), eR]
    exact rm j hj
  · rw [eR] at hr9
    rw [E _ _ (by omega)]
    exact rs r hr9
  · rw [eP, eE] at hx
    rw [E _ _ (by omega), E (3 + f) _ (by omega)]
    exact rc p e hp he hx f s hf hs
  · rw [eB] at hk
    show tn (q' 14 k) < nP q' ∧ tn (q' 15 k) < nO q' ∧ ptO (q' 16 k)
    rw [eP, eO, E _ _ (by omega), E 15 _ (by omega), E 16 _ (by omega)]
    exact bp k hk
  · rw [eB] at hk
    show tn (q' 14 j) ≠ tn (q' 14 k) ∨ tn (q' 15 j) ≠ tn (q' 15 k)
    rw [E 14 k (by omega), E 15 k (by omega), E 14 j (by omega), E 15 j (by omega)]
    exact bd j k hj hk
  · rw [Hs] at h
    rw [E _ _ (by omega)]
    exact pv j r hj hr9 h

