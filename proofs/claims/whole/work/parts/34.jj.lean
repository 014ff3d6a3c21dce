/-! behind each call -/
theorem RR.room {q b : Mem} (h : RR q b) {n : Nat} {v : Int32} (hn : n < 3) : RR (up2 (up2 q 66 n v) 0 7 (nI (n + 1))) (up2 (up2 (up2 b 70 0 0) 71 n v) 70 1 (nI (n + 1))) := by
  obtain ⟨r1, r2, r3, r4, r5, r6, r7, r8, r9, r10, r11, r12, r13, r14, r15, r16, r17, r18, r19⟩ := h
  refine ⟨?_, ?_, ?_, ?_, ?_, ?_, ?_, ?_, ?_, ?_, ?_, ?_, ?_, ?_, ?_, ?_, ?_, ?_, ?_⟩ <;> (simp only [up2]; grind)
theorem RR.exam {q b : Mem} (h : RR q b) {v : Int32} : RR (up2 q 0 8 v) (up2 (up2 b 70 0 0) 70 2 v) := by
  obtain ⟨r1, r2, r3, r4, r5, r6, r7, r8, r9, r10, r11, r12, r13, r14, r15, r16, r17, r18, r19⟩ := h
  refine ⟨?_, ?_, ?_, ?_, ?_, ?_, ?_, ?_, ?_, ?_, ?_, ?_, ?_, ?_, ?_, ?_, ?_, ?_, ?_⟩ <;> (simp only [up2]; grind)
theorem RR.pupil {q b : Mem} (h : RR q b) {n : Nat} {v : Int32} (hn : n < 10) : RR (up2 (up2 q 67 n 100) 0 9 v) (up2 (up2 (up2 b 70 0 0) 84 n 100) 70 3 v) := by
  obtain ⟨r1, r2, r3, r4, r5, r6, r7, r8, r9, r10, r11, r12, r13, r14, r15, r16, r17, r18, r19⟩ := h
  refine ⟨?_, ?_, ?_, ?_, ?_, ?_, ?_, ?_, ?_, ?_, ?_, ?_, ?_, ?_, ?_, ?_, ?_, ?_, ?_⟩ <;> (simp only [up2]; grind)
theorem RR.off {q b : Mem} (h : RR q b) {i : Nat} {e s r t z v : Int32} (hi : i < 12) : RR (up2 (up2 (up2 (up2 (up2 (up2 q (18 + 4 * i) 0 e) (18 + 4 * i) 1 s) (18 + 4 * i) 2 r) (18 + 4 * i) 3 t) (18 + 4 * i) 4 z) 0 10 v) (up2 (up2 (up2 (up2 (up2 b 72 i e) 73 i s) 74 i r) 75 i z) 70 4 v) := by
  obtain ⟨r1, r2, r3, r4, r5, r6, r7, r8, r9, r10, r11, r12, r13, r14, r15, r16, r17, r18, r19⟩ := h
  refine ⟨?_, ?_, ?_, ?_, ?_, ?_, ?_, ?_, ?_, ?_, ?_, ?_, ?_, ?_, ?_, ?_, ?_, ?_, ?_⟩ <;> (simp only [up2]; grind)
theorem RR.own1 {q b : Mem} (h : RR q b) {f : Nat} {v : Int32} (hf : f < 3) : RR (up2 q 12 f v) (up2 b 83 f v) := by
  obtain ⟨r1, r2, r3, r4, r5, r6, r7, r8, r9, r10, r11, r12, r13, r14, r15, r16, r17, r18, r19⟩ := h
  refine ⟨?_, ?_, ?_, ?_, ?_, ?_, ?_, ?_, ?_, ?_, ?_, ?_, ?_, ?_, ?_, ?_, ?_, ?_, ?_⟩ <;> (simp only [up2]; grind)
theorem JJ.W {q b : Mem} {T : Nat} (h : JJ q b T) : WC q := h.1
theorem JJ.I {q b : Mem} {T : Nat} (h : JJ q b T) : IQ q := h.2.1
theorem JJ.R {q b : Mem} {T : Nat} (h : JJ q b T) : RR q b := h.2.2.1
theorem JJ.B {q b : Mem} {T : Nat} (h : JJ q b T) : BB q b 0 T := h.2.2.2.1
theorem JJ.H {q b : Mem} {T : Nat} (h : JJ q b T) : HH q b := h.2.2.2.2
theorem lt_n {v : Int32} {n N : Nat} (h : v = nI n) (hn : n < 2 ^ 31) (hN : N < 2 ^ 31) (g : v < nI N) : n < N := by
  subst h
  exact (nI_ltI hn hN).mp g
theorem JJ_room {q b : Mem} {T : Nat} {v : Int32} (h : JJ q b T) (hg : g3_room q v = none) : JJ (a3_room q v) (up2 (up2 (up2 b 70 0 0) 71 (nR q) v) 70 1 (nI (nR q + 1))) T := by
  show JJ (up2 (up2 q 66 (nR q) v) 0 7 (nI (nR q + 1))) _ T
  obtain ⟨hW, hI, hR, hB, hH⟩ := h
  have hrl := hW.rl
  obtain ⟨g1, g2⟩ := gS_n.mp hg
  have g1 := gO_n.mp g1
  have g2 : q 0 7 < nI 3 := of_decide_eq_true (gO_n.mp g2)
  have hn : nR q < 3 := lt_n hW.re (by omega) (by decide) g2
  rw [Bool.and_eq_true, decide_eq_true_eq, decide_eq_true_eq] at g1
  have hv : 1 ≤ v := Int32.not_lt.mp g1.1
  obtain ⟨n, n1, n2, rfl⟩ := ptO_i (v := v) ⟨hv, Int32.le_trans g1.2 (by decide)⟩
  have n6 : n ≤ 6 := (nI_leI (by omega) (by decide)).mp (show nI n ≤ nI 6 from g1.2)
  refine ⟨hW.room hn, hI.room hW hn (isN.of rfl n6 (by decide)) (by rw [tn_nI (by omega)]; exact n1), hR.room hn, hB.cg ?_ ?_ ?_ ?_ ?_ ?_ ?_, hH.cg (fun p ex z _ => hsE_cg (fun c k hc => ?_) hW.ol) (fun m => ?_)⟩
  · rw [up2_o (by omega), up2_o (by omega)]
  · intro j; rw [up2_o (by omega), up2_o (by omega)]
  · intro j; rw [up2_o (by omega), up2_o (by omega)]
  · intro j; rw [up2_o (by omega), up2_o (by omega)]
  · intro j; rw [up2_o (by omega), up2_o (by omega), up2_o (by omega)]
  · intro j; rw [up2_o (by omega), up2_o (by omega), up2_o (by omega)]
  · rw [up2_o (by omega), up2_o (by omega), up2_o (by omega)]
  · rw [up2_o (by omega), up2_o (by omega)]
  · rw [up2_o (by omega), up2_o (by omega), up2_o (by omega)]
theorem JJ_exam {q b : Mem} {T : Nat} (h : JJ q b T) (hg : g3_exam q = none) : JJ (up2 q 0 8 (nI (nE q + 1))) (up2 (up2 b 70 0 0) 70 2 (nI (nE q + 1))) T := by
  obtain ⟨hW, hI, hR, hB, hH⟩ := h
  have hel := hW.el
  have g2 : q 0 8 < nI 6 := of_decide_eq_true (gO_n.mp hg)
  have hn : nE q < 6 := lt_n hW.ee (by omega) (by decide) g2
  refine ⟨hW.exam hn, hI.exam hW hn, hR.exam, hB.cg ?_ ?_ ?_ ?_ ?_ ?_ ?_, hH.cg (fun p ex z _ => hsE_cg (fun c k hc => ?_) hW.ol) (fun m => ?_)⟩
  · rw [up2_o (by omega)]
  · intro j; rw [up2_o (by omega)]
  · intro j; rw [up2_o (by omega)]
  · intro j; rw [up2_o (by omega)]
  · intro j; rw [up2_o (by omega), up2_o (by omega)]
  · intro j; rw [up2_o (by omega), up2_o (by omega)]
  · rw [up2_o (by omega), up2_o (by omega)]
  · rw [up2_o (by omega)]
  · rw [up2_o (by omega), up2_o (by omega)]
theorem JJ_pupil {q b : Mem} {T : Nat} (h : JJ q b T) (hg : g3_pupil q = none) : JJ (up2 (up2 q 67 (nP q) 100) 0 9 (nI (nP q + 1))) (up2 (up2 (up2 b 70 0 0) 84 (nP q) 100) 70 3 (nI (nP q + 1))) T := by
  obtain ⟨hW, hI, hR, hB, hH⟩ := h
  have hpl := hW.pl
  have g2 : q 0 9 < nI 10 := of_decide_eq_true (gO_n.mp hg)
  have hn : nP q < 10 := lt_n hW.pe (by omega) (by decide) g2
  refine ⟨hW.pupil hn, hI.pupil hW hn, hR.pupil hn, hB.cg ?_ ?_ ?_ ?_ ?_ ?_ ?_, hH.cg (fun p ex z _ => hsE_cg (fun c k hc => ?_) hW.ol) (fun m => ?_)⟩
  · rw [up2_o (by omega), up2_o (by omega)]
  · intro j; rw [up2_o (by omega), up2_o (by omega)]
  · intro j; rw [up2_o (by omega), up2_o (by omega)]
  · intro j; rw [up2_o (by omega), up2_o (by omega)]
  · intro j; rw [up2_o (by omega), up2_o (by omega), up2_o (by omega)]
  · intro j; rw [up2_o (by omega), up2_o (by omega), up2_o (by omega)]
  · rw [up2_o (by omega), up2_o (by omega), up2_o (by omega)]
  · rw [up2_o (by omega), up2_o (by omega)]
  · rw [up2_o (by omega), up2_o (by omega), up2_o (by omega)]
theorem inB_n {v N : Int32} {n : Nat} (h : inB v N = true) (hN : N = nI n) (hn : n < 2 ^ 31) : ∃ j, j < n ∧ v = nI j ∧ tn v = j := by
  obtain ⟨j, h1, h2⟩ := ix_of (E := eI) (gO_n.mpr h) hN hn
  exact ⟨j, h1, h2, by rw [h2]; exact tn_nI (by omega)⟩
theorem JJ_offer {q b : Mem} {T : Nat} {ex s r z : Int32} (hz : z = 0 ∨ z = 1) (h : JJ q b T) (hg : g3_offer q ex s r = none) : JJ (a3_offer q ex s r z) (up2 (up2 (up2 (up2 (up2 (up2 (up2 b 70 0 0) 70 0 0) 72 (nO q) ex) 73 (nO q) s) 74 (nO q) r) 75 (nO q) z) 70 4 (nI (nO q + 1))) T := by
  obtain ⟨hW, hI, hR, hB, hH⟩ := h
  have hol := hW.ol
  have hel := hW.el
  have hrl := hW.rl
  obtain ⟨g1, hg⟩ := gS_n.mp hg
  obtain ⟨g2, hg⟩ := gS_n.mp hg
  obtain ⟨g3, hg⟩ := gS_n.mp hg
  obtain ⟨g4, g5⟩ := gS_n.mp hg
  obtain ⟨je, j1, rfl, j3⟩ := inB_n (gO_n.mp g1) hW.ee (by omega)
  obtain ⟨jr, r1, rfl, r3⟩ := inB_n (gO_n.mp g2) hW.re (by omega)
  obtain ⟨js, s1, rfl, s3⟩ := inB_n (N := 6) (n := 6) (gO_n.mp g3) rfl (by decide)
  have g4 := gO_n.mp g4
  rw [Bool.and_eq_true] at g4
  have g5 : q 0 10 < nI 12 := of_decide_eq_true (gO_n.mp g5)
  have hn : nO q < 12 := lt_n hW.oe (by omega) (by decide) g5
  have hno : anyN (rtB q (nI jr) (nI js)) (nO q) = false := by simpa using g4.2
  have hst := hI.rs jr r1
  have hW2 : WC (a3_offer q (nI je) (nI js) (nI jr) z) := hW.offer hn (isN.of rfl (by omega) (by decide)) (isN.of rfl (by omega) (by decide)) hz (by rw [r3]; exact hst.1)
  have hI2 := hI.offer hW (e1 := nI je) (s1 := nI js) (r1 := nI jr) (z1 := z) hn (isN.of rfl (by omega) (by decide)) (by rw [r3]; exact r1) hno
  have E : ∀ c k, ((c ≠ 18 + 4 * nO q ∨ k = 8) ∧ (c ≠ 0 ∨ k ≠ 10)) → a3_offer q (nI je) (nI js) (nI jr) z c k = q c k := fun c k h => by
    unfold a3_offer a3_open
    rw [up2_o (by omega), up2_o (by omega), up2_o (by omega), up2_o (by omega), up2_o (by omega), up2_o (by omega)]
  refine ⟨hW2, hI2, hR.off hn, hB.cg (E _ _ (by omega)) (fun j => E _ _ (by omega)) (fun j => E _ _ (by omega)) (fun j => E _ _ (by omega)) ?_ ?_ ?_, hH.cg (fun p ex z2 hp => ?_) (fun m => ?_)⟩
  · intro j; rw [up2_o (by omega), up2_o (by omega), up2_o (by omega), up2_o (by omega), up2_o (by omega), up2_o (by omega), up2_o (by omega)]
  · intro j; rw [up2_o (by omega), up2_o (by omega), up2_o (by omega), up2_o (by omega), up2_o (by omega), up2_o (by omega), up2_o (by omega)]
  · rw [up2_o (by omega), up2_o (by omega), up2_o (by omega), up2_o (by omega), up2_o (by omega), up2_o (by omega), up2_o (by omega)]
  · have eO : nO (a3_offer q (nI je) (nI js) (nI jr) z) = nO q + 1 := (congrArg tn (show a3_offer q (nI je) (nI js) (nI jr) z 0 10 = nI (nO q + 1) from up2_s)).trans (tn_nI (by omega))
    unfold hsE
    rw [eO, anyN]
    have e1 : hs (a3_offer q (nI je) (nI js) (nI jr) z) (nO q) p = false := by
      rw [hs_f, E _ _ (by omega)]
      exact hs_f.mp ((hI.ob (nO q) (Nat.le_refl _) hn).1 p hp)
    have e2 : hfB (a3_offer q (nI je) (nI js) (nI jr) z) p ex z2 (nO q) = false := by
      unfold hfB
      rw [e1, Bool.and_false]
    rw [e2, Bool.false_and, Bool.or_false]
    apply anyN_congr
    intro i hi
    have e : sl (a3_offer q (nI je) (nI js) (nI jr) z) i = sl q i := congrArg tn (E _ _ (by omega))
    unfold hfB isOfB hs clB
    rw [E _ _ (by omega), E (18 + 4 * i) 4 (by omega), E (18 + 4 * i + 1) p (by omega), e, E 69 _ (by omega)]
  · rw [up2_o (by omega), up2_o (by omega), up2_o (by omega), up2_o (by omega), up2_o (by omega), up2_o (by omega), up2_o (by omega)]
theorem JJ_write {q b : Mem} {T : Nat} {t p e f v : Int32} (h : JJ q b T) (hg : g3_write q t p e f v = none) : JJ (up2 q (3 + (tn t * 3 + fNat f)) (tn p * 6 + tn e) v) (up2 (up2 b 70 0 0) 82 (((tn t * 10 + tn p) * 6 + tn e) * 3 + fNat f) v) T := by
  obtain ⟨hW, hI, hR, hB, hH⟩ := h
  have hel := hW.el
  have hpl := hW.pl
  obtain ⟨g1, hg⟩ := gS_n.mp hg
  obtain ⟨g2, hg⟩ := gS_n.mp hg
  obtain ⟨g3, hg⟩ := gS_n.mp hg
  obtain ⟨jt, t1, -, t3⟩ := inB_n (N := 3) (n := 3) (gO_n.mp g1) rfl (by decide)
  obtain ⟨jp, p1, -, p3⟩ := inB_n (gO_n.mp g2) hW.pe (by omega)
  obtain ⟨je, e1, -, e3⟩ := inB_n (gO_n.mp g3) hW.ee (by omega)
  have hf := fNat_l f
  rw [t3, p3, e3]
  refine ⟨hW.wr t1 hf, hI.wr hW t1 p1 e1 hf, hR.th.vl1 t1 (by omega) (by omega) hf, hB.cg ?_ ?_ ?_ ?_ ?_ ?_ ?_, hH.cg (fun p ex z _ => hsE_cg (fun c k hc => ?_) hW.ol) (fun m => ?_)⟩
  · rw [up2_o (by omega)]
  · intro j; rw [up2_o (by omega)]
  · intro j; rw [up2_o (by omega)]
  · intro j; rw [up2_o (by omega)]
  · intro j; rw [up2_o (by omega), up2_o (by omega)]
  · intro j; rw [up2_o (by omega), up2_o (by omega)]
  · rw [up2_o (by omega), up2_o (by omega)]
  · rw [up2_o (by omega)]
  · rw [up2_o (by omega), up2_o (by omega)]
theorem JJ_setOwner {q b : Mem} {T : Nat} {f t : Int32} (h : JJ q b T) (hg : g3_setOwner q f t = none) : JJ (up2 q 12 (fNat f) t) (up2 (up2 b 70 0 0) 83 (fNat f) t) T := by
  obtain ⟨hW, hI, hR, hB, hH⟩ := h
  obtain ⟨g1, hg⟩ := gS_n.mp hg
  obtain ⟨g2, hg⟩ := gS_n.mp hg
  obtain ⟨jt, t1, rfl, t3⟩ := inB_n (N := 3) (n := 3) (gO_n.mp g2) rfl (by decide)
  have hf := fNat_l f
  refine ⟨hW.own1 (isN.of rfl (by omega) (by decide)), hI.ow hW, hR.th.own1 hf, hB.cg ?_ ?_ ?_ ?_ ?_ ?_ ?_, hH.cg (fun p ex z _ => hsE_cg (fun c k hc => ?_) hW.ol) (fun m => ?_)⟩
  · rw [up2_o (by omega)]
  · intro j; rw [up2_o (by omega)]
  · intro j; rw [up2_o (by omega)]
  · intro j; rw [up2_o (by omega)]
  · intro j; rw [up2_o (by omega), up2_o (by omega)]
  · intro j; rw [up2_o (by omega), up2_o (by omega)]
  · rw [up2_o (by omega), up2_o (by omega)]
  · rw [up2_o (by omega)]
  · rw [up2_o (by omega), up2_o (by omega)]
theorem BB.ks {q q' b b' : Mem} {T : Nat} (h : BB q b 0 T) (k : KS b b') (E : ∀ c j, 13 ≤ c → c < 17 → q' c j = q c j) : BB q' b' 0 T := h.cg (E _ _ (by omega) (by omega)) (fun j => E _ _ (by omega) (by omega)) (fun j => E _ _ (by omega) (by omega)) (fun j => E _ _ (by omega) (by omega)) k.1 k.2.1 k.2.2
theorem KQ.ks {b b' : Mem} (h : KQ b b') : KS b b' := ⟨h.1, h.2.1, h.2.2.2⟩
theorem JJ_sync {q b b' : Mem} {T : Nat} {t u : Int32} (h : JJ q b T) (hg : g3_sync t u = none) (hK : KQ b b') (hR2 : RR (cpO q (tn t) (tn u) 3) b') : JJ (cpO q (tn t) (tn u) 3) b' T := by
  obtain ⟨hW, hI, hR, hB, hH⟩ := h
  obtain ⟨g1, hg⟩ := gS_n.mp hg
  obtain ⟨g2, hg⟩ := gS_n.mp hg
  obtain ⟨jt, t1, rfl, t3⟩ := inB_n (N := 3) (n := 3) (gO_n.mp g1) rfl (by decide)
  obtain ⟨ju, u1, rfl, u3⟩ := inB_n (N := 3) (n := 3) (gO_n.mp g2) rfl (by decide)
  have hne : ¬ nI jt = nI ju := of_decide_eq_true (gO_n.mp hg)
  rw [t3, u3] at hR2 ⊢
  exact ⟨hW.sync t1 u1, hI.sync hW t1 u1 (fun z => hne (by rw [z])), hR2, hB.ks hK.ks (fun c j h1 h2 => cpO_x 3 _ _ (by omega)), hH.cg (fun p ex z _ => hsE_cg (fun c k hc => cpO_x 3 _ _ (by omega)) hW.ol) hK.2.2.1⟩
theorem JJ_sit {q b b' : Mem} {T : Nat} {s : Int32} (h : JJ q b T) (hg : g3_sit q s = none) (hK : KS b b') (hR2 : RR (up2 (siK q s (nO q)) 69 (tn s) 1) b') (hH2 : HH (up2 (siK q s (nO q)) 69 (tn s) 1) b') : JJ (up2 (siK q s (nO q)) 69 (tn s) 1) b' T := by
  obtain ⟨hW, hI, hR, hB, hH⟩ := h
  have hol := hW.ol
  have hW1 := hW.si (s := s) (nO q) hol
  have hI1 := hI.si hW (s := s) (nO q) hol
  exact ⟨hW1.s69, hI1.s69 hW1, hR2, hB.ks hK (fun c j h1 h2 => (up2_o (by omega)).trans (siK_s _ (by omega) (by omega) (by omega))), hH2⟩
theorem JJ_settle {q b b' : Mem} {T : Nat} (h : JJ q b T) (hR2 : RR (a3_settle q) b') (h86 : ∀ k, b' 86 k = b 86 k) (h7 : b' 70 7 = b 70 7) (h79 : ∀ m, m < 120 → b' 79 m = 0) : JJ (a3_settle q) b' T := by
  obtain ⟨hW, hI, hR, hB, hH⟩ := h
  have hbl := hW.bl
  have hW1 := (stK_all hW (bW q) (Nat.le_refl _)).1
  have hI1 := hI.st hW (bW q) (Nat.le_refl _)
  have e0 : bW (a3_settle q) = 0 := congrArg tn (show a3_settle q 13 3 = 0 from (up2_o (by omega)).trans up2_s)
  refine ⟨hW1.b0, hI1.b0 hW1, hR2, ⟨by rw [h7]; exact hB.tl, fun j _ hj => ?_, fun m hm _ => h79 m hm, fun j hj => ?_, fun i j hi hj => ?_⟩, hH.cg (fun p ex z _ => (hsE_cg (fun c k hc => ?_) hW1.ol).trans (hsE_st hW hI (bW q) (Nat.le_refl _))) h86⟩
  · rw [e0] at hj; omega
  · rw [e0] at hj; omega
  · rw [e0] at hj; omega
  · unfold a3_settle
    rw [up2_o (by omega), up2_o (by omega)]
theorem gu_o {q : Mem} {p i c k : Nat} (h : c ≠ 67 ∧ c ≠ 68 ∧ (c ≠ 0 ∨ k ≠ 12) ∧ c ≠ 18 + 4 * i + 1) : guA q p i c k = q c k := by
  unfold guA payA
  rw [up2_o (by omega), up2_o (by omega), up2_o (by omega), up2_o (by omega)]
theorem JJ_giveUp {q b b' : Mem} {T : Nat} {p w : Int32} (h : JJ q b T) (hg : g3_giveUp q p w = none) (hK : KQ b b') (hR2 : RR (muA (guA q (tn p) (tn w)) (tn w)) b') : JJ (muA (guA q (tn p) (tn w)) (tn w)) b' T := by
  obtain ⟨hW, hI, hR, hB, hH⟩ := h
  have hol := hW.ol
  have hpl := hW.pl
  obtain ⟨g1, hg⟩ := gS_n.mp hg
  obtain ⟨g2, hg⟩ := gS_n.mp hg
  obtain ⟨jp, p1, rfl, p3⟩ := inB_n (gO_n.mp g1) hW.pe (by omega)
  obtain ⟨iw, w1, rfl, w3⟩ := inB_n (gO_n.mp g2) hW.oe (by omega)
  have hg := gO_n.mp hg
  rw [p3, w3, Bool.and_eq_true] at hg
  rw [p3, w3] at hR2 ⊢
  have hc : clB q iw = false := by simpa using hg.1
  have hW1 := hW.gu (p := jp) (i := iw) (by omega)
  have hI1 := hI.gu hW (p := jp) (i := iw) (by omega) (by omega) hg.2
  have hO : nO (guA q jp iw) = nO q := gu_O (by omega)
  refine ⟨hW1.mu (by omega), hI1.mu hW1 (by omega), hR2, hB.ks hK.ks (fun c j h1 h2 => (mu_o (by omega) (by omega) (by omega) (by omega)).trans (gu_o (by omega))), hH.cg (fun r ex z _ => (hsE_mu hW1 (by omega)).trans ?_) hK.2.2.1⟩
  exact hsE_un hW (by omega) hc
theorem JJ_move {q b b' : Mem} {T : Nat} {w s : Int32} (h : JJ q b T) (hg : g3_move q w s = none) (hK : KQ b b') (hR2 : RR (a3_move q (tn w) s) b') : JJ (a3_move q (tn w) s) b' T := by
  obtain ⟨hW, hI, hR, hB, hH⟩ := h
  have hol := hW.ol
  have hpl := hW.pl
  obtain ⟨g1, hg⟩ := gS_n.mp hg
  obtain ⟨g2, hg⟩ := gS_n.mp hg
  obtain ⟨iw, w1, rfl, w3⟩ := inB_n (gO_n.mp g1) hW.oe (by omega)
  obtain ⟨js, s1, rfl, s3⟩ := inB_n (N := 6) (n := 6) (gO_n.mp g2) rfl (by decide)
  have hg := gO_n.mp hg
  rw [w3, s3, Bool.and_eq_true, Bool.and_eq_true] at hg
  rw [w3] at hR2 ⊢
  obtain ⟨⟨c1, c2⟩, c3⟩ := hg
  have hc : clB q iw = false := by simpa using c1
  have h0 : q 69 js = 0 := of_decide_eq_true c2
  have hno : anyN (rtB q (q (18 + 4 * iw) 2) (nI js)) (nO q) = false := by simpa using c3
  have hW0 := hW.mv (i := iw) (s := nI js) (by omega) (nP q)
  have hW1 : WC (mvA q iw (nI js)) := hW0.slot (by omega) s1
  have hI1 := hI.mvA hW w1 s1 hno
  have hO0 : nO (mvK q iw (nI js) (nP q)) = nO q := congrArg tn (mvK_s (nP q) (by omega) (by omega) (by omega))
  have hO : nO (mvA q iw (nI js)) = nO q := (congrArg tn (up2_o (by omega))).trans hO0
  have hma := ma_all (i := iw) (by omega) (stN (mvA q iw (nI js)) iw) (mvA q iw (nI js)) hW1 hI1 (by omega)
  have hc0 : clB (mvK q iw (nI js) (nP q)) iw = false := by
    rcases mvK_cl (q := q) (i := iw) (s := nI js) (nP q) (j := iw) (by omega) with e | e
    · rw [e]; exact hc
    · omega
  refine ⟨hma.1, hma.2, hR2, hB.ks hK.ks (fun c j h1 h2 => (ma_o (by omega) (by omega) (by omega) _ _ (by omega)).trans ((up2_o (by omega)).trans (mvK_s _ (by omega) (by omega) (by omega)))), hH.cg (fun r ex z _ => (hsE_ma (by omega) _ _ hW1 hI1 (by omega)).trans ((hsE_slot hW0 (by omega) s1 hc0 ((mvK_s _ (by omega) (by omega) (by omega)).trans h0)).trans (hsE_mv hW (by omega) hc _))) hK.2.2.1⟩

