def KQ (b b' : Mem) : Prop := (∀ k, b' 79 k = b 79 k) ∧ (∀ k, b' 80 k = b 80 k) ∧ (∀ k, b' 86 k = b 86 k) ∧ b' 70 7 = b 70 7
theorem KQ.rf {b : Mem} : KQ b b := ⟨fun _ => rfl, fun _ => rfl, fun _ => rfl, rfl⟩
theorem KQ.tr {b b1 b2 : Mem} (h : KQ b b1) (g : KQ b1 b2) : KQ b b2 := ⟨fun k => (g.1 k).trans (h.1 k), fun k => (g.2.1 k).trans (h.2.1 k), fun k => (g.2.2.1 k).trans (h.2.2.1 k), g.2.2.2.trans h.2.2.2⟩
theorem KQ.up {b : Mem} {c k : Nat} {v : Int32} (h : c ≠ 79 ∧ c ≠ 80 ∧ c ≠ 86 ∧ (c ≠ 70 ∨ k ≠ 7)) : KQ b (up2 b c k v) := ⟨fun j => up2_o (by omega), fun j => up2_o (by omega), fun j => up2_o (by omega), up2_o (by omega)⟩
theorem KQ.th {b : Mem} {v : Int32} : KQ b (up2 b 70 0 v) := KQ.up (by omega)
theorem KP.kq {b b' : Mem} (h : KP b b') : KQ b b' := ⟨h.1, h.2.1, h.2.2.1, h.2.2.2.2⟩
theorem KP.br {b : Mem} {p : Nat} {v : Int32} : KP b (brB b p v) := (KP.up (by omega)).tr (KP.up (by omega))
/-- a call's end: its word, its answer, and how the cells stand behind -/
def OPM (L : List String) (g : Option String) (F : Int32) (q q' b a : Mem) : Int32 → Mem → Mem → Prop := fun r a2 b2 => a2 = a ∧ r = rd g F ∧ b2 70 0 = cd L g ∧ KQ b b2 ∧ (g = none → RR q' b2) ∧ (g ≠ none → RR q b2)
theorem RR.un {q b : Mem} (h : RR q b) {p i : Nat} {w x : Int32} (hp : p < 10) (hi : i < 12) : RR (payA (up2 q (18 + 4 * i + 1) p w) p x) (up2 (brB b p x) 81 (p * 12 + i) w) := by
  obtain ⟨r1, r2, r3, r4, r5, r6, r7, r8, r9, r10, r11, r12, r13, r14, r15, r16, r17, r18, r19⟩ := h
  refine ⟨?_, ?_, ?_, ?_, ?_, ?_, ?_, ?_, ?_, ?_, ?_, ?_, ?_, ?_, ?_, ?_, ?_, ?_, ?_⟩ <;> (simp only [payA, brB, up2]; grind)
theorem RR.f68 {q b : Mem} (h : RR q b) {p : Nat} {v : Int32} : RR (up2 q 68 p v) b := by
  obtain ⟨r1, r2, r3, r4, r5, r6, r7, r8, r9, r10, r11, r12, r13, r14, r15, r16, r17, r18, r19⟩ := h
  refine ⟨?_, ?_, ?_, ?_, ?_, ?_, ?_, ?_, ?_, ?_, ?_, ?_, ?_, ?_, ?_, ?_, ?_, ?_, ?_⟩ <;> (simp only [up2]; grind)
theorem RR.gu {q b : Mem} (h : RR q b) {p i : Nat} (hp : p < 10) (hi : i < 12) : RR (guA q p i) (up2 (brB b p (q (18 + 4 * i + 1) p / 2)) 81 (p * 12 + i) (-1)) := (h.un hp hi).f68
theorem RR.slot {q b : Mem} (h : RR q b) {i : Nat} {v : Int32} (hi : i < 12) : RR (up2 q (18 + 4 * i) 1 v) (up2 b 73 i v) := by
  obtain ⟨r1, r2, r3, r4, r5, r6, r7, r8, r9, r10, r11, r12, r13, r14, r15, r16, r17, r18, r19⟩ := h
  refine ⟨?_, ?_, ?_, ?_, ?_, ?_, ?_, ?_, ?_, ?_, ?_, ?_, ?_, ?_, ?_, ?_, ?_, ?_, ?_⟩ <;> (simp only [up2]; grind)
theorem gu_O {q : Mem} {p i : Nat} (hi : i < 12) : nO (guA q p i) = nO q := by
  refine congrArg tn (?_ : guA q p i 0 10 = q 0 10)
  unfold guA payA
  rw [up2_o (by omega), up2_o (by omega), up2_o (by omega), up2_o (by omega)]
theorem mvK_hs {q : Mem} {i p : Nat} {s : Int32} (hi : i < 12) : hs (mvK q i s p) i p = hs q i p := by
  unfold hs
  rw [mvK_s p (by omega) (by omega) (by omega)]
theorem IQ.mv {q : Mem} (hW : WC q) (hI : IQ q) {i : Nat} {s : Int32} (hi : i < 12) : ∀ n, n ≤ 10 → IQ (mvK q i s n) := by
  intro n
  induction n with
  | zero => intro _; exact hI
  | succ n ih =>
    intro hn
    simp only [mvK]
    split
    · rename_i h
      exact (ih (by omega)).lost (hW.mv hi n) hi (by omega) (by rw [mvK_hs hi]; exact h)
    · exact ih (by omega)
theorem mvK_sj {q : Mem} {i j p : Nat} {s : Int32} (n : Nat) (hi : i < 12) (hj : j < 12) (hji : j ≠ i) : mvK q i s n (18 + 4 * j + 1) p = q (18 + 4 * j + 1) p := by
  induction n with
  | zero => rfl
  | succ n ih =>
    simp only [mvK]
    split
    · rw [lostA_s (by omega)]; exact ih
    · exact ih
theorem mvK_st {q : Mem} {i p : Nat} {s : Int32} (hi : i < 12) : ∀ n, p < n → mvK q i s n (18 + 4 * i + 1) p = mvK q i s (p + 1) (18 + 4 * i + 1) p := by
  intro n
  induction n with
  | zero => intro h; omega
  | succ n ih =>
    intro h
    by_cases e : n = p
    · subst e; rfl
    · rw [← ih (by omega)]
      simp only [mvK]
      split
      · exact lostA_s (show 18 + 4 * i + 1 ≠ 67 ∧ (18 + 4 * i + 1 ≠ 0 ∨ p ≠ 12) ∧ (18 + 4 * i + 1 ≠ 18 + 4 * i + 1 ∨ p ≠ n) by omega)
      · rfl
/-- who keeps the seat of an offer that moves has none at its new slot -/
theorem mv_free {q : Mem} (hW : WC q) (hI : IQ q) {i r j : Nat} {s : Int32} (hi : i < 12) (hr : r < nP q) (h : hs (mvK q i s (nP q)) i r = true) (hj : j < nO q) (hji : j ≠ i) (hs2 : hs (mvK q i s (nP q)) j r = true) : q (18 + 4 * j) 1 ≠ s := by
  have hl := hW.ol
  intro z
  have h1 : hs q j r = true := by
    unfold hs at hs2 ⊢
    rw [mvK_sj _ hi (by omega) hji] at hs2
    exact hs2
  have h2 := hs_t.mp h
  rw [mvK_st hi _ hr] at h2
  simp only [mvK] at h2
  by_cases g : hs q i r = true
  · rw [if_pos g] at h2
    have h3 : lostB (mvK q i s r) r s = true := by
      unfold lostB
      have eO : nO (mvK q i s r) = nO q := congrArg tn (mvK_s r (by omega) (by omega) (by omega))
      rw [eO]
      refine anyN_t hj ?_
      unfold haB hs
      rw [mvK_sj _ hi (by omega) hji, mvK_s r (by omega) (by omega) (by omega), z]
      unfold hs at h1
      rw [h1]
      simp
    unfold lostA payA at h2
    rw [if_pos h3, up2_o (by omega), up2_o (by omega), up2_s] at h2
    exact h2 rfl
  · rw [if_neg g, mvK_s r (by omega) (by omega) (by omega)] at h2
    exact g (hs_t.mpr h2)
theorem IQ.mvA {q : Mem} (hW : WC q) (hI : IQ q) {i n : Nat} (hi : i < nO q) (hn : n < 6) (h : anyN (rtB q (q (18 + 4 * i) 2) (nI n)) (nO q) = false) : IQ (mvA q i (nI n)) := by
  have hl := hW.ol
  have hpl := hW.pl
  have eO : nO (mvK q i (nI n) (nP q)) = nO q := congrArg tn (mvK_s (nP q) (by omega) (by omega) (by omega))
  have eP : nP (mvK q i (nI n) (nP q)) = nP q := congrArg tn (mvK_s (nP q) (by omega) (by omega) (by omega))
  have ef : ∀ j f, mvK q i (nI n) (nP q) (18 + 4 * j) f = q (18 + 4 * j) f ∨ 12 ≤ j := fun j f => by
    by_cases h : 12 ≤ j
    · exact Or.inr h
    · exact Or.inl (mvK_s (nP q) (by omega) (by omega) (by omega))
  have ef2 : ∀ j f, j < 12 → mvK q i (nI n) (nP q) (18 + 4 * j) f = q (18 + 4 * j) f := fun j f hj => mvK_s (nP q) (by omega) (by omega) (by omega)
  have hI2 := hI.mv hW (i := i) (s := nI n) (by omega) (nP q) hpl
  refine hI2.slot (hW.mv (by omega) _) (by omega) hn (fun j hj hr z => ?_) (fun r hr g j hj hji g2 => ?_)
  · rw [ef2 j 2 (by omega), ef2 i 2 (by omega)] at hr
    rw [ef2 j 1 (by omega)] at z
    have := anyN_f.mp h j (by omega)
    simp [rtB, hr, z] at this
  · rw [ef2 j 1 (by omega)]
    have hrP := (hI2.hsl (by omega) hr g).2
    exact mv_free hW hI (by omega) (by omega) g (by omega) hji g2
theorem mu_m1 {q : Mem} (hW : WC q) {i : Nat} (hi : i < 12) (h : muF q i = -1) : muA q i = q := by
  unfold muF at h
  unfold muA
  by_cases g : isFullB q i = true
  · rw [if_pos g]
  · rw [if_neg g] at h ⊢
    by_cases g2 : firN (muK q i) (qW q i) < qW q i
    · rw [if_pos g2, hW.wte hi g2] at h
      exact absurd h (nI_ne_m1 (by have := hW.wtl hi g2; omega))
    · rw [if_neg g2]
theorem mu_more {q : Mem} (hW : WC q) (hI : IQ q) {i : Nat} (hi : i < nO q) (h : ¬ muF q i = -1) : nTaken q i < stN q i ∧ nTaken (muA q i) i = nTaken q i + 1 ∧ stN (muA q i) i = stN q i ∧ nO (muA q i) = nO q := by
  have hl := hW.ol
  by_cases g : isFullB q i = true
  · exact absurd (mu_full g).1 h
  · have gf : isFullB q i = false := by cases g2 : isFullB q i with | false => rfl | true => exact absurd g2 g
    by_cases g2 : firN (muK q i) (qW q i) < qW q i
    · have hy := firN_yes g2
      have hp := hW.wtl (i := i) (by omega) g2
      have e : muA q i = giveA q i (wtN q i (firN (muK q i) (qW q i))) (q (18 + 4 * i + 3) (firN (muK q i) (qW q i))) := by
        unfold muA
        rw [if_neg g, if_pos g2]
      have hV := (hI.ql i (by omega) _ g2).2
      have hno : hs q i (wtN q i (firN (muK q i) (qW q i))) = false := hI.qs i (by omega) _ g2
      rw [e]
      generalize wtN q i (firN (muK q i) (qW q i)) = p at hp hno
      generalize q (18 + 4 * i + 3) (firN (muK q i) (qW q i)) = V at hV
      have E : ∀ c k, (c < 18 ∨ 66 ≤ c ∨ ((c - 18) % 4 = 0 ∧ k ≠ 8) ∨ (c - 18) % 4 = 1) → giveA q i p V c k = gv1 q i p V c k := fun c k h => gvA_01 h (by omega)
      refine ⟨full_f hW (by omega) gf, ?_, congrArg tn ((E _ _ (by omega)).trans ((up2_o (by omega)).trans (up2_o (by omega)))), congrArg tn ((E _ _ (by omega)).trans ((up2_o (by omega)).trans (up2_o (by omega))))⟩
      refine cnt_add1 (c := p) hno (hs_t.mpr (by rw [E _ _ (by omega)]; rw [show gv1 q i p V (18 + 4 * i + 1) p = V from up2_s]; exact ptO_n hV)) (fun r hr => ?_) 10 (by omega)
      unfold hs
      rw [E _ _ (by omega), show gv1 q i p V (18 + 4 * i + 1) r = q (18 + 4 * i + 1) r from (up2_o (by omega)).trans (up2_o (by omega))]
    · refine absurd ?_ h
      unfold muF
      rw [if_neg g, if_neg g2]
theorem lostA_t {q : Mem} {i p : Nat} {s : Int32} (h : lostB q p s = true) : lostA q i p s = payA (up2 q (18 + 4 * i + 1) p (-1)) p (q (18 + 4 * i + 1) p) := if_pos h
theorem lostA_f {q : Mem} {i p : Nat} {s : Int32} (h : lostB q p s = false) : lostA q i p s = payA (up2 q (18 + 4 * i + 1) p (q (18 + 4 * i + 1) p - q (18 + 4 * i + 1) p / 2)) p (q (18 + 4 * i + 1) p / 2) := if_neg (by rw [h]; decide)

set_option maxHeartbeats 4000000 in
set_option maxRecDepth 100000 in
theorem c_X4_giveUp {l : Launch} {x : Sh} {a b : Mem} {o : Out} (hfl : l.stackTraces = false) {q : Mem} (hW : WC q) (hI : IQ q) (hR : RR q b) {p w : Int32} : MG l x yX4_giveUp cX4_giveUp 3 (some .int) 7 320 [.ref (x.2.1 70), .int p, .int w] a b o (QI x o (OPM [eI, eU] (g3_giveUp q p w) (muF (guA q (tn p) (tn w)) (tn w)) q (muA (guA q (tn p) (tn w)) (tn w)) b a)) := by
  refine MG.of (maxL := 3) (ret := (some .int)) hfl (by decide) [some (.ref (x.2.1 70)), some (.int p), some (.int w)] rfl rfl (Nat.le_of_ble_eq_true rfl) ?_
  intro pP eE sS mM argsA belowB methM cC C hr
  have ho12 := hW.ol
  have hp10 := hW.pl
  have he6 := hW.el
  obtain ⟨gg, hG⟩ : ∃ gg, gg = (g3_giveUp q p w) := ⟨_, rfl⟩
  rw [← hG]
  refine V_aload_n C dX4_giveUp_0 rfl ?_
  refine V_aload_n C dX4_giveUp_1 rfl ?_
  refine V_iload_n C dX4_giveUp_2 rfl ?_
  refine V_callf (R_V C (c_X4_isPupil hfl hW hI hR) mi_X4_isPupil mk_X4_90 rfl (by omega) rfl (rfl : vwCl[6]? = some (RX4, TX4, 24)) (by decide) rfl (Nat.le_of_ble_eq_true rfl) (by decide) dX4_giveUp_3) ?_
  refine V_ifb_eq C 17 dX4_giveUp_6 (by decide) (fun h6 => ?_) (fun h6 => ?_)
  · refine V_iconst (v := 1) C dX4_giveUp_17 (by decide) ?_
    refine V_goto C 22 dX4_giveUp_18 (by decide) ?_
    refine pt_X4_thrown C fk_X4_59 dX4_giveUp_22 ?_
    refine V_aload_n C dX4_giveUp_25 rfl ?_
    refine gt_X4_thrown C fk_X4_59 dX4_giveUp_26 ?_
    refine V_topi (show _ = (1 : Int32) from rfl) ?_
    refine V_if_ne C 69 dX4_giveUp_29 (by decide) (fun h29 => ?_) (fun h29 => ?_)
    · refine V_aload_n C dX4_giveUp_69 rfl ?_
      refine gt_X4_thrown C fk_X4_59 dX4_giveUp_70 ?_
      refine V_topi (show _ = (1 : Int32) from rfl) ?_
      refine V_if_le C 78 dX4_giveUp_73 (by decide) (fun h73 => ?_) (fun h73 => ?_)
      · exact absurd h73 (by decide)
      · refine V_iconst (v := 0) C dX4_giveUp_76 (by decide) ?_
        have hg : gg = some eI := hG.trans (by first | (simp [g3_giveUp, gS, gO, h6, h29, h73]; done) | (simp [g3_giveUp, gS, gO, tjp, tiw, h6, h29, h73]; done) | (simp [g3_giveUp, gS, gO, tjp, tiw, hx, h6, h29, h73]; done))
        exact V_ireti C hr dX4_giveUp_77 ⟨rfl, by rw [hg]; rfl, by rw [hg]; rfl, (by first | exact KQ.th | exact KQ.th.tr KQ.th), fun z => (by rw [hg] at z; cases z), fun _ => hR⟩
    · exact absurd h29 (by decide)
  · obtain ⟨jp, hjp, jpe⟩ := ix_of (E := eI) (gO_n.mpr h6) hW.pe (by omega)
    subst jpe
    have tjp : tn (nI jp) = jp := tn_nI (by omega)
    try rw [tjp]
    refine V_aload_n C dX4_giveUp_9 rfl ?_
    refine V_iload_n C dX4_giveUp_10 rfl ?_
    refine V_callf (R_V C (c_X4_isOffer hfl hW hI hR) mi_X4_isOffer mk_X4_93 rfl (by omega) rfl (rfl : vwCl[6]? = some (RX4, TX4, 24)) (by decide) rfl (Nat.le_of_ble_eq_true rfl) (by decide) dX4_giveUp_11) ?_
    refine V_ifb_ne C 21 dX4_giveUp_14 (by decide) (fun h14 => ?_) (fun h14 => ?_)
    · obtain ⟨iw, hiw, iwe⟩ := ix_of (E := eI) (gO_n.mpr h14) hW.oe (by omega)
      subst iwe
      have tiw : tn (nI iw) = iw := tn_nI (by omega)
      try rw [tiw]
      have hs5 := hW.sll (i := iw) (by omega)
      refine V_iconst (v := 0) C dX4_giveUp_21 (by decide) ?_
      refine pt_X4_thrown C fk_X4_59 dX4_giveUp_22 ?_
      refine V_aload_n C dX4_giveUp_25 rfl ?_
      refine gt_X4_thrown C fk_X4_59 dX4_giveUp_26 ?_
      refine V_topi (show _ = (0 : Int32) from rfl) ?_
      refine V_if_ne C 69 dX4_giveUp_29 (by decide) (fun h29 => ?_) (fun h29 => ?_)
      · exact absurd h29 (by decide)
      · refine V_aload_n C dX4_giveUp_32 rfl ?_
        refine V_aload_n C dX4_giveUp_33 rfl ?_
        refine gt_X4_isSat C fk_X4_53 dX4_giveUp_34 ?_
        refine V_aload_n C dX4_giveUp_37 rfl ?_
        refine gt_X4_slot C fk_X4_16 dX4_giveUp_38 ?_
        refine V_iload_n C dX4_giveUp_41 rfl ?_
        refine la_m_slot C _ rfl (by omega) dX4_giveUp_42 ?_
        refine V_topi ((hR.th.sl (by omega)).trans (hW.sle (by omega))) ?_
        refine la_m_isSat C _ rfl (by omega) dX4_giveUp_43 ?_
        refine V_topi (hR.th.sat (by omega)) ?_
        refine V_if_ne C 61 dX4_giveUp_44 (by decide) (fun h44 => ?_) (fun h44 => ?_)
        · have h44 : clB q iw = true := decide_eq_true h44
          refine V_iconst (v := 2) C dX4_giveUp_61 (by decide) ?_
          refine V_goto C 66 dX4_giveUp_62 (by decide) ?_
          refine pt_X4_thrown C fk_X4_59 dX4_giveUp_66 ?_
          refine V_aload_n C dX4_giveUp_69 rfl ?_
          refine gt_X4_thrown C fk_X4_59 dX4_giveUp_70 ?_
          refine V_topi (show _ = (2 : Int32) from rfl) ?_
          refine V_if_le C 78 dX4_giveUp_73 (by decide) (fun h73 => ?_) (fun h73 => ?_)
          · exact absurd h73 (by decide)
          · refine V_iconst (v := 0) C dX4_giveUp_76 (by decide) ?_
            have hg : gg = some eU := hG.trans (by first | (simp [g3_giveUp, gS, gO, h6, h14, h29, h44, h73]; done) | (simp [g3_giveUp, gS, gO, tjp, tiw, h6, h14, h29, h44, h73]; done) | (simp [g3_giveUp, gS, gO, tjp, tiw, hx, h6, h14, h29, h44, h73]; done))
            exact V_ireti C hr dX4_giveUp_77 ⟨rfl, by rw [hg]; rfl, by rw [hg]; rfl, (by first | exact KQ.th | exact KQ.th.tr KQ.th), fun z => (by rw [hg] at z; cases z), fun _ => hR⟩
        · have h44 : clB q iw = false := decide_eq_false (fun z => z h44)
          refine V_aload_n C dX4_giveUp_47 rfl ?_
          refine gt_X4_paid C fk_X4_41 dX4_giveUp_48 ?_
          refine V_iload_n C dX4_giveUp_51 rfl ?_
          refine V_iload_n C dX4_giveUp_52 rfl ?_
          refine V_callf (R_S C (c_X4_pair hfl) mi_X4_pair mk_X4_96 rfl (by decide) rfl (Nat.le_of_ble_eq_true rfl) (by decide) dX4_giveUp_53) ?_
          refine la_m_paid C _ rfl (by omega) dX4_giveUp_56 ?_
          refine V_topi (hR.th.pd (by omega) (by omega)) ?_
          refine V_iconst (v := -1) C dX4_giveUp_57 (by decide) ?_
          refine V_icmp_ne C 65 dX4_giveUp_58 (by decide) (fun h58 => ?_) (fun h58 => ?_)
          · have hx : hs q iw jp = true := hs_t.mpr h58
            refine V_iconst (v := 0) C dX4_giveUp_65 (by decide) ?_
            refine pt_X4_thrown C fk_X4_59 dX4_giveUp_66 ?_
            refine V_aload_n C dX4_giveUp_69 rfl ?_
            refine gt_X4_thrown C fk_X4_59 dX4_giveUp_70 ?_
            refine V_topi (show _ = (0 : Int32) from rfl) ?_
            refine V_if_le C 78 dX4_giveUp_73 (by decide) (fun h73 => ?_) (fun h73 => ?_)
            · refine V_aload_n C dX4_giveUp_78 rfl ?_
              refine V_iload_n C dX4_giveUp_79 rfl ?_
              refine V_aload_n C dX4_giveUp_80 rfl ?_
              refine gt_X4_paid C fk_X4_41 dX4_giveUp_81 ?_
              refine V_iload_n C dX4_giveUp_84 rfl ?_
              refine V_iload_n C dX4_giveUp_85 rfl ?_
              refine V_callf (R_S C (c_X4_pair hfl) mi_X4_pair mk_X4_96 rfl (by decide) rfl (Nat.le_of_ble_eq_true rfl) (by decide) dX4_giveUp_86) ?_
              refine la_m_paid C _ rfl (by omega) dX4_giveUp_89 ?_
              refine V_topi (hR.th.th.pd (by omega) (by omega)) ?_
              refine V_iconst (v := 2) C dX4_giveUp_90 (by decide) ?_
              refine V_idiv C dX4_giveUp_91 (by decide) ?_
              refine V_callfv (R_V C (c_X4_bring hfl (by omega)) mi_X4_bring mk_X4_162 rfl (by omega) rfl (rfl : vwCl[6]? = some (RX4, TX4, 24)) (by decide) rfl (Nat.le_of_ble_eq_true rfl) (by decide) dX4_giveUp_92) ?_
              refine V_aload_n C dX4_giveUp_95 rfl ?_
              refine gt_X4_paid C fk_X4_41 dX4_giveUp_96 ?_
              refine V_iload_n C dX4_giveUp_99 rfl ?_
              refine V_iload_n C dX4_giveUp_100 rfl ?_
              refine V_callf (R_S C (c_X4_pair hfl) mi_X4_pair mk_X4_96 rfl (by decide) rfl (Nat.le_of_ble_eq_true rfl) (by decide) dX4_giveUp_101) ?_
              refine V_iconst (v := -1) C dX4_giveUp_104 (by decide) ?_
              refine sa_m_paid C _ rfl (by omega) dX4_giveUp_105 ?_
              refine V_aload_n C dX4_giveUp_106 rfl ?_
              refine V_iload_n C dX4_giveUp_107 rfl ?_
              refine V_calli (R_V C (c_X4_movesUp hfl (hW.gu (p := jp) (i := iw) (by omega)) (hI.gu hW (p := jp) (i := iw) (by omega) (by omega) hx) (hR.th.th.gu (p := jp) (i := iw) (by omega) (by omega)) (by rw [gu_O (by omega)]; omega)) mi_X4_movesUp mk_X4_165 rfl (by omega) rfl (rfl : vwCl[6]? = some (RX4, TX4, 24)) (by decide) rfl (Nat.le_of_ble_eq_true rfl) (by decide) dX4_giveUp_108) (fun r2 a2 b2 hh => ?_)
              obtain ⟨hr2, rfl, hR2, hK2⟩ := hh
              have hg : gg = none := hG.trans (by first | (simp [g3_giveUp, gS, gO, h6, h14, h29, h44, h58, h73]; done) | (simp [g3_giveUp, gS, gO, tjp, tiw, h6, h14, h29, h44, h58, h73]; done) | (simp [g3_giveUp, gS, gO, tjp, tiw, hx, h6, h14, h29, h44, h58, h73]; done))
              exact V_ireti C hr dX4_giveUp_111 ⟨rfl, by rw [hg]; exact hr2, by rw [hg]; exact hK2.2.2.2.1, ((KQ.th.tr KQ.th).tr (KP.br.kq.tr (KQ.up (by omega)))).tr hK2.kq, fun _ => hR2, fun z => absurd hg z⟩
            · exact absurd h73 (by decide)
          · have hx : hs q iw jp = false := hs_f.mpr h58
            refine V_iconst (v := 2) C dX4_giveUp_61 (by decide) ?_
            refine V_goto C 66 dX4_giveUp_62 (by decide) ?_
            refine pt_X4_thrown C fk_X4_59 dX4_giveUp_66 ?_
            refine V_aload_n C dX4_giveUp_69 rfl ?_
            refine gt_X4_thrown C fk_X4_59 dX4_giveUp_70 ?_
            refine V_topi (show _ = (2 : Int32) from rfl) ?_
            refine V_if_le C 78 dX4_giveUp_73 (by decide) (fun h73 => ?_) (fun h73 => ?_)
            · exact absurd h73 (by decide)
            · refine V_iconst (v := 0) C dX4_giveUp_76 (by decide) ?_
              have hg : gg = some eU := hG.trans (by first | (simp [g3_giveUp, gS, gO, h6, h14, h29, h44, h58, h73]; done) | (simp [g3_giveUp, gS, gO, tjp, tiw, h6, h14, h29, h44, h58, h73]; done) | (simp [g3_giveUp, gS, gO, tjp, tiw, hx, h6, h14, h29, h44, h58, h73]; done))
              exact V_ireti C hr dX4_giveUp_77 ⟨rfl, by rw [hg]; rfl, by rw [hg]; rfl, (by first | exact KQ.th | exact KQ.th.tr KQ.th), fun z => (by rw [hg] at z; cases z), fun _ => hR⟩
    · refine V_iconst (v := 1) C dX4_giveUp_17 (by decide) ?_
      refine V_goto C 22 dX4_giveUp_18 (by decide) ?_
      refine pt_X4_thrown C fk_X4_59 dX4_giveUp_22 ?_
      refine V_aload_n C dX4_giveUp_25 rfl ?_
      refine gt_X4_thrown C fk_X4_59 dX4_giveUp_26 ?_
      refine V_topi (show _ = (1 : Int32) from rfl) ?_
      refine V_if_ne C 69 dX4_giveUp_29 (by decide) (fun h29 => ?_) (fun h29 => ?_)
      · refine V_aload_n C dX4_giveUp_69 rfl ?_
        refine gt_X4_thrown C fk_X4_59 dX4_giveUp_70 ?_
        refine V_topi (show _ = (1 : Int32) from rfl) ?_
        refine V_if_le C 78 dX4_giveUp_73 (by decide) (fun h73 => ?_) (fun h73 => ?_)
        · exact absurd h73 (by decide)
        · refine V_iconst (v := 0) C dX4_giveUp_76 (by decide) ?_
          have hg : gg = some eI := hG.trans (by first | (simp [g3_giveUp, gS, gO, h6, h14, h29, h73]; done) | (simp [g3_giveUp, gS, gO, tjp, tiw, h6, h14, h29, h73]; done) | (simp [g3_giveUp, gS, gO, tjp, tiw, hx, h6, h14, h29, h73]; done))
          exact V_ireti C hr dX4_giveUp_77 ⟨rfl, by rw [hg]; rfl, by rw [hg]; rfl, (by first | exact KQ.th | exact KQ.th.tr KQ.th), fun z => (by rw [hg] at z; cases z), fun _ => hR⟩
      · exact absurd h29 (by decide)
set_option maxHeartbeats 4000000 in
set_option maxRecDepth 100000 in
theorem c_X4_move {l : Launch} {x : Sh} {a b : Mem} {o : Out} (hfl : l.stackTraces = false) {q : Mem} (hW : WC q) (hI : IQ q) (hR : RR q b) {w s : Int32} : MG l x yX4_move cX4_move 6 (some .int) 8 360 [.ref (x.2.1 70), .int w, .int s] a b o (QI x o (OPM [eI, eA, eU] (g3_move q w s) (nI (mvC q (tn w) s (nP q))) q (a3_move q (tn w) s) b a)) := by
  refine MG.of (maxL := 6) (ret := (some .int)) hfl (by decide) [some (.ref (x.2.1 70)), some (.int w), some (.int s), none, none, none] rfl rfl (Nat.le_of_ble_eq_true rfl) ?_
  intro pP eE sS mM argsA belowB methM cC C hr
  have ho12 := hW.ol
  have hp10 := hW.pl
  have he6 := hW.el
  obtain ⟨gg, hG⟩ : ∃ gg, gg = (g3_move q w s) := ⟨_, rfl⟩
  rw [← hG]
  refine V_aload_n C dX4_move_0 rfl ?_
  refine V_aload_n C dX4_move_1 rfl ?_
  refine V_iload_n C dX4_move_2 rfl ?_
  refine V_callf (R_V C (c_X4_isOffer hfl hW hI hR) mi_X4_isOffer mk_X4_93 rfl (by omega) rfl (rfl : vwCl[6]? = some (RX4, TX4, 24)) (by decide) rfl (Nat.le_of_ble_eq_true rfl) (by decide) dX4_move_3) ?_
  refine V_ifb_ne C 13 dX4_move_6 (by decide) (fun h6 => ?_) (fun h6 => ?_)
  · obtain ⟨iw, hiw, iwe⟩ := ix_of (E := eI) (gO_n.mpr h6) hW.oe (by omega)
    subst iwe
    have tiw : tn (nI iw) = iw := tn_nI (by omega)
    try rw [tiw]
    have hs5 := hW.sll (i := iw) (by omega)
    refine V_iload_n C dX4_move_13 rfl ?_
    refine V_callf (R_S C (c_X4_isSlot hfl) mi_X4_isSlot mk_X4_83 rfl (by decide) rfl (Nat.le_of_ble_eq_true rfl) (by decide) dX4_move_14) ?_
    refine V_ifb_ne C 24 dX4_move_17 (by decide) (fun h17 => ?_) (fun h17 => ?_)
    · obtain ⟨sy, hsy, sye⟩ := ix_of (N := 6) (E := eI) (gO_n.mpr h17) rfl (by decide)
      subst sye
      have tsy : tn (nI sy) = sy := tn_nI (by omega)
      try rw [tsy]
      refine V_iconst (v := 0) C dX4_move_24 (by decide) ?_
      refine pt_X4_thrown C fk_X4_59 dX4_move_25 ?_
      refine V_aload_n C dX4_move_28 rfl ?_
      refine gt_X4_thrown C fk_X4_59 dX4_move_29 ?_
      refine V_topi (show _ = (0 : Int32) from rfl) ?_
      refine V_if_ne C 91 dX4_move_32 (by decide) (fun h32 => ?_) (fun h32 => ?_)
      · exact absurd h32 (by decide)
      · refine V_aload_n C dX4_move_35 rfl ?_
        refine V_aload_n C dX4_move_36 rfl ?_
        refine gt_X4_isSat C fk_X4_53 dX4_move_37 ?_
        refine V_aload_n C dX4_move_40 rfl ?_
        refine gt_X4_slot C fk_X4_16 dX4_move_41 ?_
        refine V_iload_n C dX4_move_44 rfl ?_
        refine la_m_slot C _ rfl (by omega) dX4_move_45 ?_
        refine V_topi ((hR.th.sl (by omega)).trans (hW.sle (by omega))) ?_
        refine la_m_isSat C _ rfl (by omega) dX4_move_46 ?_
        refine V_topi (hR.th.sat (by omega)) ?_
        refine V_if_ne C 83 dX4_move_47 (by decide) (fun h47 => ?_) (fun h47 => ?_)
        · have h47 : clB q iw = true := decide_eq_true h47
          refine V_iconst (v := 3) C dX4_move_83 (by decide) ?_
          refine V_goto C 88 dX4_move_84 (by decide) ?_
          refine pt_X4_thrown C fk_X4_59 dX4_move_88 ?_
          refine V_aload_n C dX4_move_91 rfl ?_
          refine gt_X4_thrown C fk_X4_59 dX4_move_92 ?_
          refine V_topi (show _ = (3 : Int32) from rfl) ?_
          refine V_if_le C 100 dX4_move_95 (by decide) (fun h95 => ?_) (fun h95 => ?_)
          · exact absurd h95 (by decide)
          · refine V_iconst (v := 0) C dX4_move_98 (by decide) ?_
            have hg : gg = some eU := hG.trans (by first | (simp [g3_move, gS, gO, h6, h17, h32, h47, h95]; done) | (simp [g3_move, gS, gO, tiw, tsy, h6, h17, h32, h47, h95]; done))
            exact V_ireti C hr dX4_move_99 ⟨rfl, by rw [hg]; rfl, by rw [hg]; rfl, (by first | exact KQ.th | exact KQ.th.tr KQ.th), fun z => (by rw [hg] at z; cases z), fun _ => hR⟩
        · have h47 : clB q iw = false := decide_eq_false (fun z => z h47)
          refine V_aload_n C dX4_move_50 rfl ?_
          refine gt_X4_slot C fk_X4_16 dX4_move_51 ?_
          refine V_iload_n C dX4_move_54 rfl ?_
          refine la_m_slot C _ rfl (by omega) dX4_move_55 ?_
          refine V_topi (hR.th.sl (by omega)) ?_
          refine V_iload_n C dX4_move_56 rfl ?_
          refine V_icmp_eq C 83 dX4_move_57 (by decide) (fun h57 => ?_) (fun h57 => ?_)
          · have h57 : anyN (rtB q (q (18 + 4 * iw) 2) (nI sy)) (nO q) = true := anyN_t (i := iw) (by omega) (by simp [rtB, h57])
            refine V_iconst (v := 3) C dX4_move_83 (by decide) ?_
            refine V_goto C 88 dX4_move_84 (by decide) ?_
            refine pt_X4_thrown C fk_X4_59 dX4_move_88 ?_
            refine V_aload_n C dX4_move_91 rfl ?_
            refine gt_X4_thrown C fk_X4_59 dX4_move_92 ?_
            refine V_topi (show _ = (3 : Int32) from rfl) ?_
            refine V_if_le C 100 dX4_move_95 (by decide) (fun h95 => ?_) (fun h95 => ?_)
            · exact absurd h95 (by decide)
            · refine V_iconst (v := 0) C dX4_move_98 (by decide) ?_
              have hg : gg = some eU := hG.trans (by first | (simp [g3_move, gS, gO, h6, h17, h32, h47, h57, h95]; done) | (simp [g3_move, gS, gO, tiw, tsy, h6, h17, h32, h47, h57, h95]; done))
              exact V_ireti C hr dX4_move_99 ⟨rfl, by rw [hg]; rfl, by rw [hg]; rfl, (by first | exact KQ.th | exact KQ.th.tr KQ.th), fun z => (by rw [hg] at z; cases z), fun _ => hR⟩
          · have h57 : True := trivial
            refine V_aload_n C dX4_move_60 rfl ?_
            refine gt_X4_isSat C fk_X4_53 dX4_move_61 ?_
            refine V_iload_n C dX4_move_64 rfl ?_
            refine la_m_isSat C _ rfl (by omega) dX4_move_65 ?_
            refine V_topi (hR.th.sat (by omega)) ?_
            refine V_if_ne C 83 dX4_move_66 (by decide) (fun h66 => ?_) (fun h66 => ?_)
            · refine V_iconst (v := 3) C dX4_move_83 (by decide) ?_
              refine V_goto C 88 dX4_move_84 (by decide) ?_
              refine pt_X4_thrown C fk_X4_59 dX4_move_88 ?_
              refine V_aload_n C dX4_move_91 rfl ?_
              refine gt_X4_thrown C fk_X4_59 dX4_move_92 ?_
              refine V_topi (show _ = (3 : Int32) from rfl) ?_
              refine V_if_le C 100 dX4_move_95 (by decide) (fun h95 => ?_) (fun h95 => ?_)
              · exact absurd h95 (by decide)
              · refine V_iconst (v := 0) C dX4_move_98 (by decide) ?_
                have hg : gg = some eU := hG.trans (by first | (simp [g3_move, gS, gO, h6, h17, h32, h47, h57, h66, h95]; done) | (simp [g3_move, gS, gO, tiw, tsy, h6, h17, h32, h47, h57, h66, h95]; done))
                exact V_ireti C hr dX4_move_99 ⟨rfl, by rw [hg]; rfl, by rw [hg]; rfl, (by first | exact KQ.th | exact KQ.th.tr KQ.th), fun z => (by rw [hg] at z; cases z), fun _ => hR⟩
            · refine V_aload_n C dX4_move_69 rfl ?_
              refine V_aload_n C dX4_move_70 rfl ?_
              refine gt_X4_room C fk_X4_19 dX4_move_71 ?_
              refine V_iload_n C dX4_move_74 rfl ?_
              refine la_m_room C _ rfl (by omega) dX4_move_75 ?_
              refine V_topi (hR.th.rm (by omega)) ?_
              refine V_iload_n C dX4_move_76 rfl ?_
              refine V_callf (R_V C (c_X4_isTaken hfl hW hI hR.th) mi_X4_isTaken mk_X4_86 rfl (by omega) rfl (rfl : vwCl[6]? = some (RX4, TX4, 24)) (by decide) rfl (Nat.le_of_ble_eq_true rfl) (by decide) dX4_move_77) ?_
              refine V_ifb_eq C 87 dX4_move_80 (by decide) (fun h80 => ?_) (fun h80 => ?_)
              · refine V_iconst (v := 0) C dX4_move_87 (by decide) ?_
                refine pt_X4_thrown C fk_X4_59 dX4_move_88 ?_
                refine V_aload_n C dX4_move_91 rfl ?_
                refine gt_X4_thrown C fk_X4_59 dX4_move_92 ?_
                refine V_topi (show _ = (0 : Int32) from rfl) ?_
                refine V_if_le C 100 dX4_move_95 (by decide) (fun h95 => ?_) (fun h95 => ?_)
                · refine V_iconst (v := nI 0) C dX4_move_100 (by decide) ?_
                  refine V_istore_n3 C dX4_move_101 (by decide) ?_
                  refine V_iconst (v := nI 0) C dX4_move_102 (by decide) ?_
                  refine V_istore_4 C dX4_move_103 (by decide) ?_
                  have L105 : ∀ (fuel : Nat) (k : Nat) (b2 : Mem), k ≤ nP q → RR (mvK q iw (nI sy) k) b2 → KQ b b2 → b2 70 0 = 0 → nP q - k < fuel → VV pP l eE ({ frames := 8, cells := 0, slots := 0, locals := 360 } : Room) sS mM argsA belowB methM cC (MQ belowB (QI x o (OPM [eI, eA, eU] gg (nI (mvC q (iw) (nI sy) (nP q))) q (a3_move q (iw) (nI sy)) b a) sS.heap.size) argsA sS 0 0 (AW x sS.heap.size)) x 6 a b2 o 0 0 105 [some (.ref (x.2.1 70)), some (.int (nI iw)), some (.int (nI sy)), some (.int (nI (mvC q iw (nI sy) k))), some (.int (nI k)), none] [] := by
                    intro fuel
                    induction fuel with
                    | zero => intro k b2 hk hR2 hK2 ht2 hm; exact absurd hm (Nat.not_lt_zero _)
                    | succ fuel ih105 =>
                      intro k b2 hk hR2 hK2 ht2 hm
                      refine V_iload C dX4_move_105 rfl ?_
                      refine V_aload_n C dX4_move_107 rfl ?_
                      refine gt_X4_pupils C fk_X4_63 dX4_move_108 ?_
                      refine V_topi ((hR2.c3.trans (mvK_s k (by omega) (by omega) (by omega))).trans hW.pe) ?_
                      refine V_lt C 210 dX4_move_111 (by decide) (by omega) (by omega) (fun h111 => ?_) (fun h111 => ?_)
                      · have e9 : k = nP q := by omega
                        subst e9
                        have hRm : RR (mvA q iw (nI sy)) (up2 b2 73 iw (nI sy)) := hR2.slot (by omega)
                        have hWm : WC (mvA q iw (nI sy)) := (hW.mv (by omega) (nP q)).slot (by omega) (by omega)
                        have hIm := hI.mvA hW (i := iw) (n := sy) (by omega) (by omega) h80
                        have hOm : iw < nO (mvA q iw (nI sy)) := by
                          have : nO (mvA q iw (nI sy)) = nO q := congrArg tn ((up2_o (by omega)).trans (mvK_s (nP q) (by omega) (by omega) (by omega)))
                          omega
                        refine V_aload_n C dX4_move_210 rfl ?_
                        refine gt_X4_slot C fk_X4_16 dX4_move_211 ?_
                        refine V_iload_n C dX4_move_214 rfl ?_
                        refine V_iload_n C dX4_move_215 rfl ?_
                        refine sa_m_slot C _ rfl (by omega) dX4_move_216 ?_
                        refine V_aload_n C dX4_move_217 rfl ?_
                        refine V_iload_n C dX4_move_218 rfl ?_
                        refine V_calli (R_V C (c_X4_movesUp hfl hWm hIm hRm hOm) mi_X4_movesUp mk_X4_165 rfl (by omega) rfl (rfl : vwCl[6]? = some (RX4, TX4, 24)) (by decide) rfl (Nat.le_of_ble_eq_true rfl) (by decide) dX4_move_219) (fun r3 a3 b3 hh => ?_)
                        obtain ⟨hr3, ha3, hR3, hK3⟩ := hh
                        replace ha3 := ha3.symm
                        subst ha3
                        rw [hr3]
                        refine V_istore_4 C dX4_move_222 (by decide) ?_
                        have L224 : ∀ (fuel : Nat) (n2 : Nat) (Z b2 : Mem), maR iw n2 Z = a3_move q iw (nI sy) → stN Z iw - nTaken Z iw ≤ n2 → WC Z → IQ Z → iw < nO Z → RR (muA Z iw) b2 → KQ b b2 → b2 70 0 = 0 → n2 < fuel → VV pP l eE ({ frames := 8, cells := 0, slots := 0, locals := 360 } : Room) sS mM argsA belowB methM cC (MQ belowB (QI x o (OPM [eI, eA, eU] gg (nI (mvC q (iw) (nI sy) (nP q))) q (a3_move q (iw) (nI sy)) b a) sS.heap.size) argsA sS 0 0 (AW x sS.heap.size)) x 6 a b2 o 0 0 224 [some (.ref (x.2.1 70)), some (.int (nI iw)), some (.int (nI sy)), some (.int (nI (mvC q iw (nI sy) (nP q)))), some (.int (muF Z iw)), none] [] := by
                          intro fuel
                          induction fuel with
                          | zero => intro n2 Z b2 hmz hn2 hWz0 hIz0 hOz0 hR2 hK2 ht2 hm; exact absurd hm (Nat.not_lt_zero _)
                          | succ fuel ih224 =>
                            intro n2 Z b2 hmz hn2 hWz0 hIz0 hOz0 hR2 hK2 ht2 hm
                            refine V_iload C dX4_move_224 rfl ?_
                            refine V_iconst (v := -1) C dX4_move_226 (by decide) ?_
                            refine V_icmp_eq C 240 dX4_move_227 (by decide) (fun h227 => ?_) (fun h227 => ?_)
                            · refine V_iload_n C dX4_move_240 rfl ?_
                              have hg : gg = none := hG.trans (by first | (simp [g3_move, gS, gO, h6, h17, h32, h47, h57, h66, h80, h95, h111, h227]; done) | (simp [g3_move, gS, gO, tiw, tsy, h6, h17, h32, h47, h57, h66, h80, h95, h111, h227]; done))
                              exact V_ireti C hr dX4_move_241 ⟨rfl, by rw [hg]; rfl, by rw [hg]; exact ht2, hK2, fun _ => (by
                                rw [← hmz]
                                cases n2 with
                                | zero => rw [mu_m1 hWz0 (by omega) h227] at hR2; exact hR2
                                | succ m2 => rw [maR, if_pos h227]; exact hR2), fun z => absurd hg z⟩
                            · obtain ⟨hm1, hm2, hm3, hm4⟩ := mu_more hWz0 hIz0 hOz0 h227
                              obtain ⟨m2, rfl⟩ : ∃ m2, n2 = m2 + 1 := ⟨n2 - 1, by omega⟩
                              have hWz := hWz0.mu (i := iw) (by omega)
                              have hIz := hIz0.mu hWz0 hOz0
                              have hOz : iw < nO (muA Z iw) := by rw [hm4]; exact hOz0
                              refine V_aload_n C dX4_move_230 rfl ?_
                              refine V_iload_n C dX4_move_231 rfl ?_
                              refine V_calli (R_V C (c_X4_movesUp hfl hWz hIz hR2 hOz) mi_X4_movesUp mk_X4_165 rfl (by omega) rfl (rfl : vwCl[6]? = some (RX4, TX4, 24)) (by decide) rfl (Nat.le_of_ble_eq_true rfl) (by decide) dX4_move_232) (fun r3 a3 b3 hh => ?_)
                              obtain ⟨hr3, ha3, hR3, hK3⟩ := hh
                              replace ha3 := ha3.symm
                              subst ha3
                              rw [hr3]
                              refine V_istore_4 C dX4_move_235 (by decide) ?_
                              refine V_goto C 224 dX4_move_237 (by decide) ?_
                              exact ih224 m2 (muA Z iw) b3 (by rw [← hmz, maR, if_neg h227]) (by omega) hWz hIz hOz hR3 (hK2.tr hK3.kq) (hK3.2.2.2.1.trans ht2) (by omega)
                        exact L224 _ (stN (mvA q iw (nI sy)) iw) (mvA q iw (nI sy)) _ rfl (Nat.sub_le _ _) hWm hIm hOm hR3 ((hK2.tr (KQ.up (by omega))).tr hK3.kq) (hK3.2.2.2.1.trans ht2) (Nat.lt_succ_self _)
                      · refine V_aload_n C dX4_move_114 rfl ?_
                        refine gt_X4_paid C fk_X4_41 dX4_move_115 ?_
                        refine V_iload C dX4_move_118 rfl ?_
                        refine V_iload_n C dX4_move_120 rfl ?_
                        refine V_callf (R_S C (c_X4_pair hfl) mi_X4_pair mk_X4_96 rfl (by decide) rfl (Nat.le_of_ble_eq_true rfl) (by decide) dX4_move_121) ?_
                        refine la_m_paid C _ rfl (by omega) dX4_move_124 ?_
                        refine V_topi ((hR2.pd (by omega) (by omega)).trans (mvK_s k (by omega) (by omega) (by omega))) ?_
                        refine V_istore_5 C dX4_move_125 (by decide) ?_
                        refine V_iload C dX4_move_127 rfl ?_
                        refine V_iconst (v := -1) C dX4_move_129 (by decide) ?_
                        refine V_icmp_eq C 170 dX4_move_130 (by decide) (fun h130 => ?_) (fun h130 => ?_)
                        · refine V_iload C dX4_move_170 rfl ?_
                          refine V_iconst (v := -1) C dX4_move_172 (by decide) ?_
                          refine V_icmp_eq C 204 dX4_move_173 (by decide) (fun h173 => ?_) (fun h173 => ?_)
                          · refine V_iinc_4 C _ dX4_move_204 (nI_1 _) (by decide) ?_
                            refine V_goto C 105 dX4_move_207 (by decide) ?_
                            refine V_forget (lvLe.same (lvLe.same (lvLe.same (lvLe.same (lvLe.same (lvLe.drop lvLe.nil)))))) ?_
                            have eO : nO (mvK q iw (nI sy) k) = nO q := congrArg tn (mvK_s k (by omega) (by omega) (by omega))
                            have ek : mvK q iw (nI sy) k (18 + 4 * iw + 1) k = q (18 + 4 * iw + 1) k := mvK_s k (by omega) (by omega) (by omega)
                            first
                              | (have q1 : hs q iw k = true := hs_t.mpr h130
                                 have q2 : lostB (mvK q iw (nI sy) k) k (nI sy) = true := by
                                   unfold lostB
                                   cases hx : anyN (haB (mvK q iw (nI sy) k) k (nI sy)) (nO (mvK q iw (nI sy) k)) with
                                   | true => rfl
                                   | false => exact absurd ((fI_any (by omega)).mpr hx) h141
                                 have e1 : mvK q iw (nI sy) (k + 1) = lostA (mvK q iw (nI sy) k) iw k (nI sy) := if_pos q1
                                 have e2 : mvC q iw (nI sy) (k + 1) = mvC q iw (nI sy) k + 1 := by rw [mvC, q1, q2]; rfl
                                 have hR3 := hR2.un (p := k) (i := iw) (w := -1) (x := q (18 + 4 * iw + 1) k) (by omega) (by omega)
                                 have ih := ih105 (k + 1) (up2 (brB b2 k (q (18 + 4 * iw + 1) k)) 81 (k * 12 + iw) (-1)) (by omega) (by rw [e1, lostA_t q2, ek]; exact hR3) (hK2.tr (KP.br.kq.tr (KQ.up (by omega)))) ht2 (by omega)
                                 rw [e2] at ih
                                 exact ih)
                              | (have q1 : hs q iw k = true := hs_t.mpr h130
                                 have q2 : lostB (mvK q iw (nI sy) k) k (nI sy) = false := (fI_any (by omega)).mp h141
                                 have e1 : mvK q iw (nI sy) (k + 1) = lostA (mvK q iw (nI sy) k) iw k (nI sy) := if_pos q1
                                 have e2 : mvC q iw (nI sy) (k + 1) = mvC q iw (nI sy) k := by rw [mvC, q1, q2]; rfl
                                 have hR3 := hR2.un (p := k) (i := iw) (w := q (18 + 4 * iw + 1) k - q (18 + 4 * iw + 1) k / 2) (x := q (18 + 4 * iw + 1) k / 2) (by omega) (by omega)
                                 have ih := ih105 (k + 1) (up2 (brB b2 k (q (18 + 4 * iw + 1) k / 2)) 81 (k * 12 + iw) (q (18 + 4 * iw + 1) k - q (18 + 4 * iw + 1) k / 2)) (by omega) (by rw [e1, lostA_f q2, ek]; exact hR3) (hK2.tr (KP.br.kq.tr (KQ.up (by omega)))) ht2 (by omega)
                                 rw [e2] at ih
                                 exact ih)
                              | (have q1 : hs q iw k = false := hs_f.mpr h130
                                 have e1 : mvK q iw (nI sy) (k + 1) = mvK q iw (nI sy) k := if_neg (by rw [q1]; decide)
                                 have e2 : mvC q iw (nI sy) (k + 1) = mvC q iw (nI sy) k := by rw [mvC, q1]; rfl
                                 have ih := ih105 (k + 1) _ (by omega) (by rw [e1]; exact hR2) hK2 ht2 (by omega)
                                 rw [e2] at ih
                                 exact ih)
                          · exact absurd h130 h173
                        · refine V_aload_n C dX4_move_133 rfl ?_
                          refine V_iload C dX4_move_134 rfl ?_
                          refine V_iload_n C dX4_move_136 rfl ?_
                          refine V_callf (R_V C (c_X4_offerAt hfl (hW.mv (by omega) k) (hI.mv hW (by omega) k (by omega)) hR2 (by omega)) mi_X4_offerAt mk_X4_153 rfl (by omega) rfl (rfl : vwCl[6]? = some (RX4, TX4, 24)) (by decide) rfl (Nat.le_of_ble_eq_true rfl) (by decide) dX4_move_137) ?_
                          refine V_iconst (v := -1) C dX4_move_140 (by decide) ?_
                          refine V_icmp_eq C 170 dX4_move_141 (by decide) (fun h141 => ?_) (fun h141 => ?_)
                          · refine V_iload C dX4_move_170 rfl ?_
                            refine V_iconst (v := -1) C dX4_move_172 (by decide) ?_
                            refine V_icmp_eq C 204 dX4_move_173 (by decide) (fun h173 => ?_) (fun h173 => ?_)
                            · exact absurd h173 h130
                            · refine V_aload_n C dX4_move_176 rfl ?_
                              refine V_iload C dX4_move_177 rfl ?_
                              refine V_iload C dX4_move_179 rfl ?_
                              refine V_iconst (v := 2) C dX4_move_181 (by decide) ?_
                              refine V_idiv C dX4_move_182 (by decide) ?_
                              refine V_callfv (R_V C (c_X4_bring hfl (by omega)) mi_X4_bring mk_X4_162 rfl (by omega) rfl (rfl : vwCl[6]? = some (RX4, TX4, 24)) (by decide) rfl (Nat.le_of_ble_eq_true rfl) (by decide) dX4_move_183) ?_
                              refine V_aload_n C dX4_move_186 rfl ?_
                              refine gt_X4_paid C fk_X4_41 dX4_move_187 ?_
                              refine V_iload C dX4_move_190 rfl ?_
                              refine V_iload_n C dX4_move_192 rfl ?_
                              refine V_callf (R_S C (c_X4_pair hfl) mi_X4_pair mk_X4_96 rfl (by decide) rfl (Nat.le_of_ble_eq_true rfl) (by decide) dX4_move_193) ?_
                              refine V_iload C dX4_move_196 rfl ?_
                              refine V_iload C dX4_move_198 rfl ?_
                              refine V_iconst (v := 2) C dX4_move_200 (by decide) ?_
                              refine V_idiv C dX4_move_201 (by decide) ?_
                              refine V_isub C dX4_move_202 ?_
                              refine sa_m_paid C _ rfl (by omega) dX4_move_203 ?_
                              refine V_iinc_4 C _ dX4_move_204 (nI_1 _) (by decide) ?_
                              refine V_goto C 105 dX4_move_207 (by decide) ?_
                              refine V_forget (lvLe.same (lvLe.same (lvLe.same (lvLe.same (lvLe.same (lvLe.drop lvLe.nil)))))) ?_
                              have eO : nO (mvK q iw (nI sy) k) = nO q := congrArg tn (mvK_s k (by omega) (by omega) (by omega))
                              have ek : mvK q iw (nI sy) k (18 + 4 * iw + 1) k = q (18 + 4 * iw + 1) k := mvK_s k (by omega) (by omega) (by omega)
                              first
                                | (have q1 : hs q iw k = true := hs_t.mpr h130
                                   have q2 : lostB (mvK q iw (nI sy) k) k (nI sy) = true := by
                                     unfold lostB
                                     cases hx : anyN (haB (mvK q iw (nI sy) k) k (nI sy)) (nO (mvK q iw (nI sy) k)) with
                                     | true => rfl
                                     | false => exact absurd ((fI_any (by omega)).mpr hx) h141
                                   have e1 : mvK q iw (nI sy) (k + 1) = lostA (mvK q iw (nI sy) k) iw k (nI sy) := if_pos q1
                                   have e2 : mvC q iw (nI sy) (k + 1) = mvC q iw (nI sy) k + 1 := by rw [mvC, q1, q2]; rfl
                                   have hR3 := hR2.un (p := k) (i := iw) (w := -1) (x := q (18 + 4 * iw + 1) k) (by omega) (by omega)
                                   have ih := ih105 (k + 1) (up2 (brB b2 k (q (18 + 4 * iw + 1) k)) 81 (k * 12 + iw) (-1)) (by omega) (by rw [e1, lostA_t q2, ek]; exact hR3) (hK2.tr (KP.br.kq.tr (KQ.up (by omega)))) ht2 (by omega)
                                   rw [e2] at ih
                                   exact ih)
                                | (have q1 : hs q iw k = true := hs_t.mpr h130
                                   have q2 : lostB (mvK q iw (nI sy) k) k (nI sy) = false := (fI_any (by omega)).mp h141
                                   have e1 : mvK q iw (nI sy) (k + 1) = lostA (mvK q iw (nI sy) k) iw k (nI sy) := if_pos q1
                                   have e2 : mvC q iw (nI sy) (k + 1) = mvC q iw (nI sy) k := by rw [mvC, q1, q2]; rfl
                                   have hR3 := hR2.un (p := k) (i := iw) (w := q (18 + 4 * iw + 1) k - q (18 + 4 * iw + 1) k / 2) (x := q (18 + 4 * iw + 1) k / 2) (by omega) (by omega)
                                   have ih := ih105 (k + 1) (up2 (brB b2 k (q (18 + 4 * iw + 1) k / 2)) 81 (k * 12 + iw) (q (18 + 4 * iw + 1) k - q (18 + 4 * iw + 1) k / 2)) (by omega) (by rw [e1, lostA_f q2, ek]; exact hR3) (hK2.tr (KP.br.kq.tr (KQ.up (by omega)))) ht2 (by omega)
                                   rw [e2] at ih
                                   exact ih)
                                | (have q1 : hs q iw k = false := hs_f.mpr h130
                                   have e1 : mvK q iw (nI sy) (k + 1) = mvK q iw (nI sy) k := if_neg (by rw [q1]; decide)
                                   have e2 : mvC q iw (nI sy) (k + 1) = mvC q iw (nI sy) k := by rw [mvC, q1]; rfl
                                   have ih := ih105 (k + 1) _ (by omega) (by rw [e1]; exact hR2) hK2 ht2 (by omega)
                                   rw [e2] at ih
                                   exact ih)
                          · refine V_aload_n C dX4_move_144 rfl ?_
                            refine V_iload C dX4_move_145 rfl ?_
                            refine V_iload C dX4_move_147 rfl ?_
                            refine V_callfv (R_V C (c_X4_bring hfl (by omega)) mi_X4_bring mk_X4_162 rfl (by omega) rfl (rfl : vwCl[6]? = some (RX4, TX4, 24)) (by decide) rfl (Nat.le_of_ble_eq_true rfl) (by decide) dX4_move_149) ?_
                            refine V_aload_n C dX4_move_152 rfl ?_
                            refine gt_X4_paid C fk_X4_41 dX4_move_153 ?_
                            refine V_iload C dX4_move_156 rfl ?_
                            refine V_iload_n C dX4_move_158 rfl ?_
                            refine V_callf (R_S C (c_X4_pair hfl) mi_X4_pair mk_X4_96 rfl (by decide) rfl (Nat.le_of_ble_eq_true rfl) (by decide) dX4_move_159) ?_
                            refine V_iconst (v := -1) C dX4_move_162 (by decide) ?_
                            refine sa_m_paid C _ rfl (by omega) dX4_move_163 ?_
                            refine V_iinc_3 C _ dX4_move_164 (nI_1 _) (by decide) ?_
                            refine V_goto C 204 dX4_move_167 (by decide) ?_
                            refine V_iinc_4 C _ dX4_move_204 (nI_1 _) (by decide) ?_
                            refine V_goto C 105 dX4_move_207 (by decide) ?_
                            refine V_forget (lvLe.same (lvLe.same (lvLe.same (lvLe.same (lvLe.same (lvLe.drop lvLe.nil)))))) ?_
                            have eO : nO (mvK q iw (nI sy) k) = nO q := congrArg tn (mvK_s k (by omega) (by omega) (by omega))
                            have ek : mvK q iw (nI sy) k (18 + 4 * iw + 1) k = q (18 + 4 * iw + 1) k := mvK_s k (by omega) (by omega) (by omega)
                            first
                              | (have q1 : hs q iw k = true := hs_t.mpr h130
                                 have q2 : lostB (mvK q iw (nI sy) k) k (nI sy) = true := by
                                   unfold lostB
                                   cases hx : anyN (haB (mvK q iw (nI sy) k) k (nI sy)) (nO (mvK q iw (nI sy) k)) with
                                   | true => rfl
                                   | false => exact absurd ((fI_any (by omega)).mpr hx) h141
                                 have e1 : mvK q iw (nI sy) (k + 1) = lostA (mvK q iw (nI sy) k) iw k (nI sy) := if_pos q1
                                 have e2 : mvC q iw (nI sy) (k + 1) = mvC q iw (nI sy) k + 1 := by rw [mvC, q1, q2]; rfl
                                 have hR3 := hR2.un (p := k) (i := iw) (w := -1) (x := q (18 + 4 * iw + 1) k) (by omega) (by omega)
                                 have ih := ih105 (k + 1) (up2 (brB b2 k (q (18 + 4 * iw + 1) k)) 81 (k * 12 + iw) (-1)) (by omega) (by rw [e1, lostA_t q2, ek]; exact hR3) (hK2.tr (KP.br.kq.tr (KQ.up (by omega)))) ht2 (by omega)
                                 rw [e2] at ih
                                 exact ih)
                              | (have q1 : hs q iw k = true := hs_t.mpr h130
                                 have q2 : lostB (mvK q iw (nI sy) k) k (nI sy) = false := (fI_any (by omega)).mp h141
                                 have e1 : mvK q iw (nI sy) (k + 1) = lostA (mvK q iw (nI sy) k) iw k (nI sy) := if_pos q1
                                 have e2 : mvC q iw (nI sy) (k + 1) = mvC q iw (nI sy) k := by rw [mvC, q1, q2]; rfl
                                 have hR3 := hR2.un (p := k) (i := iw) (w := q (18 + 4 * iw + 1) k - q (18 + 4 * iw + 1) k / 2) (x := q (18 + 4 * iw + 1) k / 2) (by omega) (by omega)
                                 have ih := ih105 (k + 1) (up2 (brB b2 k (q (18 + 4 * iw + 1) k / 2)) 81 (k * 12 + iw) (q (18 + 4 * iw + 1) k - q (18 + 4 * iw + 1) k / 2)) (by omega) (by rw [e1, lostA_f q2, ek]; exact hR3) (hK2.tr (KP.br.kq.tr (KQ.up (by omega)))) ht2 (by omega)
                                 rw [e2] at ih
                                 exact ih)
                              | (have q1 : hs q iw k = false := hs_f.mpr h130
                                 have e1 : mvK q iw (nI sy) (k + 1) = mvK q iw (nI sy) k := if_neg (by rw [q1]; decide)
                                 have e2 : mvC q iw (nI sy) (k + 1) = mvC q iw (nI sy) k := by rw [mvC, q1]; rfl
                                 have ih := ih105 (k + 1) _ (by omega) (by rw [e1]; exact hR2) hK2 ht2 (by omega)
                                 rw [e2] at ih
                                 exact ih)
                  exact L105 _ 0 _ (Nat.zero_le _) hR (KQ.th.tr KQ.th) rfl (Nat.lt_succ_self _)
                · exact absurd h95 (by decide)
              · refine V_iconst (v := 3) C dX4_move_83 (by decide) ?_
                refine V_goto C 88 dX4_move_84 (by decide) ?_
                refine pt_X4_thrown C fk_X4_59 dX4_move_88 ?_
                refine V_aload_n C dX4_move_91 rfl ?_
                refine gt_X4_thrown C fk_X4_59 dX4_move_92 ?_
                refine V_topi (show _ = (3 : Int32) from rfl) ?_
                refine V_if_le C 100 dX4_move_95 (by decide) (fun h95 => ?_) (fun h95 => ?_)
                · exact absurd h95 (by decide)
                · refine V_iconst (v := 0) C dX4_move_98 (by decide) ?_
                  have hg : gg = some eU := hG.trans (by first | (simp [g3_move, gS, gO, h6, h17, h32, h47, h57, h66, h80, h95]; done) | (simp [g3_move, gS, gO, tiw, tsy, h6, h17, h32, h47, h57, h66, h80, h95]; done))
                  exact V_ireti C hr dX4_move_99 ⟨rfl, by rw [hg]; rfl, by rw [hg]; rfl, (by first | exact KQ.th | exact KQ.th.tr KQ.th), fun z => (by rw [hg] at z; cases z), fun _ => hR⟩
    · refine V_iconst (v := 2) C dX4_move_20 (by decide) ?_
      refine V_goto C 25 dX4_move_21 (by decide) ?_
      refine pt_X4_thrown C fk_X4_59 dX4_move_25 ?_
      refine V_aload_n C dX4_move_28 rfl ?_
      refine gt_X4_thrown C fk_X4_59 dX4_move_29 ?_
      refine V_topi (show _ = (2 : Int32) from rfl) ?_
      refine V_if_ne C 91 dX4_move_32 (by decide) (fun h32 => ?_) (fun h32 => ?_)
      · refine V_aload_n C dX4_move_91 rfl ?_
        refine gt_X4_thrown C fk_X4_59 dX4_move_92 ?_
        refine V_topi (show _ = (2 : Int32) from rfl) ?_
        refine V_if_le C 100 dX4_move_95 (by decide) (fun h95 => ?_) (fun h95 => ?_)
        · exact absurd h95 (by decide)
        · refine V_iconst (v := 0) C dX4_move_98 (by decide) ?_
          have hg : gg = some eA := hG.trans (by first | (simp [g3_move, gS, gO, h6, h17, h32, h95]; done) | (simp [g3_move, gS, gO, tiw, tsy, h6, h17, h32, h95]; done))
          exact V_ireti C hr dX4_move_99 ⟨rfl, by rw [hg]; rfl, by rw [hg]; rfl, (by first | exact KQ.th | exact KQ.th.tr KQ.th), fun z => (by rw [hg] at z; cases z), fun _ => hR⟩
      · exact absurd h32 (by decide)
  · refine V_iconst (v := 1) C dX4_move_9 (by decide) ?_
    refine V_goto C 25 dX4_move_10 (by decide) ?_
    refine pt_X4_thrown C fk_X4_59 dX4_move_25 ?_
    refine V_aload_n C dX4_move_28 rfl ?_
    refine gt_X4_thrown C fk_X4_59 dX4_move_29 ?_
    refine V_topi (show _ = (1 : Int32) from rfl) ?_
    refine V_if_ne C 91 dX4_move_32 (by decide) (fun h32 => ?_) (fun h32 => ?_)
    · refine V_aload_n C dX4_move_91 rfl ?_
      refine gt_X4_thrown C fk_X4_59 dX4_move_92 ?_
      refine V_topi (show _ = (1 : Int32) from rfl) ?_
      refine V_if_le C 100 dX4_move_95 (by decide) (fun h95 => ?_) (fun h95 => ?_)
      · exact absurd h95 (by decide)
      · refine V_iconst (v := 0) C dX4_move_98 (by decide) ?_
        have hg : gg = some eI := hG.trans (by first | (simp [g3_move, gS, gO, h6, h32, h95]; done) | (simp [g3_move, gS, gO, tiw, tsy, h6, h32, h95]; done))
        exact V_ireti C hr dX4_move_99 ⟨rfl, by rw [hg]; rfl, by rw [hg]; rfl, (by first | exact KQ.th | exact KQ.th.tr KQ.th), fun z => (by rw [hg] at z; cases z), fun _ => hR⟩
    · exact absurd h32 (by decide)
