/-! sync -/
/-- copied so far: cells and fields below N, a field owned a copy -/
def syK (q : Mem) (s t N : Nat) : Mem := fun c j => if 3 + t * 3 ≤ c ∧ c < 3 + t * 3 + 3 ∧ q 12 (c - (3 + t * 3)) = nI s ∧ j < 60 ∧ j * 3 + (c - (3 + t * 3)) < N then q (3 + (s * 3 + (c - (3 + t * 3)))) j else q c j
def syD (q : Mem) (s t n : Nat) : Bool := decide (q 12 (n % 3) = nI s) && dif q (s * 3 + n % 3) (t * 3 + n % 3) (n / 3)
theorem syK_o {q : Mem} {s t N c j : Nat} (h : c < 3 + t * 3 ∨ 3 + t * 3 + 3 ≤ c) : syK q s t N c j = q c j := by
  unfold syK
  rw [if_neg (by omega)]
theorem syK_ow {q : Mem} {s t N f : Nat} (hf : f < 3) (ht : t < 3 := by omega) : syK q s t N 12 f = q 12 f := syK_o (by omega)
theorem syK_0 {q : Mem} {s t : Nat} : syK q s t 0 = q := by
  funext c j
  unfold syK
  rw [if_neg (by omega)]
theorem syK_t {q : Mem} {s t f c N : Nat} (hf : f < 3) (h : N ≤ c * 3 + f) : syK q s t N (3 + (t * 3 + f)) c = q (3 + (t * 3 + f)) c := by
  unfold syK
  rw [if_neg (by omega)]
theorem syK_y {q : Mem} {s t f c : Nat} (hf : f < 3) (hc : c < 60) (h : q 12 f = nI s) : syK q s t (c * 3 + f + 1) = up2 (syK q s t (c * 3 + f)) (3 + (t * 3 + f)) c (q (3 + (s * 3 + f)) c) := by
  funext d j
  by_cases e : d = 3 + (t * 3 + f) ∧ j = c
  · obtain ⟨rfl, rfl⟩ := e
    rw [up2_s]
    unfold syK
    have e2 : 3 + (t * 3 + f) - (3 + t * 3) = f := by omega
    rw [e2, if_pos ⟨by omega, by omega, h, hc, by omega⟩]
  · rw [up2_o (by omega)]
    unfold syK
    by_cases g : 3 + t * 3 ≤ d ∧ d < 3 + t * 3 + 3 ∧ q 12 (d - (3 + t * 3)) = nI s ∧ j < 60 ∧ j * 3 + (d - (3 + t * 3)) < c * 3 + f
    · rw [if_pos g, if_pos ⟨g.1, g.2.1, g.2.2.1, g.2.2.2.1, by omega⟩]
    · rw [if_neg g, if_neg (fun z => g ⟨z.1, z.2.1, z.2.2.1, z.2.2.2.1, by omega⟩)]
theorem syK_n {q : Mem} {s t f c : Nat} (hf : f < 3) (hc : c < 60) (h : syD q s t (c * 3 + f) = false) : syK q s t (c * 3 + f + 1) = syK q s t (c * 3 + f) := by
  have e1 : (c * 3 + f) % 3 = f := by omega
  have e2 : (c * 3 + f) / 3 = c := by omega
  unfold syD at h
  rw [e1, e2] at h
  by_cases g : q 12 f = nI s
  · rw [decide_eq_true g, Bool.true_and] at h
    rw [syK_y hf hc g]
    have : q (3 + (t * 3 + f)) c = q (3 + (s * 3 + f)) c := by simpa [dif] using h
    exact up2_id ((syK_t hf (Nat.le_refl _)).trans this)
  · funext d j
    unfold syK
    by_cases g2 : 3 + t * 3 ≤ d ∧ d < 3 + t * 3 + 3 ∧ q 12 (d - (3 + t * 3)) = nI s ∧ j < 60 ∧ j * 3 + (d - (3 + t * 3)) < c * 3 + f
    · rw [if_pos g2, if_pos ⟨g2.1, g2.2.1, g2.2.2.1, g2.2.2.2.1, by omega⟩]
    · rw [if_neg g2, if_neg (fun z => g2 ⟨z.1, z.2.1, z.2.2.1, z.2.2.2.1, ?_⟩)]
      apply Classical.byContradiction
      intro w
      have e3 : d - (3 + t * 3) = f := by omega
      exact g (by rw [← e3]; exact z.2.2.1)
theorem sy_skip {q : Mem} {s t N : Nat} : ∀ M, N + M ≤ 180 → (∀ n, N ≤ n → n < N + M → syD q s t n = false) → syK q s t (N + M) = syK q s t N ∧ cntN (syD q s t) (N + M) = cntN (syD q s t) N := by
  intro M
  induction M with
  | zero => intro _ _; exact ⟨rfl, rfl⟩
  | succ M ih =>
    intro hM h
    obtain ⟨h1, h2⟩ := ih (by omega) (fun n a1 a2 => h n a1 (by omega))
    have h3 := h (N + M) (by omega) (by omega)
    have e : N + M = (N + M) / 3 * 3 + (N + M) % 3 := by omega
    refine ⟨?_, ?_⟩
    · rw [← h1, ← Nat.add_assoc]
      have := syK_n (q := q) (s := s) (t := t) (f := (N + M) % 3) (c := (N + M) / 3) (by omega) (by omega) (by rw [← e]; exact h3)
      rw [← e] at this
      exact this
    · rw [← Nat.add_assoc, cntN, h3, h2]; rfl
theorem syD_rc {q : Mem} (hI : IQ q) {s t n : Nat} (hs : s < 3) (ht : t < 3) (hn : n < 180) (hx : nP q ≤ n / 18 ∨ nE q ≤ n / 3 % 6) : syD q s t n = false := by
  unfold syD
  rw [dif_rc hI (c := n / 3) (by omega) (by omega) (by omega) hs ht, Bool.and_false]
theorem cntN_3 {g : Nat → Bool} : ∀ n, cntN g (n * 3) = cntN (fun j => g (j * 3)) n + cntN (fun j => g (j * 3 + 1)) n + cntN (fun j => g (j * 3 + 2)) n := by
  intro n
  induction n with
  | zero => rfl
  | succ n ih =>
    rw [show (n + 1) * 3 = n * 3 + 1 + 1 + 1 by omega]
    simp only [cntN]
    rw [ih]
    omega
theorem cpR_x {a : Mem} {r1 r2 k c j : Nat} (h : c ≠ 3 + r2) : cpR a r1 r2 k c j = a c j := by
  unfold cpR
  rw [if_neg (by omega)]
theorem cpO_x {q : Mem} {s t : Nat} : ∀ n c j, (c < 3 + t * 3 ∨ 3 + t * 3 + n ≤ c) → cpO q s t n c j = q c j := by
  intro n
  induction n with
  | zero => intro c j _; rfl
  | succ n ih =>
    intro c j h
    simp only [cpO]
    split
    · rw [cpR_x (by omega)]
      exact ih c j (by omega)
    · exact ih c j (by omega)
theorem cpO_y {q : Mem} {s t f : Nat} (hst : s ≠ t) (hf3 : f < 3) : ∀ n j, f < n → n ≤ 3 → j < 60 → cpO q s t n (3 + (t * 3 + f)) j = if q 12 f = nI s then q (3 + (s * 3 + f)) j else q (3 + (t * 3 + f)) j := by
  intro n
  induction n with
  | zero => intro j h; omega
  | succ n ih =>
    intro j h hn hj
    simp only [cpO]
    by_cases e : f = n
    · subst e
      by_cases g : q 12 f = nI s
      · rw [if_pos g, if_pos g]
        unfold cpR
        rw [if_pos ⟨rfl, hj⟩]
        exact cpO_x f _ _ (by omega)
      · rw [if_neg g, if_neg g]
        exact cpO_x f _ _ (by omega)
    · have h1 := ih j (by omega) (by omega) hj
      split
      · rw [cpR_x (by omega)]
        exact h1
      · exact h1
theorem cpO_o {q : Mem} {s t : Nat} {c j : Nat} (hj : 60 ≤ j) : ∀ n, cpO q s t n c j = q c j := by
  intro n
  induction n with
  | zero => rfl
  | succ n ih =>
    simp only [cpO]
    split
    · unfold cpR
      rw [if_neg (by omega)]
      exact ih
    · exact ih
theorem sy_end {q : Mem} {s t : Nat} (hst : s ≠ t) : syK q s t 180 = cpO q s t 3 ∧ cntN (syD q s t) 180 = cnO q s t 3 := by
  constructor
  · funext c j
    by_cases h : 3 + t * 3 ≤ c ∧ c < 3 + t * 3 + 3
    · by_cases hj : j < 60
      · have e : c = 3 + (t * 3 + (c - (3 + t * 3))) := by omega
        generalize c - (3 + t * 3) = f at e
        have hf : f < 3 := by omega
        subst e
        rw [cpO_y hst hf 3 j (by omega) (by omega) hj]
        unfold syK
        have e2 : 3 + (t * 3 + f) - (3 + t * 3) = f := by omega
        rw [e2]
        by_cases g : q 12 f = nI s
        · rw [if_pos g, if_pos ⟨by omega, by omega, g, hj, by omega⟩]
        · rw [if_neg g, if_neg (fun z => g z.2.2.1)]
      · rw [cpO_o (by omega)]
        unfold syK
        rw [if_neg (by omega)]
    · rw [cpO_x 3 _ _ (by omega)]
      exact syK_o (by omega)
  · rw [show 180 = 60 * 3 from rfl, cntN_3]
    have key : ∀ f, f < 3 → cntN (fun j => syD q s t (j * 3 + f)) 60 = (if q 12 f = nI s then cntN (dif (cpO q s t f) (s * 3 + f) (t * 3 + f)) 60 else 0) := by
      intro f hf
      by_cases g : q 12 f = nI s
      · rw [if_pos g]
        apply cntN_congr
        intro j _
        unfold syD dif
        have e1 : (j * 3 + f) % 3 = f := by omega
        have e2 : (j * 3 + f) / 3 = j := by omega
        rw [e1, e2, cpO_x f _ _ (by omega), cpO_x f _ _ (by omega), decide_eq_true g, Bool.true_and]
      · rw [if_neg g]
        have : ∀ n, cntN (fun j => syD q s t (j * 3 + f)) n = 0 := by
          intro n
          induction n with
          | zero => rfl
          | succ n ih =>
            have e1 : (n * 3 + f) % 3 = f := by omega
            rw [cntN, ih]
            unfold syD
            rw [e1, decide_eq_false g]
            rfl
        exact this 60
    have k0 := key 0 (by omega)
    have k1 := key 1 (by omega)
    have k2 := key 2 (by omega)
    simp only [cnO]
    rw [← k0, ← k1, ← k2]
    simp
theorem RR.vl1 {q b : Mem} (h : RR q b) {s p e f : Nat} {v : Int32} (hs : s < 3) (hp : p < 10) (he : e < 6) (hf : f < 3) : RR (up2 q (3 + (s * 3 + f)) (p * 6 + e) v) (up2 b 82 (((s * 10 + p) * 6 + e) * 3 + f) v) := by
  obtain ⟨r1, r2, r3, r4, r5, r6, r7, r8, r9, r10, r11, r12, r13, r14, r15, r16, r17, r18, r19⟩ := h
  refine ⟨?_, ?_, ?_, ?_, ?_, ?_, ?_, ?_, ?_, ?_, ?_, ?_, ?_, ?_, ?_, ?_, ?_, ?_, ?_⟩ <;> (simp only [up2]; grind)


set_option maxHeartbeats 4000000 in
set_option maxRecDepth 100000 in
theorem c_X4_sync {l : Launch} {x : Sh} {a b : Mem} {o : Out} (hfl : l.stackTraces = false) {q : Mem} (hW : WC q) (hI : IQ q) (hR : RR q b) {t u : Int32} : MG l x yX4_sync cX4_sync 8 (some .int) 7 320 [.ref (x.2.1 70), .int t, .int u] a b o (QI x o (OPM [eI, eA] (g3_sync t u) (nI (cnO q (tn t) (tn u) 3)) q (cpO q (tn t) (tn u) 3) b a)) := by
  refine MG.of (maxL := 8) (ret := (some .int)) hfl (by decide) [some (.ref (x.2.1 70)), some (.int t), some (.int u), none, none, none, none, none] rfl rfl (Nat.le_of_ble_eq_true rfl) ?_
  intro pP eE sS mM argsA belowB methM cC C hr
  have ho12 := hW.ol
  have hp10 := hW.pl
  have he6 := hW.el
  obtain ⟨gg, hG⟩ : ∃ gg, gg = (g3_sync t u) := ⟨_, rfl⟩
  rw [← hG]
  refine V_aload_n C dX4_sync_0 rfl ?_
  refine V_iload_n C dX4_sync_1 rfl ?_
  refine V_callf (R_S C (c_X4_isStore hfl) mi_X4_isStore mk_X4_168 rfl (by decide) rfl (Nat.le_of_ble_eq_true rfl) (by decide) dX4_sync_2) ?_
  refine V_ifb_eq C 15 dX4_sync_5 (by decide) (fun h5 => ?_) (fun h5 => ?_)
  · refine V_iconst (v := 1) C dX4_sync_15 (by decide) ?_
    refine V_goto C 29 dX4_sync_16 (by decide) ?_
    refine pt_X4_thrown C fk_X4_59 dX4_sync_29 ?_
    refine V_aload_n C dX4_sync_32 rfl ?_
    refine gt_X4_thrown C fk_X4_59 dX4_sync_33 ?_
    refine V_topi (show _ = (1 : Int32) from rfl) ?_
    refine V_if_le C 41 dX4_sync_36 (by decide) (fun h36 => ?_) (fun h36 => ?_)
    · exact absurd h36 (by decide)
    · refine V_iconst (v := 0) C dX4_sync_39 (by decide) ?_
      have hg : gg = some eI := hG.trans (by first | (simp [g3_sync, gS, gO, h5, h36]; done))
      exact V_ireti C hr dX4_sync_40 ⟨rfl, by rw [hg]; rfl, by rw [hg]; rfl, (by first | exact KQ.th | exact KQ.th.tr KQ.th), fun z => (by rw [hg] at z; cases z), fun _ => hR⟩
  · obtain ⟨ut, hut, ute⟩ := ix_of (N := 3) (E := eI) (gO_n.mpr h5) rfl (by decide)
    subst ute
    have tut : tn (nI ut) = ut := tn_nI (by omega)
    try rw [tut]
    refine V_iload_n C dX4_sync_8 rfl ?_
    refine V_callf (R_S C (c_X4_isStore hfl) mi_X4_isStore mk_X4_168 rfl (by decide) rfl (Nat.le_of_ble_eq_true rfl) (by decide) dX4_sync_9) ?_
    refine V_ifb_ne C 19 dX4_sync_12 (by decide) (fun h12 => ?_) (fun h12 => ?_)
    · obtain ⟨uu, huu, uue⟩ := ix_of (N := 3) (E := eI) (gO_n.mpr h12) rfl (by decide)
      subst uue
      have tuu : tn (nI uu) = uu := tn_nI (by omega)
      try rw [tuu]
      refine V_iload_n C dX4_sync_19 rfl ?_
      refine V_iload_n C dX4_sync_20 rfl ?_
      refine V_icmp_ne C 28 dX4_sync_21 (by decide) (fun h21 => ?_) (fun h21 => ?_)
      · have hst : ut ≠ uu := fun z => h21 (by rw [z])
        refine V_iconst (v := 0) C dX4_sync_28 (by decide) ?_
        refine pt_X4_thrown C fk_X4_59 dX4_sync_29 ?_
        refine V_aload_n C dX4_sync_32 rfl ?_
        refine gt_X4_thrown C fk_X4_59 dX4_sync_33 ?_
        refine V_topi (show _ = (0 : Int32) from rfl) ?_
        refine V_if_le C 41 dX4_sync_36 (by decide) (fun h36 => ?_) (fun h36 => ?_)
        · refine V_iconst (v := nI 0) C dX4_sync_41 (by decide) ?_
          refine V_istore_n3 C dX4_sync_42 (by decide) ?_
          refine V_iconst (v := nI 0) C dX4_sync_43 (by decide) ?_
          refine V_istore_4 C dX4_sync_44 (by decide) ?_
          have L46 : ∀ (fuel : Nat) (p : Nat) (b2 : Mem), p ≤ nP q → RR (syK q ut uu (p * 18)) b2 → KQ b b2 → b2 70 0 = 0 → nP q - p < fuel → VV pP l eE ({ frames := 7, cells := 0, slots := 0, locals := 320 } : Room) sS mM argsA belowB methM cC (MQ belowB (QI x o (OPM [eI, eA] gg (nI (cnO q (ut) (uu) 3)) q (cpO q (ut) (uu) 3) b a) sS.heap.size) argsA sS 0 0 (AW x sS.heap.size)) x 8 a b2 o 0 0 46 [some (.ref (x.2.1 70)), some (.int (nI ut)), some (.int (nI uu)), some (.int (nI (cntN (syD q ut uu) (p * 18)))), some (.int (nI p)), none, none, none] [] := by
            intro fuel
            induction fuel with
            | zero => intro p b2 hp hR2 hK2 ht2 hm; exact absurd hm (Nat.not_lt_zero _)
            | succ fuel ih46 =>
              intro p b2 hp hR2 hK2 ht2 hm
              refine V_iload C dX4_sync_46 rfl ?_
              refine V_aload_n C dX4_sync_48 rfl ?_
              refine gt_X4_pupils C fk_X4_63 dX4_sync_49 ?_
              refine V_topi ((hR2.c3.trans (syK_o (by omega))).trans hW.pe) ?_
              refine V_lt C 162 dX4_sync_52 (by decide) (by omega) (by omega) (fun h52 => ?_) (fun h52 => ?_)
              · have e9 : p = nP q := by omega
                subst e9
                have hend := sy_end (q := q) hst
                have hskip := sy_skip (q := q) (s := ut) (t := uu) (N := nP q * 18) (180 - nP q * 18) (by omega) (fun n a1 a2 => syD_rc hI (by omega) (by omega) (by omega) (by omega))
                rw [show nP q * 18 + (180 - nP q * 18) = 180 by omega] at hskip
                rw [← hskip.1, hend.1] at hR2
                rw [← hskip.2, hend.2]
                refine V_iload_n C dX4_sync_162 rfl ?_
                have hg : gg = none := hG.trans (by first | (simp [g3_sync, gS, gO, h5, h12, h21, h36, h52]; done))
                exact V_ireti C hr dX4_sync_163 ⟨rfl, by rw [hg]; rfl, by rw [hg]; exact ht2, hK2, fun _ => hR2, fun z => absurd hg z⟩
              · refine V_iconst (v := nI 0) C dX4_sync_55 (by decide) ?_
                refine V_istore_5 C dX4_sync_56 (by decide) ?_
                have L58 : ∀ (fuel : Nat) (e : Nat) (b2 : Mem), e ≤ nE q → RR (syK q ut uu ((p * 6 + e) * 3)) b2 → KQ b b2 → b2 70 0 = 0 → nE q - e < fuel → VV pP l eE ({ frames := 7, cells := 0, slots := 0, locals := 320 } : Room) sS mM argsA belowB methM cC (MQ belowB (QI x o (OPM [eI, eA] gg (nI (cnO q (ut) (uu) 3)) q (cpO q (ut) (uu) 3) b a) sS.heap.size) argsA sS 0 0 (AW x sS.heap.size)) x 8 a b2 o 0 0 58 [some (.ref (x.2.1 70)), some (.int (nI ut)), some (.int (nI uu)), some (.int (nI (cntN (syD q ut uu) ((p * 6 + e) * 3)))), some (.int (nI p)), some (.int (nI e)), none, none] [] := by
                  intro fuel
                  induction fuel with
                  | zero => intro e b2 he hR2 hK2 ht2 hm; exact absurd hm (Nat.not_lt_zero _)
                  | succ fuel ih58 =>
                    intro e b2 he hR2 hK2 ht2 hm
                    refine V_iload C dX4_sync_58 rfl ?_
                    refine V_aload_n C dX4_sync_60 rfl ?_
                    refine gt_X4_exams C fk_X4_70 dX4_sync_61 ?_
                    refine V_topi ((hR2.c2.trans (syK_o (by omega))).trans hW.ee) ?_
                    refine V_lt C 156 dX4_sync_64 (by decide) (by omega) (by omega) (fun h64 => ?_) (fun h64 => ?_)
                    · have e8 : e = nE q := by omega
                      subst e8
                      refine V_iinc_4 C _ dX4_sync_156 (nI_1 _) (by decide) ?_
                      refine V_goto C 46 dX4_sync_159 (by decide) ?_
                      refine V_forget (lvLe.same (lvLe.same (lvLe.same (lvLe.same (lvLe.same (lvLe.drop (lvLe.same (lvLe.same lvLe.nil)))))))) ?_
                      have hskip := sy_skip (q := q) (s := ut) (t := uu) (N := (p * 6 + nE q) * 3) ((6 - nE q) * 3) (by omega) (fun n a1 a2 => syD_rc hI (by omega) (by omega) (by omega) (by omega))
                      rw [show (p * 6 + nE q) * 3 + (6 - nE q) * 3 = (p + 1) * 18 by omega] at hskip
                      rw [← hskip.1] at hR2
                      rw [← hskip.2]
                      exact ih46 (p + 1) _ (by omega) hR2 hK2 ht2 (by omega)
                    · refine V_iconst (v := nI 0) C dX4_sync_67 (by decide) ?_
                      refine V_istore_6 C dX4_sync_68 (by decide) ?_
                      have L70 : ∀ (fuel : Nat) (f : Nat) (b2 : Mem), f ≤ 3 → RR (syK q ut uu ((p * 6 + e) * 3 + f)) b2 → KQ b b2 → b2 70 0 = 0 → 3 - f < fuel → VV pP l eE ({ frames := 7, cells := 0, slots := 0, locals := 320 } : Room) sS mM argsA belowB methM cC (MQ belowB (QI x o (OPM [eI, eA] gg (nI (cnO q (ut) (uu) 3)) q (cpO q (ut) (uu) 3) b a) sS.heap.size) argsA sS 0 0 (AW x sS.heap.size)) x 8 a b2 o 0 0 70 [some (.ref (x.2.1 70)), some (.int (nI ut)), some (.int (nI uu)), some (.int (nI (cntN (syD q ut uu) ((p * 6 + e) * 3 + f)))), some (.int (nI p)), some (.int (nI e)), some (.int (nI f)), none] [] := by
                        intro fuel
                        induction fuel with
                        | zero => intro f b2 hf hR2 hK2 ht2 hm; exact absurd hm (Nat.not_lt_zero _)
                        | succ fuel ih70 =>
                          intro f b2 hf hR2 hK2 ht2 hm
                          refine V_iload C dX4_sync_70 rfl ?_
                          refine V_iconst (v := nI 3) C dX4_sync_72 (by decide) ?_
                          refine V_lt C 150 dX4_sync_73 (by decide) (by omega) (by omega) (fun h73 => ?_) (fun h73 => ?_)
                          · have e7 : f = 3 := by omega
                            subst e7
                            refine V_iinc_5 C _ dX4_sync_150 (nI_1 _) (by decide) ?_
                            refine V_goto C 58 dX4_sync_153 (by decide) ?_
                            refine V_forget (lvLe.same (lvLe.same (lvLe.same (lvLe.same (lvLe.same (lvLe.same (lvLe.drop (lvLe.same lvLe.nil)))))))) ?_
                            rw [show (p * 6 + e) * 3 + 3 = (p * 6 + (e + 1)) * 3 by omega] at hR2 ⊢
                            exact ih58 (e + 1) _ (by omega) hR2 hK2 ht2 (by omega)
                          · refine V_aload_n C dX4_sync_76 rfl ?_
                            refine gt_X4_value C fk_X4_44 dX4_sync_77 ?_
                            refine V_iload_n C dX4_sync_80 rfl ?_
                            refine V_iload C dX4_sync_81 rfl ?_
                            refine V_iload C dX4_sync_83 rfl ?_
                            refine V_iload C dX4_sync_85 rfl ?_
                            refine V_callf (R_S C (c_X4_cell hfl) mi_X4_cell mk_X4_103 rfl (by decide) rfl (Nat.le_of_ble_eq_true rfl) (by decide) dX4_sync_87) ?_
                            refine la_m_value C _ rfl (by omega) dX4_sync_90 ?_
                            refine V_topi ((hR2.vl (by omega) (by omega) (by omega) (by omega)).trans (syK_o (by omega))) ?_
                            refine V_istore_7 C dX4_sync_91 (by decide) ?_
                            refine V_aload_n C dX4_sync_93 rfl ?_
                            refine gt_X4_owner C fk_X4_47 dX4_sync_94 ?_
                            refine V_iload C dX4_sync_97 rfl ?_
                            refine la_m_owner C _ rfl (by omega) dX4_sync_99 ?_
                            refine V_topi ((hR2.ow (by omega)).trans (syK_ow (by omega))) ?_
                            refine V_iload_n C dX4_sync_100 rfl ?_
                            refine V_icmp_ne C 144 dX4_sync_101 (by decide) (fun h101 => ?_) (fun h101 => ?_)
                            · refine V_iinc_6 C _ dX4_sync_144 (nI_1 _) (by decide) ?_
                              refine V_goto C 70 dX4_sync_147 (by decide) ?_
                              refine V_forget (lvLe.same (lvLe.same (lvLe.same (lvLe.same (lvLe.same (lvLe.same (lvLe.same (lvLe.drop lvLe.nil)))))))) ?_
                              have z1 : ((p * 6 + e) * 3 + f) % 3 = f := by omega
                              have z2 : ((p * 6 + e) * 3 + f) / 3 = p * 6 + e := by omega
                              have z3 : ∀ B, syD q ut uu ((p * 6 + e) * 3 + f) = B → cntN (syD q ut uu) ((p * 6 + e) * 3 + (f + 1)) = cntN (syD q ut uu) ((p * 6 + e) * 3 + f) + (if B = true then 1 else 0) := fun B h => by rw [← Nat.add_assoc, cntN, h]
                              first
                                | (have q1 : syD q ut uu ((p * 6 + e) * 3 + f) = true := by unfold syD dif; rw [z1, z2, decide_eq_true h101, show decide (¬ q (3 + (uu * 3 + f)) (p * 6 + e) = q (3 + (ut * 3 + f)) (p * 6 + e)) = true from decide_eq_true (fun z => h121 z.symm)]; rfl
                                   have ih := ih70 (f + 1) (up2 b2 82 (((uu * 10 + p) * 6 + e) * 3 + f) (q (3 + (ut * 3 + f)) (p * 6 + e))) (by omega) (by rw [← Nat.add_assoc, syK_y (by omega) (by omega) h101]; exact hR2.vl1 (by omega) (by omega) (by omega) (by omega)) (hK2.tr (KQ.up (by omega))) ht2 (by omega)
                                   rw [z3 true q1] at ih
                                   exact ih)
                                | (have q1 : syD q ut uu ((p * 6 + e) * 3 + f) = false := by unfold syD; rw [z1, z2]; first | (rw [decide_eq_false h101]; rfl) | (unfold dif; rw [show decide (¬ q (3 + (uu * 3 + f)) (p * 6 + e) = q (3 + (ut * 3 + f)) (p * 6 + e)) = false from decide_eq_false (fun z => z h121.symm), Bool.and_false])
                                   have ih := ih70 (f + 1) b2 (by omega) (by rw [← Nat.add_assoc, syK_n (by omega) (by omega) q1]; exact hR2) hK2 ht2 (by omega)
                                   rw [z3 false q1] at ih
                                   exact ih)
                            · refine V_iload C dX4_sync_104 rfl ?_
                              refine V_aload_n C dX4_sync_106 rfl ?_
                              refine gt_X4_value C fk_X4_44 dX4_sync_107 ?_
                              refine V_iload_n C dX4_sync_110 rfl ?_
                              refine V_iload C dX4_sync_111 rfl ?_
                              refine V_iload C dX4_sync_113 rfl ?_
                              refine V_iload C dX4_sync_115 rfl ?_
                              refine V_callf (R_S C (c_X4_cell hfl) mi_X4_cell mk_X4_103 rfl (by decide) rfl (Nat.le_of_ble_eq_true rfl) (by decide) dX4_sync_117) ?_
                              refine la_m_value C _ rfl (by omega) dX4_sync_120 ?_
                              refine V_topi ((hR2.vl (by omega) (by omega) (by omega) (by omega)).trans (syK_t (by omega) (Nat.le_refl _))) ?_
                              refine V_icmp_eq C 144 dX4_sync_121 (by decide) (fun h121 => ?_) (fun h121 => ?_)
                              · refine V_iinc_6 C _ dX4_sync_144 (nI_1 _) (by decide) ?_
                                refine V_goto C 70 dX4_sync_147 (by decide) ?_
                                refine V_forget (lvLe.same (lvLe.same (lvLe.same (lvLe.same (lvLe.same (lvLe.same (lvLe.same (lvLe.drop lvLe.nil)))))))) ?_
                                have z1 : ((p * 6 + e) * 3 + f) % 3 = f := by omega
                                have z2 : ((p * 6 + e) * 3 + f) / 3 = p * 6 + e := by omega
                                have z3 : ∀ B, syD q ut uu ((p * 6 + e) * 3 + f) = B → cntN (syD q ut uu) ((p * 6 + e) * 3 + (f + 1)) = cntN (syD q ut uu) ((p * 6 + e) * 3 + f) + (if B = true then 1 else 0) := fun B h => by rw [← Nat.add_assoc, cntN, h]
                                first
                                  | (have q1 : syD q ut uu ((p * 6 + e) * 3 + f) = true := by unfold syD dif; rw [z1, z2, decide_eq_true h101, show decide (¬ q (3 + (uu * 3 + f)) (p * 6 + e) = q (3 + (ut * 3 + f)) (p * 6 + e)) = true from decide_eq_true (fun z => h121 z.symm)]; rfl
                                     have ih := ih70 (f + 1) (up2 b2 82 (((uu * 10 + p) * 6 + e) * 3 + f) (q (3 + (ut * 3 + f)) (p * 6 + e))) (by omega) (by rw [← Nat.add_assoc, syK_y (by omega) (by omega) h101]; exact hR2.vl1 (by omega) (by omega) (by omega) (by omega)) (hK2.tr (KQ.up (by omega))) ht2 (by omega)
                                     rw [z3 true q1] at ih
                                     exact ih)
                                  | (have q1 : syD q ut uu ((p * 6 + e) * 3 + f) = false := by unfold syD; rw [z1, z2]; first | (rw [decide_eq_false h101]; rfl) | (unfold dif; rw [show decide (¬ q (3 + (uu * 3 + f)) (p * 6 + e) = q (3 + (ut * 3 + f)) (p * 6 + e)) = false from decide_eq_false (fun z => z h121.symm), Bool.and_false])
                                     have ih := ih70 (f + 1) b2 (by omega) (by rw [← Nat.add_assoc, syK_n (by omega) (by omega) q1]; exact hR2) hK2 ht2 (by omega)
                                     rw [z3 false q1] at ih
                                     exact ih)
                              · refine V_aload_n C dX4_sync_124 rfl ?_
                                refine gt_X4_value C fk_X4_44 dX4_sync_125 ?_
                                refine V_iload_n C dX4_sync_128 rfl ?_
                                refine V_iload C dX4_sync_129 rfl ?_
                                refine V_iload C dX4_sync_131 rfl ?_
                                refine V_iload C dX4_sync_133 rfl ?_
                                refine V_callf (R_S C (c_X4_cell hfl) mi_X4_cell mk_X4_103 rfl (by decide) rfl (Nat.le_of_ble_eq_true rfl) (by decide) dX4_sync_135) ?_
                                refine V_iload C dX4_sync_138 rfl ?_
                                refine sa_m_value C _ rfl (by omega) dX4_sync_140 ?_
                                refine V_iinc_3 C _ dX4_sync_141 (nI_1 _) (by decide) ?_
                                refine V_iinc_6 C _ dX4_sync_144 (nI_1 _) (by decide) ?_
                                refine V_goto C 70 dX4_sync_147 (by decide) ?_
                                refine V_forget (lvLe.same (lvLe.same (lvLe.same (lvLe.same (lvLe.same (lvLe.same (lvLe.same (lvLe.drop lvLe.nil)))))))) ?_
                                have z1 : ((p * 6 + e) * 3 + f) % 3 = f := by omega
                                have z2 : ((p * 6 + e) * 3 + f) / 3 = p * 6 + e := by omega
                                have z3 : ∀ B, syD q ut uu ((p * 6 + e) * 3 + f) = B → cntN (syD q ut uu) ((p * 6 + e) * 3 + (f + 1)) = cntN (syD q ut uu) ((p * 6 + e) * 3 + f) + (if B = true then 1 else 0) := fun B h => by rw [← Nat.add_assoc, cntN, h]
                                first
                                  | (have q1 : syD q ut uu ((p * 6 + e) * 3 + f) = true := by unfold syD dif; rw [z1, z2, decide_eq_true h101, show decide (¬ q (3 + (uu * 3 + f)) (p * 6 + e) = q (3 + (ut * 3 + f)) (p * 6 + e)) = true from decide_eq_true (fun z => h121 z.symm)]; rfl
                                     have ih := ih70 (f + 1) (up2 b2 82 (((uu * 10 + p) * 6 + e) * 3 + f) (q (3 + (ut * 3 + f)) (p * 6 + e))) (by omega) (by rw [← Nat.add_assoc, syK_y (by omega) (by omega) h101]; exact hR2.vl1 (by omega) (by omega) (by omega) (by omega)) (hK2.tr (KQ.up (by omega))) ht2 (by omega)
                                     rw [z3 true q1] at ih
                                     exact ih)
                                  | (have q1 : syD q ut uu ((p * 6 + e) * 3 + f) = false := by unfold syD; rw [z1, z2]; first | (rw [decide_eq_false h101]; rfl) | (unfold dif; rw [show decide (¬ q (3 + (uu * 3 + f)) (p * 6 + e) = q (3 + (ut * 3 + f)) (p * 6 + e)) = false from decide_eq_false (fun z => z h121.symm), Bool.and_false])
                                     have ih := ih70 (f + 1) b2 (by omega) (by rw [← Nat.add_assoc, syK_n (by omega) (by omega) q1]; exact hR2) hK2 ht2 (by omega)
                                     rw [z3 false q1] at ih
                                     exact ih)
                      exact L70 _ 0 _ (Nat.zero_le _) hR2 hK2 ht2 (Nat.lt_succ_self _)
                have L := L58 _ 0 _ (Nat.zero_le _) (by rw [show (p * 6 + 0) * 3 = p * 18 by omega]; exact hR2) hK2 ht2 (Nat.lt_succ_self _)
                rw [show (p * 6 + 0) * 3 = p * 18 by omega] at L
                exact L
          exact L46 _ 0 (up2 b 70 0 0) (Nat.zero_le _) (by rw [Nat.zero_mul, syK_0]; exact hR) KQ.th rfl (Nat.lt_succ_self _)
        · exact absurd h36 (by decide)
      · refine V_iconst (v := 2) C dX4_sync_24 (by decide) ?_
        refine V_goto C 29 dX4_sync_25 (by decide) ?_
        refine pt_X4_thrown C fk_X4_59 dX4_sync_29 ?_
        refine V_aload_n C dX4_sync_32 rfl ?_
        refine gt_X4_thrown C fk_X4_59 dX4_sync_33 ?_
        refine V_topi (show _ = (2 : Int32) from rfl) ?_
        refine V_if_le C 41 dX4_sync_36 (by decide) (fun h36 => ?_) (fun h36 => ?_)
        · exact absurd h36 (by decide)
        · refine V_iconst (v := 0) C dX4_sync_39 (by decide) ?_
          have hg : gg = some eA := hG.trans (by first | (simp [g3_sync, gS, gO, h5, h12, h21, h36]; done))
          exact V_ireti C hr dX4_sync_40 ⟨rfl, by rw [hg]; rfl, by rw [hg]; rfl, (by first | exact KQ.th | exact KQ.th.tr KQ.th), fun z => (by rw [hg] at z; cases z), fun _ => hR⟩
    · refine V_iconst (v := 1) C dX4_sync_15 (by decide) ?_
      refine V_goto C 29 dX4_sync_16 (by decide) ?_
      refine pt_X4_thrown C fk_X4_59 dX4_sync_29 ?_
      refine V_aload_n C dX4_sync_32 rfl ?_
      refine gt_X4_thrown C fk_X4_59 dX4_sync_33 ?_
      refine V_topi (show _ = (1 : Int32) from rfl) ?_
      refine V_if_le C 41 dX4_sync_36 (by decide) (fun h36 => ?_) (fun h36 => ?_)
      · exact absurd h36 (by decide)
      · refine V_iconst (v := 0) C dX4_sync_39 (by decide) ?_
        have hg : gg = some eI := hG.trans (by first | (simp [g3_sync, gS, gO, h5, h12, h36]; done))
        exact V_ireti C hr dX4_sync_40 ⟨rfl, by rw [hg]; rfl, by rw [hg]; rfl, (by first | exact KQ.th | exact KQ.th.tr KQ.th), fun z => (by rw [hg] at z; cases z), fun _ => hR⟩
