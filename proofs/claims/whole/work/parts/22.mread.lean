/-! the reference's calls -/
/-- the word of a throw: its place among those of the call, from 1 on -/
def cd (L : List String) (g : Option String) : Int32 := match g with
  | none => 0
  | some E => nI (L.idxOf E + 1)
def rd (g : Option String) (F : Int32) : Int32 := match g with
  | none => F
  | some _ => 0
def mm (L : List String) (g : Option String) (b B' : Mem) : Mem := match g with
  | none => B'
  | some E => up2 b 70 0 (cd L (some E))
theorem up2_2 {b : Mem} {k j : Nat} {v w : Int32} : up2 (up2 b k j v) k j w = up2 b k j w := by
  funext c i
  unfold up2
  by_cases h : c = k ∧ i = j
  · rw [if_pos h, if_pos h]
  · rw [if_neg h, if_neg h, if_neg h]
theorem gS_n {g1 g2 : Option String} : gS g1 g2 = none ↔ g1 = none ∧ g2 = none := by
  cases g1 <;> simp [gS]
theorem rd_s {g : Option String} {F : Int32} (h : g.isSome = true) : 0 = rd g F := by
  cases g with
  | none => cases h
  | some E => rfl
theorem rd_n {g : Option String} {F : Int32} (h : g.isSome = false) : F = rd g F := by
  cases g with
  | none => rfl
  | some E => cases h
theorem is_n {g : Option String} (h : g.isSome = false) : g = none := by
  cases g with
  | none => rfl
  | some E => cases h
theorem RR.th {q b : Mem} (h : RR q b) {v : Int32} : RR q (up2 b 70 0 v) := h

/-- two seats at one slot, or of one exam, are one -/
theorem ha_u {q : Mem} (hI : IQ q) {p j k : Nat} {s : Int32} (hp : p < 10) (hk : k < nO q) (h1 : haB q p s k = true) (hj : j < k) : haB q p s j = false := by
  cases h : haB q p s j with
  | false => rfl
  | true =>
    simp only [haB, Bool.and_eq_true, decide_eq_true_eq] at h h1
    exact absurd (congrArg tn (h.1.trans h1.1.symm)) (hI.nc p hp j k hj hk h.2 h1.2).1
theorem hf_u {q : Mem} (hI : IQ q) {p j k : Nat} {ex z : Int32} (hp : p < 10) (hk : k < nO q) (h1 : hfB q p ex z k = true) (hj : j < k) : hfB q p ex z j = false := by
  cases h : hfB q p ex z j with
  | false => rfl
  | true =>
    simp only [hfB, isOfB, Bool.and_eq_true, decide_eq_true_eq] at h h1
    refine absurd ?_ (hI.nc p hp j k hj hk h.2 h1.2).2
    show 2 * tn (q (18 + 4 * j) 0) + zN q j = 2 * tn (q (18 + 4 * k) 0) + zN q k
    unfold zN
    rw [h.1.1, h.1.2, h1.1.1, h1.1.2]
theorem nthS_u {f : Nat → Bool} {idx : Int32} {j k : Nat} (hk : k < 10) (h1 : nthS f idx k = true) (hj : j < k) : nthS f idx j = false := by
  cases h : nthS f idx j with
  | false => rfl
  | true =>
    simp only [nthS, Bool.and_eq_true, decide_eq_true_eq] at h h1
    have h3 : cntN f (j + 1) ≤ cntN f k := by
      have : ∀ d, cntN f (j + 1) ≤ cntN f (j + 1 + d) := by
        intro d
        induction d with
        | zero => exact Nat.le_refl _
        | succ d ih =>
          have e : cntN f (j + 1 + (d + 1)) = cntN f (j + 1 + d) + (if f (j + 1 + d) = true then 1 else 0) := rfl
          omega
      have e : k = j + 1 + (k - (j + 1)) := by omega
      rw [e]; exact this _
    have h4 : cntN f (j + 1) = cntN f j + 1 := by rw [cntN, h.1]; rfl
    have h5 := cntN_le f k
    have := congrArg tn (h.2.trans h1.2.symm)
    unfold tn at this
    rw [nI_clamp (by omega), nI_clamp (by omega)] at this
    omega
theorem nthS_neg {f : Nat → Bool} {idx : Int32} {j : Nat} (h : idx < 0) (hj : j < 10) : nthS f idx j = false := by
  have h2 := cntN_le f j
  have h3 : ¬ nI (cntN f j) = idx := by
    intro e
    rw [← e, Int32.lt_iff_toInt_lt, nI_toInt (by omega)] at h
    have h0 : (0 : Int32).toInt = 0 := by decide
    omega
  simp [nthS, h3]
theorem firN_ext {f : Nat → Bool} {n k : Nat} (hn : n ≤ k) (h : ∀ j, n ≤ j → j < k → f j = false) : (firN f k < k ↔ firN f n < n) ∧ (firN f n < n → firN f k = firN f n) := by
  induction k with
  | zero => have : n = 0 := by omega
            subst this; simp
  | succ k ih =>
    by_cases e : n = k + 1
    · subst e; simp
    · obtain ⟨h1, h2⟩ := ih (by omega) (fun j h1 h2 => h j h1 (by omega))
      have h3 := h k (by omega) (by omega)
      have h4 := firN_le f k
      simp only [firN, h3]
      by_cases h5 : firN f k < k
      · rw [if_pos h5]
        exact ⟨⟨fun _ => h1.mp h5, fun _ => by omega⟩, fun z => h2 z⟩
      · rw [if_neg h5]
        have h6 : ¬ firN f n < n := fun z => h5 (h1.mpr z)
        exact ⟨⟨fun z => by simp at z, fun z => absurd z h6⟩, fun z => absurd z h6⟩
theorem fI_ext {f : Nat → Bool} {n k : Nat} (hn : n ≤ k) (h : ∀ j, n ≤ j → j < k → f j = false) : fI f k = fI f n := by
  obtain ⟨h1, h2⟩ := firN_ext hn h
  unfold fI
  by_cases h3 : firN f n < n
  · rw [if_pos h3, if_pos (h1.mpr h3), h2 h3]
  · rw [if_neg h3, if_neg (fun z => h3 (h1.mp z))]
theorem fI_nth {q : Mem} (hW : WC q) (hI : IQ q) {i : Nat} {idx : Int32} (hi : i < 12) : fI (nthS (hs q i) idx) (nP q) = fI (nthS (hs q i) idx) 10 :=
  (fI_ext hW.pl (fun p h1 h2 => by simp [nthS, (hI.pb p h1 h2).1 i hi])).symm
theorem fI_yes {f : Nat → Bool} {n : Nat} (h : anyN f n = true) : fI f n = nI (firN f n) := if_pos (firN_any.mpr h)
theorem isub_n (i : Int32) (n : Nat) : i - nI n - 1 = i - nI (n + 1) := by
  rw [← nI_1, ← Int32.sub_sub]
theorem sub0 {i : Int32} {n : Nat} : i - nI n = 0 ↔ nI n = i := by
  constructor
  · intro h
    have := congrArg (· + nI n) h
    simpa using this.symm
  · intro h; rw [h, Int32.sub_self]

set_option maxHeartbeats 4000000 in
set_option maxRecDepth 100000 in
theorem c_X4_noRecord {l : Launch} {x : Sh} {a b : Mem} {o : Out} (hfl : l.stackTraces = false) {q : Mem} (hW : WC q) (hI : IQ q) (hR : RR q b) {t p ex : Int32} : MG l x yX4_noRecord cX4_noRecord 4 (some .boolean) 2 120 [.ref (x.2.1 70), .int t, .int p, .int ex] a b o (QI x o (FI (bI (!(inB t 3 && inB p (q 0 9) && inB ex (q 0 8)))) a b)) := by
  refine MG.of (maxL := 4) (ret := (some .boolean)) hfl (by decide) [some (.ref (x.2.1 70)), some (.int t), some (.int p), some (.int ex)] rfl rfl (Nat.le_of_ble_eq_true rfl) ?_
  intro pP eE sS mM argsA belowB methM cC C hr
  refine V_iload_n C dX4_noRecord_0 rfl ?_
  refine V_callf (R_S C (c_X4_isStore hfl) mi_X4_isStore mk_X4_168 rfl (by decide) rfl (Nat.le_of_ble_eq_true rfl) (by decide) dX4_noRecord_1) ?_
  refine V_ifb_eq C 23 dX4_noRecord_4 (by decide) (fun h4 => ?_) (fun h4 => ?_)
  · refine V_iconst (v := 1) C dX4_noRecord_23 (by decide) ?_
    refine V_goto C 28 dX4_noRecord_24 (by decide) ?_
    exact V_iretz C hr (by first | exact Or.inl rfl | exact Or.inr rfl | exact bI_or _) dX4_noRecord_28 ⟨by first | (simp [bI, h4]; done) | (simp [bI, h4, h12]; done) | (simp [bI, h4, h12, h20]; done), rfl, rfl⟩
  · refine V_aload_n C dX4_noRecord_7 rfl ?_
    refine V_iload_n C dX4_noRecord_8 rfl ?_
    refine V_callf (R_V C (c_X4_isPupil hfl hW hI hR) mi_X4_isPupil mk_X4_90 rfl (by omega) rfl (rfl : vwCl[6]? = some (RX4, TX4, 24)) (by decide) rfl (Nat.le_of_ble_eq_true rfl) (by decide) dX4_noRecord_9) ?_
    refine V_ifb_eq C 23 dX4_noRecord_12 (by decide) (fun h12 => ?_) (fun h12 => ?_)
    · refine V_iconst (v := 1) C dX4_noRecord_23 (by decide) ?_
      refine V_goto C 28 dX4_noRecord_24 (by decide) ?_
      exact V_iretz C hr (by first | exact Or.inl rfl | exact Or.inr rfl | exact bI_or _) dX4_noRecord_28 ⟨by first | (simp [bI, h4]; done) | (simp [bI, h4, h12]; done) | (simp [bI, h4, h12, h20]; done), rfl, rfl⟩
    · refine V_aload_n C dX4_noRecord_15 rfl ?_
      refine V_iload_n C dX4_noRecord_16 rfl ?_
      refine V_callf (R_V C (c_X4_isExam hfl hW hI hR) mi_X4_isExam mk_X4_79 rfl (by omega) rfl (rfl : vwCl[6]? = some (RX4, TX4, 24)) (by decide) rfl (Nat.le_of_ble_eq_true rfl) (by decide) dX4_noRecord_17) ?_
      refine V_ifb_ne C 27 dX4_noRecord_20 (by decide) (fun h20 => ?_) (fun h20 => ?_)
      · refine V_iconst (v := 0) C dX4_noRecord_27 (by decide) ?_
        exact V_iretz C hr (by first | exact Or.inl rfl | exact Or.inr rfl | exact bI_or _) dX4_noRecord_28 ⟨by first | (simp [bI, h4]; done) | (simp [bI, h4, h12]; done) | (simp [bI, h4, h12, h20]; done), rfl, rfl⟩
      · refine V_iconst (v := 1) C dX4_noRecord_23 (by decide) ?_
        refine V_goto C 28 dX4_noRecord_24 (by decide) ?_
        exact V_iretz C hr (by first | exact Or.inl rfl | exact Or.inr rfl | exact bI_or _) dX4_noRecord_28 ⟨by first | (simp [bI, h4]; done) | (simp [bI, h4, h12]; done) | (simp [bI, h4, h12, h20]; done), rfl, rfl⟩
set_option maxHeartbeats 4000000 in
set_option maxRecDepth 100000 in
theorem c_X4_points {l : Launch} {x : Sh} {a b : Mem} {o : Out} (hfl : l.stackTraces = false) {q : Mem} (hW : WC q) (hI : IQ q) (hR : RR q b) {p : Int32} : MG l x yX4_points cX4_points 2 (some .int) 6 280 [.ref (x.2.1 70), .int p] a b o (QI x o (FI (rd (gP q p) (q 67 (tn p))) a (up2 b 70 0 (cd [eI] (gP q p))))) := by
  refine MG.of (maxL := 2) (ret := (some .int)) hfl (by decide) [some (.ref (x.2.1 70)), some (.int p)] rfl rfl (Nat.le_of_ble_eq_true rfl) ?_
  intro pP eE sS mM argsA belowB methM cC C hr
  have ho12 := hW.ol
  have hp10 := hW.pl
  have he6 := hW.el
  obtain ⟨gg, hG⟩ : ∃ gg, gg = (gP q p) := ⟨_, rfl⟩
  rw [← hG]
  refine V_aload_n C dX4_points_0 rfl ?_
  refine V_aload_n C dX4_points_1 rfl ?_
  refine V_iload_n C dX4_points_2 rfl ?_
  refine V_callf (R_V C (c_X4_isPupil hfl hW hI hR) mi_X4_isPupil mk_X4_90 rfl (by omega) rfl (rfl : vwCl[6]? = some (RX4, TX4, 24)) (by decide) rfl (Nat.le_of_ble_eq_true rfl) (by decide) dX4_points_3) ?_
  refine V_ifb_eq C 13 dX4_points_6 (by decide) (fun h6 => ?_) (fun h6 => ?_)
  · refine V_iconst (v := 1) C dX4_points_13 (by decide) ?_
    refine pt_X4_thrown C fk_X4_59 dX4_points_14 ?_
    refine V_aload_n C dX4_points_17 rfl ?_
    refine gt_X4_thrown C fk_X4_59 dX4_points_18 ?_
    refine V_topi (show _ = (1 : Int32) from rfl) ?_
    refine V_if_le C 28 dX4_points_21 (by decide) (fun h21 => ?_) (fun h21 => ?_)
    · exact absurd h21 (by decide)
    · refine V_iconst (v := 0) C dX4_points_24 (by decide) ?_
      refine V_goto C 34 dX4_points_25 (by decide) ?_
      have hg : gg = some eI := hG.trans (by simp [gO, gS, gO, gP, gE, gQ, gT, gL, gF, h6, h21])
      exact V_ireti C hr dX4_points_34 ⟨by rw [hg]; exact rfl, rfl, by rw [hg]; exact (by first | exact up2_2 | exact up2_2.trans up2_2 | rfl)⟩
  · obtain ⟨jp, hjp, jpe⟩ := ix_of (E := eI) (gO_n.mpr h6) hW.pe (by omega)
    subst jpe
    have tjp : tn (nI jp) = jp := tn_nI (by omega)
    try rw [tjp]
    refine V_iconst (v := 0) C dX4_points_9 (by decide) ?_
    refine V_goto C 14 dX4_points_10 (by decide) ?_
    refine pt_X4_thrown C fk_X4_59 dX4_points_14 ?_
    refine V_aload_n C dX4_points_17 rfl ?_
    refine gt_X4_thrown C fk_X4_59 dX4_points_18 ?_
    refine V_topi (show _ = (0 : Int32) from rfl) ?_
    refine V_if_le C 28 dX4_points_21 (by decide) (fun h21 => ?_) (fun h21 => ?_)
    · refine V_aload_n C dX4_points_28 rfl ?_
      refine gt_X4_points C fk_X4_50 dX4_points_29 ?_
      refine V_iload_n C dX4_points_32 rfl ?_
      refine la_m_points C _ rfl (by omega) dX4_points_33 ?_
      refine V_topi (hR.th.pt (by omega)) ?_
      have hg : gg = none := hG.trans (by simp [gO, gS, gO, gP, gE, gQ, gT, gL, gF, h6, h21])
      exact V_ireti C hr dX4_points_34 ⟨by rw [hg]; exact rfl, rfl, by rw [hg]; exact (by first | exact up2_2 | exact up2_2.trans up2_2 | rfl)⟩
    · exact absurd h21 (by decide)
set_option maxHeartbeats 4000000 in
set_option maxRecDepth 100000 in
theorem c_X4_offerAt {l : Launch} {x : Sh} {a b : Mem} {o : Out} (hfl : l.stackTraces = false) {q : Mem} (hW : WC q) (hI : IQ q) (hR : RR q b) {p : Nat} (hp : p < 10) {s : Int32} : MG l x yX4_offerAt cX4_offerAt 5 (some .int) 1 80 [.ref (x.2.1 70), .int (nI p), .int s] a b o (QI x o (FI (fI (haB q p s) (nO q)) a b)) := by
  refine MG.of (maxL := 5) (ret := (some .int)) hfl (by decide) [some (.ref (x.2.1 70)), some (.int (nI p)), some (.int s), none, none] rfl rfl (Nat.le_of_ble_eq_true rfl) ?_
  intro pP eE sS mM argsA belowB methM cC C hr
  have ho12 := hW.ol
  refine V_iconst (v := -1) C dX4_offerAt_0 (by decide) ?_
  refine V_istore_n3 C dX4_offerAt_1 (by decide) ?_
  refine V_iconst (v := 0) C dX4_offerAt_2 (by decide) ?_
  refine V_istore_4 C dX4_offerAt_3 (by decide) ?_
  have L5 : ∀ (fuel : Nat) (k : Nat), k ≤ nO q → nO q - k < fuel → VV pP l eE ({ frames := 1, cells := 0, slots := 0, locals := 80 } : Room) sS mM argsA belowB methM cC (MQ belowB (QI x o (FI (fI (haB q p s) (nO q)) a b) sS.heap.size) argsA sS 0 0 (AW x sS.heap.size)) x 5 a b o 0 0 5 [some (.ref (x.2.1 70)), some (.int (nI p)), some (.int s), some (.int (fI (haB q p s) k)), some (.int (nI k))] [] := by
    intro fuel
    induction fuel with
    | zero => intro k hk hm; exact absurd hm (Nat.not_lt_zero _)
    | succ fuel ih5 =>
      intro k hk hm
      refine V_iload C dX4_offerAt_5 rfl ?_
      refine V_aload_n C dX4_offerAt_7 rfl ?_
      refine gt_X4_offers C fk_X4_73 dX4_offerAt_8 ?_
      refine V_topi (hR.c4.trans hW.oe) ?_
      refine V_lt C 53 dX4_offerAt_11 (by decide) (by omega) (by omega) (fun h11 => ?_) (fun h11 => ?_)
      · have e9 : k = nO q := by omega
        subst e9
        refine V_iload_n C dX4_offerAt_53 rfl ?_
        exact V_ireti C hr dX4_offerAt_54 ⟨rfl, rfl, rfl⟩
      · refine V_aload_n C dX4_offerAt_14 rfl ?_
        refine gt_X4_slot C fk_X4_16 dX4_offerAt_15 ?_
        refine V_iload C dX4_offerAt_18 rfl ?_
        refine la_m_slot C _ rfl (by omega) dX4_offerAt_20 ?_
        refine V_topi (hR.sl (by omega)) ?_
        refine V_iload_n C dX4_offerAt_21 rfl ?_
        refine V_icmp_ne C 45 dX4_offerAt_22 (by decide) (fun h22 => ?_) (fun h22 => ?_)
        · refine V_iload_n C dX4_offerAt_45 rfl ?_
          refine V_istore_n3 C dX4_offerAt_46 (by decide) ?_
          refine V_iinc_4 C _ dX4_offerAt_47 (nI_1 _) (by decide) ?_
          refine V_goto C 5 dX4_offerAt_50 (by decide) ?_
          have ih := ih5 (k + 1) (by omega) (by omega)
          first
            | (have q1 : haB q p s k = true := by (simp [haB, hs, h22, h37]; done)
               rw [fI_t q1 (fun j hj => ha_u hI hp h11 q1 hj)] at ih; exact ih)
            | (rw [fI_s (show haB q p s k = false by (first | (simp [haB, h22]; done) | (simp [haB, hs, h22, h37]; done)))] at ih; exact ih)
        · refine V_aload_n C dX4_offerAt_25 rfl ?_
          refine gt_X4_paid C fk_X4_41 dX4_offerAt_26 ?_
          refine V_iload_n C dX4_offerAt_29 rfl ?_
          refine V_iload C dX4_offerAt_30 rfl ?_
          refine V_callf (R_S C (c_X4_pair hfl) mi_X4_pair mk_X4_96 rfl (by decide) rfl (Nat.le_of_ble_eq_true rfl) (by decide) dX4_offerAt_32) ?_
          refine la_m_paid C _ rfl (by omega) dX4_offerAt_35 ?_
          refine V_topi (hR.pd hp (by omega)) ?_
          refine V_iconst (v := -1) C dX4_offerAt_36 (by decide) ?_
          refine V_icmp_eq C 45 dX4_offerAt_37 (by decide) (fun h37 => ?_) (fun h37 => ?_)
          · refine V_iload_n C dX4_offerAt_45 rfl ?_
            refine V_istore_n3 C dX4_offerAt_46 (by decide) ?_
            refine V_iinc_4 C _ dX4_offerAt_47 (nI_1 _) (by decide) ?_
            refine V_goto C 5 dX4_offerAt_50 (by decide) ?_
            have ih := ih5 (k + 1) (by omega) (by omega)
            first
              | (have q1 : haB q p s k = true := by (simp [haB, hs, h22, h37]; done)
                 rw [fI_t q1 (fun j hj => ha_u hI hp h11 q1 hj)] at ih; exact ih)
              | (rw [fI_s (show haB q p s k = false by (first | (simp [haB, h22]; done) | (simp [haB, hs, h22, h37]; done)))] at ih; exact ih)
          · refine V_iload C dX4_offerAt_40 rfl ?_
            refine V_goto C 46 dX4_offerAt_42 (by decide) ?_
            refine V_istore_n3 C dX4_offerAt_46 (by decide) ?_
            refine V_iinc_4 C _ dX4_offerAt_47 (nI_1 _) (by decide) ?_
            refine V_goto C 5 dX4_offerAt_50 (by decide) ?_
            have ih := ih5 (k + 1) (by omega) (by omega)
            first
              | (have q1 : haB q p s k = true := by (simp [haB, hs, h22, h37]; done)
                 rw [fI_t q1 (fun j hj => ha_u hI hp h11 q1 hj)] at ih; exact ih)
              | (rw [fI_s (show haB q p s k = false by (first | (simp [haB, h22]; done) | (simp [haB, hs, h22, h37]; done)))] at ih; exact ih)
  exact L5 _ 0 (Nat.zero_le _) (Nat.lt_succ_self _)
set_option maxHeartbeats 4000000 in
set_option maxRecDepth 100000 in
theorem c_X4_noneAt {l : Launch} {x : Sh} {a b : Mem} {o : Out} (hfl : l.stackTraces = false) {q : Mem} (hW : WC q) (hI : IQ q) (hR : RR q b) {p s : Int32} : MG l x yX4_noneAt cX4_noneAt 3 (some .boolean) 6 280 [.ref (x.2.1 70), .int p, .int s] a b o (QI x o (FI (bI (g3_at q p s).isSome) a (up2 b 70 0 (cd [eI, eA, eN] (g3_at q p s))))) := by
  refine MG.of (maxL := 3) (ret := (some .boolean)) hfl (by decide) [some (.ref (x.2.1 70)), some (.int p), some (.int s)] rfl rfl (Nat.le_of_ble_eq_true rfl) ?_
  intro pP eE sS mM argsA belowB methM cC C hr
  have ho12 := hW.ol
  have hp10 := hW.pl
  have he6 := hW.el
  obtain ⟨gg, hG⟩ : ∃ gg, gg = (g3_at q p s) := ⟨_, rfl⟩
  rw [← hG]
  refine V_aload_n C dX4_noneAt_0 rfl ?_
  refine V_aload_n C dX4_noneAt_1 rfl ?_
  refine V_iload_n C dX4_noneAt_2 rfl ?_
  refine V_callf (R_V C (c_X4_isPupil hfl hW hI hR) mi_X4_isPupil mk_X4_90 rfl (by omega) rfl (rfl : vwCl[6]? = some (RX4, TX4, 24)) (by decide) rfl (Nat.le_of_ble_eq_true rfl) (by decide) dX4_noneAt_3) ?_
  refine V_ifb_ne C 13 dX4_noneAt_6 (by decide) (fun h6 => ?_) (fun h6 => ?_)
  · obtain ⟨jp, hjp, jpe⟩ := ix_of (E := eI) (gO_n.mpr h6) hW.pe (by omega)
    subst jpe
    have tjp : tn (nI jp) = jp := tn_nI (by omega)
    try rw [tjp]
    refine V_iload_n C dX4_noneAt_13 rfl ?_
    refine V_callf (R_S C (c_X4_isSlot hfl) mi_X4_isSlot mk_X4_83 rfl (by decide) rfl (Nat.le_of_ble_eq_true rfl) (by decide) dX4_noneAt_14) ?_
    refine V_ifb_ne C 24 dX4_noneAt_17 (by decide) (fun h17 => ?_) (fun h17 => ?_)
    · refine V_iconst (v := 0) C dX4_noneAt_24 (by decide) ?_
      refine pt_X4_thrown C fk_X4_59 dX4_noneAt_25 ?_
      refine V_aload_n C dX4_noneAt_28 rfl ?_
      refine gt_X4_thrown C fk_X4_59 dX4_noneAt_29 ?_
      refine V_topi (show _ = (0 : Int32) from rfl) ?_
      refine V_if_ne C 54 dX4_noneAt_32 (by decide) (fun h32 => ?_) (fun h32 => ?_)
      · exact absurd h32 (by decide)
      · refine V_aload_n C dX4_noneAt_35 rfl ?_
        refine V_aload_n C dX4_noneAt_36 rfl ?_
        refine V_iload_n C dX4_noneAt_37 rfl ?_
        refine V_iload_n C dX4_noneAt_38 rfl ?_
        refine V_callf (R_V C (c_X4_offerAt hfl hW hI hR.th (by omega)) mi_X4_offerAt mk_X4_153 rfl (by omega) rfl (rfl : vwCl[6]? = some (RX4, TX4, 24)) (by decide) rfl (Nat.le_of_ble_eq_true rfl) (by decide) dX4_noneAt_39) ?_
        refine V_iconst (v := -1) C dX4_noneAt_42 (by decide) ?_
        refine V_icmp_ne C 50 dX4_noneAt_43 (by decide) (fun h43 => ?_) (fun h43 => ?_)
        · have q7 : anyN (haB q jp s) (nO q) = true := by
            cases hx : anyN (haB q jp s) (nO q) with
            | true => rfl
            | false => exact absurd ((fI_any (n := nO q) (by omega)).mpr hx) h43
          refine V_iconst (v := 0) C dX4_noneAt_50 (by decide) ?_
          refine pt_X4_thrown C fk_X4_59 dX4_noneAt_51 ?_
          refine V_aload_n C dX4_noneAt_54 rfl ?_
          refine gt_X4_thrown C fk_X4_59 dX4_noneAt_55 ?_
          refine V_topi (show _ = (0 : Int32) from rfl) ?_
          refine V_if_le C 65 dX4_noneAt_58 (by decide) (fun h58 => ?_) (fun h58 => ?_)
          · refine V_iconst (v := 0) C dX4_noneAt_65 (by decide) ?_
            have hg : gg = none := hG.trans (by first | (simp [g3_at, gS, gO, h6, h17, h32, h43, h58]; done) | (simp [g3_at, gS, gO, tjp, h6, h17, h32, h43, h58]; done) | (simp [g3_at, gS, gO, tjp, q7, h6, h17, h32, h43, h58]; done))
            exact V_iretz C hr (by first | exact Or.inl rfl | exact Or.inr rfl | exact bI_or _) dX4_noneAt_66 ⟨by rw [hg]; exact rfl, rfl, by rw [hg]; exact (by first | exact up2_2 | exact up2_2.trans up2_2 | rfl)⟩
          · exact absurd h58 (by decide)
        · have q7 : anyN (haB q jp s) (nO q) = false := (fI_any (n := nO q) (by omega)).mp (by simpa using h43)
          refine V_iconst (v := 3) C dX4_noneAt_46 (by decide) ?_
          refine V_goto C 51 dX4_noneAt_47 (by decide) ?_
          refine pt_X4_thrown C fk_X4_59 dX4_noneAt_51 ?_
          refine V_aload_n C dX4_noneAt_54 rfl ?_
          refine gt_X4_thrown C fk_X4_59 dX4_noneAt_55 ?_
          refine V_topi (show _ = (3 : Int32) from rfl) ?_
          refine V_if_le C 65 dX4_noneAt_58 (by decide) (fun h58 => ?_) (fun h58 => ?_)
          · exact absurd h58 (by decide)
          · refine V_iconst (v := 1) C dX4_noneAt_61 (by decide) ?_
            refine V_goto C 66 dX4_noneAt_62 (by decide) ?_
            have hg : gg = some eN := hG.trans (by first | (simp [g3_at, gS, gO, h6, h17, h32, h43, h58]; done) | (simp [g3_at, gS, gO, tjp, h6, h17, h32, h43, h58]; done) | (simp [g3_at, gS, gO, tjp, q7, h6, h17, h32, h43, h58]; done))
            exact V_iretz C hr (by first | exact Or.inl rfl | exact Or.inr rfl | exact bI_or _) dX4_noneAt_66 ⟨by rw [hg]; exact rfl, rfl, by rw [hg]; exact (by first | exact up2_2 | exact up2_2.trans up2_2 | rfl)⟩
    · refine V_iconst (v := 2) C dX4_noneAt_20 (by decide) ?_
      refine V_goto C 25 dX4_noneAt_21 (by decide) ?_
      refine pt_X4_thrown C fk_X4_59 dX4_noneAt_25 ?_
      refine V_aload_n C dX4_noneAt_28 rfl ?_
      refine gt_X4_thrown C fk_X4_59 dX4_noneAt_29 ?_
      refine V_topi (show _ = (2 : Int32) from rfl) ?_
      refine V_if_ne C 54 dX4_noneAt_32 (by decide) (fun h32 => ?_) (fun h32 => ?_)
      · refine V_aload_n C dX4_noneAt_54 rfl ?_
        refine gt_X4_thrown C fk_X4_59 dX4_noneAt_55 ?_
        refine V_topi (show _ = (2 : Int32) from rfl) ?_
        refine V_if_le C 65 dX4_noneAt_58 (by decide) (fun h58 => ?_) (fun h58 => ?_)
        · exact absurd h58 (by decide)
        · refine V_iconst (v := 1) C dX4_noneAt_61 (by decide) ?_
          refine V_goto C 66 dX4_noneAt_62 (by decide) ?_
          have hg : gg = some eA := hG.trans (by first | (simp [g3_at, gS, gO, h6, h17, h32, h58]; done) | (simp [g3_at, gS, gO, tjp, h6, h17, h32, h58]; done) | (simp [g3_at, gS, gO, tjp, q7, h6, h17, h32, h58]; done))
          exact V_iretz C hr (by first | exact Or.inl rfl | exact Or.inr rfl | exact bI_or _) dX4_noneAt_66 ⟨by rw [hg]; exact rfl, rfl, by rw [hg]; exact (by first | exact up2_2 | exact up2_2.trans up2_2 | rfl)⟩
      · exact absurd h32 (by decide)
  · refine V_iconst (v := 1) C dX4_noneAt_9 (by decide) ?_
    refine V_goto C 25 dX4_noneAt_10 (by decide) ?_
    refine pt_X4_thrown C fk_X4_59 dX4_noneAt_25 ?_
    refine V_aload_n C dX4_noneAt_28 rfl ?_
    refine gt_X4_thrown C fk_X4_59 dX4_noneAt_29 ?_
    refine V_topi (show _ = (1 : Int32) from rfl) ?_
    refine V_if_ne C 54 dX4_noneAt_32 (by decide) (fun h32 => ?_) (fun h32 => ?_)
    · refine V_aload_n C dX4_noneAt_54 rfl ?_
      refine gt_X4_thrown C fk_X4_59 dX4_noneAt_55 ?_
      refine V_topi (show _ = (1 : Int32) from rfl) ?_
      refine V_if_le C 65 dX4_noneAt_58 (by decide) (fun h58 => ?_) (fun h58 => ?_)
      · exact absurd h58 (by decide)
      · refine V_iconst (v := 1) C dX4_noneAt_61 (by decide) ?_
        refine V_goto C 66 dX4_noneAt_62 (by decide) ?_
        have hg : gg = some eI := hG.trans (by first | (simp [g3_at, gS, gO, h6, h32, h58]; done) | (simp [g3_at, gS, gO, tjp, h6, h32, h58]; done) | (simp [g3_at, gS, gO, tjp, q7, h6, h32, h58]; done))
        exact V_iretz C hr (by first | exact Or.inl rfl | exact Or.inr rfl | exact bI_or _) dX4_noneAt_66 ⟨by rw [hg]; exact rfl, rfl, by rw [hg]; exact (by first | exact up2_2 | exact up2_2.trans up2_2 | rfl)⟩
    · exact absurd h32 (by decide)
set_option maxHeartbeats 4000000 in
set_option maxRecDepth 100000 in
theorem c_X4_at {l : Launch} {x : Sh} {a b : Mem} {o : Out} (hfl : l.stackTraces = false) {q : Mem} (hW : WC q) (hI : IQ q) (hR : RR q b) {p s : Int32} : MG l x yX4_at cX4_at 3 (some .int) 7 320 [.ref (x.2.1 70), .int p, .int s] a b o (QI x o (FI (rd (g3_at q p s) (q (18 + 4 * firN (haB q (tn p) s) (nO q)) 0)) a (up2 b 70 0 (cd [eI, eA, eN] (g3_at q p s))))) := by
  refine MG.of (maxL := 3) (ret := (some .int)) hfl (by decide) [some (.ref (x.2.1 70)), some (.int p), some (.int s)] rfl rfl (Nat.le_of_ble_eq_true rfl) ?_
  intro pP eE sS mM argsA belowB methM cC C hr
  have ho12 := hW.ol
  have hp10 := hW.pl
  have he6 := hW.el
  refine V_aload_n C dX4_at_0 rfl ?_
  refine V_iload_n C dX4_at_1 rfl ?_
  refine V_iload_n C dX4_at_2 rfl ?_
  refine V_callf (R_V C (c_X4_noneAt hfl hW hI hR) mi_X4_noneAt mk_X4_156 rfl (by omega) rfl (rfl : vwCl[6]? = some (RX4, TX4, 24)) (by decide) rfl (Nat.le_of_ble_eq_true rfl) (by decide) dX4_at_3) ?_
  refine V_ifb_eq C 13 dX4_at_6 (by decide) (fun h6 => ?_) (fun h6 => ?_)
  · have hn := is_n h6
    obtain ⟨n1, n2⟩ := gS_n.mp hn
    obtain ⟨n2, n3⟩ := gS_n.mp n2
    obtain ⟨jp, hjp, jpe⟩ := ix_of n1 hW.pe (by omega)
    subst jpe
    have tjp : tn (nI jp) = jp := tn_nI (by omega)
    rw [tjp] at n3
    have q7 := gO_n.mp n3
    have q8 := firN_any.mpr q7
    refine V_aload_n C dX4_at_13 rfl ?_
    refine gt_X4_exam C fk_X4_13 dX4_at_14 ?_
    refine V_aload_n C dX4_at_17 rfl ?_
    refine V_iload_n C dX4_at_18 rfl ?_
    refine V_iload_n C dX4_at_19 rfl ?_
    refine V_callf (R_V C (c_X4_offerAt hfl hW hI hR.th (by omega)) mi_X4_offerAt mk_X4_153 rfl (by omega) rfl (rfl : vwCl[6]? = some (RX4, TX4, 24)) (by decide) rfl (Nat.le_of_ble_eq_true rfl) (by decide) dX4_at_20) ?_
    rw [fI_yes q7]
    refine la_m_exam C _ rfl (by omega) dX4_at_23 ?_
    refine V_topi (hR.th.ex (by omega)) ?_
    exact V_ireti C hr dX4_at_24 ⟨by first | exact rd_s h6 | (rw [hn, tjp]; rfl), rfl, rfl⟩
  · refine V_iconst (v := 0) C dX4_at_9 (by decide) ?_
    refine V_goto C 24 dX4_at_10 (by decide) ?_
    exact V_ireti C hr dX4_at_24 ⟨by first | exact rd_s h6 | (rw [hn, tjp]; rfl), rfl, rfl⟩
set_option maxHeartbeats 4000000 in
set_option maxRecDepth 100000 in
theorem c_X4_more {l : Launch} {x : Sh} {a b : Mem} {o : Out} (hfl : l.stackTraces = false) {q : Mem} (hW : WC q) (hI : IQ q) (hR : RR q b) {p s : Int32} : MG l x yX4_more cX4_more 3 (some .int) 7 320 [.ref (x.2.1 70), .int p, .int s] a b o (QI x o (FI (rd (g3_at q p s) (q (3 + (ow q 2 * 3 + 2)) (tn p * 6 + exN q (firN (haB q (tn p) s) (nO q))))) a (up2 b 70 0 (cd [eI, eA, eN] (g3_at q p s))))) := by
  refine MG.of (maxL := 3) (ret := (some .int)) hfl (by decide) [some (.ref (x.2.1 70)), some (.int p), some (.int s)] rfl rfl (Nat.le_of_ble_eq_true rfl) ?_
  intro pP eE sS mM argsA belowB methM cC C hr
  have ho12 := hW.ol
  have hp10 := hW.pl
  have he6 := hW.el
  refine V_aload_n C dX4_more_0 rfl ?_
  refine V_iload_n C dX4_more_1 rfl ?_
  refine V_iload_n C dX4_more_2 rfl ?_
  refine V_callf (R_V C (c_X4_noneAt hfl hW hI hR) mi_X4_noneAt mk_X4_156 rfl (by omega) rfl (rfl : vwCl[6]? = some (RX4, TX4, 24)) (by decide) rfl (Nat.le_of_ble_eq_true rfl) (by decide) dX4_more_3) ?_
  refine V_ifb_eq C 13 dX4_more_6 (by decide) (fun h6 => ?_) (fun h6 => ?_)
  · have hn := is_n h6
    obtain ⟨n1, n2⟩ := gS_n.mp hn
    obtain ⟨n2, n3⟩ := gS_n.mp n2
    obtain ⟨jp, hjp, jpe⟩ := ix_of n1 hW.pe (by omega)
    subst jpe
    have tjp : tn (nI jp) = jp := tn_nI (by omega)
    rw [tjp] at n3
    have q7 := gO_n.mp n3
    have q8 := firN_any.mpr q7
    have q9 := hW.exl (i := firN (haB q jp s) (nO q)) (by omega)
    have q10 := hW.owl (k := 2) (by omega)
    refine V_aload_n C dX4_more_13 rfl ?_
    refine gt_X4_value C fk_X4_44 dX4_more_14 ?_
    refine V_aload_n C dX4_more_17 rfl ?_
    refine gt_X4_owner C fk_X4_47 dX4_more_18 ?_
    refine V_iconst (v := nI 2) C dX4_more_21 (by decide) ?_
    refine la_m_owner C _ rfl (by omega) dX4_more_22 ?_
    refine V_topi ((hR.th.ow (by omega)).trans (hW.owe (by omega))) ?_
    refine V_iload_n C dX4_more_23 rfl ?_
    refine V_aload_n C dX4_more_24 rfl ?_
    refine gt_X4_exam C fk_X4_13 dX4_more_25 ?_
    refine V_aload_n C dX4_more_28 rfl ?_
    refine V_iload_n C dX4_more_29 rfl ?_
    refine V_iload_n C dX4_more_30 rfl ?_
    refine V_callf (R_V C (c_X4_offerAt hfl hW hI hR.th (by omega)) mi_X4_offerAt mk_X4_153 rfl (by omega) rfl (rfl : vwCl[6]? = some (RX4, TX4, 24)) (by decide) rfl (Nat.le_of_ble_eq_true rfl) (by decide) dX4_more_31) ?_
    rw [fI_yes q7]
    refine la_m_exam C _ rfl (by omega) dX4_more_34 ?_
    refine V_topi ((hR.th.ex (by omega)).trans (hW.exe (by omega))) ?_
    refine V_iconst (v := nI 2) C dX4_more_35 (by decide) ?_
    refine V_callf (R_S C (c_X4_cell hfl) mi_X4_cell mk_X4_103 rfl (by decide) rfl (Nat.le_of_ble_eq_true rfl) (by decide) dX4_more_36) ?_
    refine la_m_value C _ rfl (by omega) dX4_more_39 ?_
    refine V_topi (hR.th.vl (by omega) (by omega) (by omega) (by omega)) ?_
    exact V_ireti C hr dX4_more_40 ⟨by first | exact rd_s h6 | (rw [hn, tjp]; rfl), rfl, rfl⟩
  · refine V_iconst (v := 0) C dX4_more_9 (by decide) ?_
    refine V_goto C 40 dX4_more_10 (by decide) ?_
    exact V_ireti C hr dX4_more_40 ⟨by first | exact rd_s h6 | (rw [hn, tjp]; rfl), rfl, rfl⟩
set_option maxHeartbeats 4000000 in
set_option maxRecDepth 100000 in
theorem c_X4_seat {l : Launch} {x : Sh} {a b : Mem} {o : Out} (hfl : l.stackTraces = false) {q : Mem} (hW : WC q) (hI : IQ q) (hR : RR q b) {p ex z : Int32} : MG l x yX4_seat cX4_seat 6 (some .int) 6 280 [.ref (x.2.1 70), .int p, .int ex, .int z] a b o (QI x o (FI (rd (g3_seat q p ex z) (fI (hfB q (tn p) ex z) (nO q))) a (up2 b 70 0 (cd [eI, eN] (g3_seat q p ex z))))) := by
  refine MG.of (maxL := 6) (ret := (some .int)) hfl (by decide) [some (.ref (x.2.1 70)), some (.int p), some (.int ex), some (.int z), none, none] rfl rfl (Nat.le_of_ble_eq_true rfl) ?_
  intro pP eE sS mM argsA belowB methM cC C hr
  have ho12 := hW.ol
  have hp10 := hW.pl
  have he6 := hW.el
  obtain ⟨gg, hG⟩ : ∃ gg, gg = (g3_seat q p ex z) := ⟨_, rfl⟩
  rw [← hG]
  refine V_aload_n C dX4_seat_0 rfl ?_
  refine V_aload_n C dX4_seat_1 rfl ?_
  refine V_iload_n C dX4_seat_2 rfl ?_
  refine V_callf (R_V C (c_X4_isPupil hfl hW hI hR) mi_X4_isPupil mk_X4_90 rfl (by omega) rfl (rfl : vwCl[6]? = some (RX4, TX4, 24)) (by decide) rfl (Nat.le_of_ble_eq_true rfl) (by decide) dX4_seat_3) ?_
  refine V_ifb_eq C 17 dX4_seat_6 (by decide) (fun h6 => ?_) (fun h6 => ?_)
  · refine V_iconst (v := 1) C dX4_seat_17 (by decide) ?_
    refine V_goto C 22 dX4_seat_18 (by decide) ?_
    refine pt_X4_thrown C fk_X4_59 dX4_seat_22 ?_
    refine V_iconst (v := -1) C dX4_seat_25 (by decide) ?_
    refine V_istore_4 C dX4_seat_26 (by decide) ?_
    refine V_iconst (v := nI 0) C dX4_seat_28 (by decide) ?_
    refine V_istore_5 C dX4_seat_29 (by decide) ?_
    refine V_iload C dX4_seat_31 rfl ?_
    refine V_aload_n C dX4_seat_33 rfl ?_
    refine gt_X4_offers C fk_X4_73 dX4_seat_34 ?_
    refine V_topi (hR.th.c4.trans hW.oe) ?_
    refine V_lt C 99 dX4_seat_37 (by decide) (by omega) (by omega) (fun h37 => ?_) (fun h37 => ?_)
    · try (have e9 : k = nO q := by omega
           subst e9)
      refine V_aload_n C dX4_seat_99 rfl ?_
      refine V_aload_n C dX4_seat_100 rfl ?_
      refine gt_X4_thrown C fk_X4_59 dX4_seat_101 ?_
      refine V_topi (show _ = (1 : Int32) from rfl) ?_
      refine V_if_ne C 117 dX4_seat_104 (by decide) (fun h104 => ?_) (fun h104 => ?_)
      · refine V_aload_n C dX4_seat_117 rfl ?_
        refine gt_X4_thrown C fk_X4_59 dX4_seat_118 ?_
        refine V_topi (show _ = (1 : Int32) from rfl) ?_
        refine pt_X4_thrown C fk_X4_59 dX4_seat_121 ?_
        refine V_aload_n C dX4_seat_124 rfl ?_
        refine gt_X4_thrown C fk_X4_59 dX4_seat_125 ?_
        refine V_topi (show _ = (1 : Int32) from rfl) ?_
        refine V_if_le C 135 dX4_seat_128 (by decide) (fun h128 => ?_) (fun h128 => ?_)
        · exact absurd h128 (by decide)
        · refine V_iconst (v := 0) C dX4_seat_131 (by decide) ?_
          refine V_goto C 137 dX4_seat_132 (by decide) ?_
          have hg : gg = some eI := hG.trans (by first | (simp [g3_seat, gS, gO, h6, h37, h104, h128]; done) | (simp [g3_seat, gS, gO, tjp, q7, h6, h37, h104, h128]; done))
          exact V_ireti C hr dX4_seat_137 ⟨by rw [hg]; exact rfl, rfl, by rw [hg]; exact (by first | exact up2_2 | exact up2_2.trans up2_2 | rfl)⟩
      · exact absurd h104 (by decide)
    · refine V_aload_n C dX4_seat_40 rfl ?_
      refine gt_X4_thrown C fk_X4_59 dX4_seat_41 ?_
      refine V_topi (show _ = (1 : Int32) from rfl) ?_
      refine V_if_ne C 99 dX4_seat_44 (by decide) (fun h44 => ?_) (fun h44 => ?_)
      · refine V_aload_n C dX4_seat_99 rfl ?_
        refine V_aload_n C dX4_seat_100 rfl ?_
        refine gt_X4_thrown C fk_X4_59 dX4_seat_101 ?_
        refine V_topi (show _ = (1 : Int32) from rfl) ?_
        refine V_if_ne C 117 dX4_seat_104 (by decide) (fun h104 => ?_) (fun h104 => ?_)
        · refine V_aload_n C dX4_seat_117 rfl ?_
          refine gt_X4_thrown C fk_X4_59 dX4_seat_118 ?_
          refine V_topi (show _ = (1 : Int32) from rfl) ?_
          refine pt_X4_thrown C fk_X4_59 dX4_seat_121 ?_
          refine V_aload_n C dX4_seat_124 rfl ?_
          refine gt_X4_thrown C fk_X4_59 dX4_seat_125 ?_
          refine V_topi (show _ = (1 : Int32) from rfl) ?_
          refine V_if_le C 135 dX4_seat_128 (by decide) (fun h128 => ?_) (fun h128 => ?_)
          · exact absurd h128 (by decide)
          · refine V_iconst (v := 0) C dX4_seat_131 (by decide) ?_
            refine V_goto C 137 dX4_seat_132 (by decide) ?_
            have hg : gg = some eI := hG.trans (by first | (simp [g3_seat, gS, gO, h6, h37, h44, h104, h128]; done) | (simp [g3_seat, gS, gO, tjp, q7, h6, h37, h44, h104, h128]; done))
            exact V_ireti C hr dX4_seat_137 ⟨by rw [hg]; exact rfl, rfl, by rw [hg]; exact (by first | exact up2_2 | exact up2_2.trans up2_2 | rfl)⟩
        · exact absurd h104 (by decide)
      · exact absurd h44 (by decide)
  · obtain ⟨jp, hjp, jpe⟩ := ix_of (E := eI) (gO_n.mpr h6) hW.pe (by omega)
    subst jpe
    have tjp : tn (nI jp) = jp := tn_nI (by omega)
    try rw [tjp]
    refine V_aload_n C dX4_seat_9 rfl ?_
    refine V_iload_n C dX4_seat_10 rfl ?_
    refine V_callf (R_V C (c_X4_isExam hfl hW hI hR) mi_X4_isExam mk_X4_79 rfl (by omega) rfl (rfl : vwCl[6]? = some (RX4, TX4, 24)) (by decide) rfl (Nat.le_of_ble_eq_true rfl) (by decide) dX4_seat_11) ?_
    refine V_ifb_ne C 21 dX4_seat_14 (by decide) (fun h14 => ?_) (fun h14 => ?_)
    · refine V_iconst (v := 0) C dX4_seat_21 (by decide) ?_
      refine pt_X4_thrown C fk_X4_59 dX4_seat_22 ?_
      refine V_iconst (v := -1) C dX4_seat_25 (by decide) ?_
      refine V_istore_4 C dX4_seat_26 (by decide) ?_
      refine V_iconst (v := nI 0) C dX4_seat_28 (by decide) ?_
      refine V_istore_5 C dX4_seat_29 (by decide) ?_
      have L31 : ∀ (fuel : Nat) (k : Nat), k ≤ nO q → nO q - k < fuel → VV pP l eE ({ frames := 6, cells := 0, slots := 0, locals := 280 } : Room) sS mM argsA belowB methM cC (MQ belowB (QI x o (FI (rd gg (fI (hfB q (jp) ex z) (nO q))) a (up2 b 70 0 (cd [eI, eN] gg))) sS.heap.size) argsA sS 0 0 (AW x sS.heap.size)) x 6 a (up2 b 70 0 0) o 0 0 31 [some (.ref (x.2.1 70)), some (.int (nI jp)), some (.int ex), some (.int z), some (.int (fI (hfB q jp ex z) k)), some (.int (nI k))] [] := by
        intro fuel
        induction fuel with
        | zero => intro k hk hm; exact absurd hm (Nat.not_lt_zero _)
        | succ fuel ih31 =>
          intro k hk hm
          refine V_iload C dX4_seat_31 rfl ?_
          refine V_aload_n C dX4_seat_33 rfl ?_
          refine gt_X4_offers C fk_X4_73 dX4_seat_34 ?_
          refine V_topi (hR.th.c4.trans hW.oe) ?_
          refine V_lt C 99 dX4_seat_37 (by decide) (by omega) (by omega) (fun h37 => ?_) (fun h37 => ?_)
          · try (have e9 : k = nO q := by omega
                 subst e9)
            refine V_aload_n C dX4_seat_99 rfl ?_
            refine V_aload_n C dX4_seat_100 rfl ?_
            refine gt_X4_thrown C fk_X4_59 dX4_seat_101 ?_
            refine V_topi (show _ = (0 : Int32) from rfl) ?_
            refine V_if_ne C 117 dX4_seat_104 (by decide) (fun h104 => ?_) (fun h104 => ?_)
            · exact absurd h104 (by decide)
            · refine V_iload C dX4_seat_107 rfl ?_
              refine V_iconst (v := -1) C dX4_seat_109 (by decide) ?_
              refine V_icmp_ne C 117 dX4_seat_110 (by decide) (fun h110 => ?_) (fun h110 => ?_)
              · have q7 : anyN (hfB q jp ex z) (nO q) = true := by
                  cases hx : anyN (hfB q jp ex z) (nO q) with
                  | true => rfl
                  | false => exact absurd ((fI_any (n := nO q) (by omega)).mpr hx) h110
                refine V_aload_n C dX4_seat_117 rfl ?_
                refine gt_X4_thrown C fk_X4_59 dX4_seat_118 ?_
                refine V_topi (show _ = (0 : Int32) from rfl) ?_
                refine pt_X4_thrown C fk_X4_59 dX4_seat_121 ?_
                refine V_aload_n C dX4_seat_124 rfl ?_
                refine gt_X4_thrown C fk_X4_59 dX4_seat_125 ?_
                refine V_topi (show _ = (0 : Int32) from rfl) ?_
                refine V_if_le C 135 dX4_seat_128 (by decide) (fun h128 => ?_) (fun h128 => ?_)
                · refine V_iload C dX4_seat_135 rfl ?_
                  have hg : gg = none := hG.trans (by first | (simp [g3_seat, gS, gO, h6, h14, h37, h104, h110, h128]; done) | (simp [g3_seat, gS, gO, tjp, q7, h6, h14, h37, h104, h110, h128]; done))
                  exact V_ireti C hr dX4_seat_137 ⟨by rw [hg]; exact rfl, rfl, by rw [hg]; exact (by first | exact up2_2 | exact up2_2.trans up2_2 | rfl)⟩
                · exact absurd h128 (by decide)
              · have q7 : anyN (hfB q jp ex z) (nO q) = false := (fI_any (n := nO q) (by omega)).mp (by simpa using h110)
                refine V_iconst (v := 2) C dX4_seat_113 (by decide) ?_
                refine V_goto C 121 dX4_seat_114 (by decide) ?_
                refine pt_X4_thrown C fk_X4_59 dX4_seat_121 ?_
                refine V_aload_n C dX4_seat_124 rfl ?_
                refine gt_X4_thrown C fk_X4_59 dX4_seat_125 ?_
                refine V_topi (show _ = (2 : Int32) from rfl) ?_
                refine V_if_le C 135 dX4_seat_128 (by decide) (fun h128 => ?_) (fun h128 => ?_)
                · exact absurd h128 (by decide)
                · refine V_iconst (v := 0) C dX4_seat_131 (by decide) ?_
                  refine V_goto C 137 dX4_seat_132 (by decide) ?_
                  have hg : gg = some eN := hG.trans (by first | (simp [g3_seat, gS, gO, h6, h14, h37, h104, h110, h128]; done) | (simp [g3_seat, gS, gO, tjp, q7, h6, h14, h37, h104, h110, h128]; done))
                  exact V_ireti C hr dX4_seat_137 ⟨by rw [hg]; exact rfl, rfl, by rw [hg]; exact (by first | exact up2_2 | exact up2_2.trans up2_2 | rfl)⟩
          · refine V_aload_n C dX4_seat_40 rfl ?_
            refine gt_X4_thrown C fk_X4_59 dX4_seat_41 ?_
            refine V_topi (show _ = (0 : Int32) from rfl) ?_
            refine V_if_ne C 99 dX4_seat_44 (by decide) (fun h44 => ?_) (fun h44 => ?_)
            · exact absurd h44 (by decide)
            · refine V_aload_n C dX4_seat_47 rfl ?_
              refine gt_X4_exam C fk_X4_13 dX4_seat_48 ?_
              refine V_iload C dX4_seat_51 rfl ?_
              refine la_m_exam C _ rfl (by omega) dX4_seat_53 ?_
              refine V_topi (hR.th.ex (by omega)) ?_
              refine V_iload_n C dX4_seat_54 rfl ?_
              refine V_icmp_ne C 89 dX4_seat_55 (by decide) (fun h55 => ?_) (fun h55 => ?_)
              · refine V_iload C dX4_seat_89 rfl ?_
                refine V_istore_4 C dX4_seat_91 (by decide) ?_
                refine V_iinc_5 C _ dX4_seat_93 (nI_1 _) (by decide) ?_
                refine V_goto C 31 dX4_seat_96 (by decide) ?_
                have ih := ih31 (k + 1) (by omega) (by omega)
                first
                  | (have q1 : hfB q jp ex z k = true := by (simp [hfB, isOfB, hs, h55, h66, h81]; done)
                     rw [fI_t q1 (fun j hj => hf_u hI (by omega) h37 q1 hj)] at ih; exact ih)
                  | (rw [fI_s (show hfB q jp ex z k = false by (first | (simp [hfB, isOfB, h55]; done) | (simp [hfB, isOfB, h55, h66]; done) | (simp [hfB, hs, h81]; done)))] at ih; exact ih)
              · refine V_aload_n C dX4_seat_58 rfl ?_
                refine gt_X4_isResit C fk_X4_22 dX4_seat_59 ?_
                refine V_iload C dX4_seat_62 rfl ?_
                refine la_m_isResit C _ rfl (by omega) dX4_seat_64 ?_
                refine V_topi (hR.th.zz (by omega)) ?_
                refine V_iload_n C dX4_seat_65 rfl ?_
                refine V_icmp_ne C 89 dX4_seat_66 (by decide) (fun h66 => ?_) (fun h66 => ?_)
                · refine V_iload C dX4_seat_89 rfl ?_
                  refine V_istore_4 C dX4_seat_91 (by decide) ?_
                  refine V_iinc_5 C _ dX4_seat_93 (nI_1 _) (by decide) ?_
                  refine V_goto C 31 dX4_seat_96 (by decide) ?_
                  have ih := ih31 (k + 1) (by omega) (by omega)
                  first
                    | (have q1 : hfB q jp ex z k = true := by (simp [hfB, isOfB, hs, h55, h66, h81]; done)
                       rw [fI_t q1 (fun j hj => hf_u hI (by omega) h37 q1 hj)] at ih; exact ih)
                    | (rw [fI_s (show hfB q jp ex z k = false by (first | (simp [hfB, isOfB, h55]; done) | (simp [hfB, isOfB, h55, h66]; done) | (simp [hfB, hs, h81]; done)))] at ih; exact ih)
                · refine V_aload_n C dX4_seat_69 rfl ?_
                  refine gt_X4_paid C fk_X4_41 dX4_seat_70 ?_
                  refine V_iload_n C dX4_seat_73 rfl ?_
                  refine V_iload C dX4_seat_74 rfl ?_
                  refine V_callf (R_S C (c_X4_pair hfl) mi_X4_pair mk_X4_96 rfl (by decide) rfl (Nat.le_of_ble_eq_true rfl) (by decide) dX4_seat_76) ?_
                  refine la_m_paid C _ rfl (by omega) dX4_seat_79 ?_
                  refine V_topi (hR.th.pd (by omega) (by omega)) ?_
                  refine V_iconst (v := -1) C dX4_seat_80 (by decide) ?_
                  refine V_icmp_eq C 89 dX4_seat_81 (by decide) (fun h81 => ?_) (fun h81 => ?_)
                  · refine V_iload C dX4_seat_89 rfl ?_
                    refine V_istore_4 C dX4_seat_91 (by decide) ?_
                    refine V_iinc_5 C _ dX4_seat_93 (nI_1 _) (by decide) ?_
                    refine V_goto C 31 dX4_seat_96 (by decide) ?_
                    have ih := ih31 (k + 1) (by omega) (by omega)
                    first
                      | (have q1 : hfB q jp ex z k = true := by (simp [hfB, isOfB, hs, h55, h66, h81]; done)
                         rw [fI_t q1 (fun j hj => hf_u hI (by omega) h37 q1 hj)] at ih; exact ih)
                      | (rw [fI_s (show hfB q jp ex z k = false by (first | (simp [hfB, isOfB, h55]; done) | (simp [hfB, isOfB, h55, h66]; done) | (simp [hfB, hs, h81]; done)))] at ih; exact ih)
                  · refine V_iload C dX4_seat_84 rfl ?_
                    refine V_goto C 91 dX4_seat_86 (by decide) ?_
                    refine V_istore_4 C dX4_seat_91 (by decide) ?_
                    refine V_iinc_5 C _ dX4_seat_93 (nI_1 _) (by decide) ?_
                    refine V_goto C 31 dX4_seat_96 (by decide) ?_
                    have ih := ih31 (k + 1) (by omega) (by omega)
                    first
                      | (have q1 : hfB q jp ex z k = true := by (simp [hfB, isOfB, hs, h55, h66, h81]; done)
                         rw [fI_t q1 (fun j hj => hf_u hI (by omega) h37 q1 hj)] at ih; exact ih)
                      | (rw [fI_s (show hfB q jp ex z k = false by (first | (simp [hfB, isOfB, h55]; done) | (simp [hfB, isOfB, h55, h66]; done) | (simp [hfB, hs, h81]; done)))] at ih; exact ih)
      exact L31 _ 0 (Nat.zero_le _) (Nat.lt_succ_self _)
    · refine V_iconst (v := 1) C dX4_seat_17 (by decide) ?_
      refine V_goto C 22 dX4_seat_18 (by decide) ?_
      refine pt_X4_thrown C fk_X4_59 dX4_seat_22 ?_
      refine V_iconst (v := -1) C dX4_seat_25 (by decide) ?_
      refine V_istore_4 C dX4_seat_26 (by decide) ?_
      refine V_iconst (v := nI 0) C dX4_seat_28 (by decide) ?_
      refine V_istore_5 C dX4_seat_29 (by decide) ?_
      refine V_iload C dX4_seat_31 rfl ?_
      refine V_aload_n C dX4_seat_33 rfl ?_
      refine gt_X4_offers C fk_X4_73 dX4_seat_34 ?_
      refine V_topi (hR.th.c4.trans hW.oe) ?_
      refine V_lt C 99 dX4_seat_37 (by decide) (by omega) (by omega) (fun h37 => ?_) (fun h37 => ?_)
      · try (have e9 : k = nO q := by omega
             subst e9)
        refine V_aload_n C dX4_seat_99 rfl ?_
        refine V_aload_n C dX4_seat_100 rfl ?_
        refine gt_X4_thrown C fk_X4_59 dX4_seat_101 ?_
        refine V_topi (show _ = (1 : Int32) from rfl) ?_
        refine V_if_ne C 117 dX4_seat_104 (by decide) (fun h104 => ?_) (fun h104 => ?_)
        · refine V_aload_n C dX4_seat_117 rfl ?_
          refine gt_X4_thrown C fk_X4_59 dX4_seat_118 ?_
          refine V_topi (show _ = (1 : Int32) from rfl) ?_
          refine pt_X4_thrown C fk_X4_59 dX4_seat_121 ?_
          refine V_aload_n C dX4_seat_124 rfl ?_
          refine gt_X4_thrown C fk_X4_59 dX4_seat_125 ?_
          refine V_topi (show _ = (1 : Int32) from rfl) ?_
          refine V_if_le C 135 dX4_seat_128 (by decide) (fun h128 => ?_) (fun h128 => ?_)
          · exact absurd h128 (by decide)
          · refine V_iconst (v := 0) C dX4_seat_131 (by decide) ?_
            refine V_goto C 137 dX4_seat_132 (by decide) ?_
            have hg : gg = some eI := hG.trans (by first | (simp [g3_seat, gS, gO, h6, h14, h37, h104, h128]; done) | (simp [g3_seat, gS, gO, tjp, q7, h6, h14, h37, h104, h128]; done))
            exact V_ireti C hr dX4_seat_137 ⟨by rw [hg]; exact rfl, rfl, by rw [hg]; exact (by first | exact up2_2 | exact up2_2.trans up2_2 | rfl)⟩
        · exact absurd h104 (by decide)
      · refine V_aload_n C dX4_seat_40 rfl ?_
        refine gt_X4_thrown C fk_X4_59 dX4_seat_41 ?_
        refine V_topi (show _ = (1 : Int32) from rfl) ?_
        refine V_if_ne C 99 dX4_seat_44 (by decide) (fun h44 => ?_) (fun h44 => ?_)
        · refine V_aload_n C dX4_seat_99 rfl ?_
          refine V_aload_n C dX4_seat_100 rfl ?_
          refine gt_X4_thrown C fk_X4_59 dX4_seat_101 ?_
          refine V_topi (show _ = (1 : Int32) from rfl) ?_
          refine V_if_ne C 117 dX4_seat_104 (by decide) (fun h104 => ?_) (fun h104 => ?_)
          · refine V_aload_n C dX4_seat_117 rfl ?_
            refine gt_X4_thrown C fk_X4_59 dX4_seat_118 ?_
            refine V_topi (show _ = (1 : Int32) from rfl) ?_
            refine pt_X4_thrown C fk_X4_59 dX4_seat_121 ?_
            refine V_aload_n C dX4_seat_124 rfl ?_
            refine gt_X4_thrown C fk_X4_59 dX4_seat_125 ?_
            refine V_topi (show _ = (1 : Int32) from rfl) ?_
            refine V_if_le C 135 dX4_seat_128 (by decide) (fun h128 => ?_) (fun h128 => ?_)
            · exact absurd h128 (by decide)
            · refine V_iconst (v := 0) C dX4_seat_131 (by decide) ?_
              refine V_goto C 137 dX4_seat_132 (by decide) ?_
              have hg : gg = some eI := hG.trans (by first | (simp [g3_seat, gS, gO, h6, h14, h37, h44, h104, h128]; done) | (simp [g3_seat, gS, gO, tjp, q7, h6, h14, h37, h44, h104, h128]; done))
              exact V_ireti C hr dX4_seat_137 ⟨by rw [hg]; exact rfl, rfl, by rw [hg]; exact (by first | exact up2_2 | exact up2_2.trans up2_2 | rfl)⟩
          · exact absurd h104 (by decide)
        · exact absurd h44 (by decide)
set_option maxHeartbeats 4000000 in
set_option maxRecDepth 100000 in
theorem c_X4_holders {l : Launch} {x : Sh} {a b : Mem} {o : Out} (hfl : l.stackTraces = false) {q : Mem} (hW : WC q) (hI : IQ q) (hR : RR q b) {w : Int32} : MG l x yX4_holders cX4_holders 2 (some .int) 6 280 [.ref (x.2.1 70), .int w] a b o (QI x o (FI (rd (gQ q w) (nI (nTaken q (tn w)))) a (up2 b 70 0 (cd [eI] (gQ q w))))) := by
  refine MG.of (maxL := 2) (ret := (some .int)) hfl (by decide) [some (.ref (x.2.1 70)), some (.int w)] rfl rfl (Nat.le_of_ble_eq_true rfl) ?_
  intro pP eE sS mM argsA belowB methM cC C hr
  have ho12 := hW.ol
  have hp10 := hW.pl
  have he6 := hW.el
  obtain ⟨gg, hG⟩ : ∃ gg, gg = (gQ q w) := ⟨_, rfl⟩
  rw [← hG]
  refine V_aload_n C dX4_holders_0 rfl ?_
  refine V_aload_n C dX4_holders_1 rfl ?_
  refine V_iload_n C dX4_holders_2 rfl ?_
  refine V_callf (R_V C (c_X4_isOffer hfl hW hI hR) mi_X4_isOffer mk_X4_93 rfl (by omega) rfl (rfl : vwCl[6]? = some (RX4, TX4, 24)) (by decide) rfl (Nat.le_of_ble_eq_true rfl) (by decide) dX4_holders_3) ?_
  refine V_ifb_eq C 13 dX4_holders_6 (by decide) (fun h6 => ?_) (fun h6 => ?_)
  · refine V_iconst (v := 1) C dX4_holders_13 (by decide) ?_
    refine pt_X4_thrown C fk_X4_59 dX4_holders_14 ?_
    refine V_aload_n C dX4_holders_17 rfl ?_
    refine gt_X4_thrown C fk_X4_59 dX4_holders_18 ?_
    refine V_topi (show _ = (1 : Int32) from rfl) ?_
    refine V_if_le C 28 dX4_holders_21 (by decide) (fun h21 => ?_) (fun h21 => ?_)
    · exact absurd h21 (by decide)
    · refine V_iconst (v := 0) C dX4_holders_24 (by decide) ?_
      refine V_goto C 33 dX4_holders_25 (by decide) ?_
      have hg : gg = some eI := hG.trans (by simp [gO, gS, gO, gP, gE, gQ, gT, gL, gF, h6, h21])
      exact V_ireti C hr dX4_holders_33 ⟨by rw [hg]; exact rfl, rfl, by rw [hg]; exact (by first | exact up2_2 | exact up2_2.trans up2_2 | rfl)⟩
  · obtain ⟨iw, hiw, iwe⟩ := ix_of (E := eI) (gO_n.mpr h6) hW.oe (by omega)
    subst iwe
    have tiw : tn (nI iw) = iw := tn_nI (by omega)
    try rw [tiw]
    refine V_iconst (v := 0) C dX4_holders_9 (by decide) ?_
    refine V_goto C 14 dX4_holders_10 (by decide) ?_
    refine pt_X4_thrown C fk_X4_59 dX4_holders_14 ?_
    refine V_aload_n C dX4_holders_17 rfl ?_
    refine gt_X4_thrown C fk_X4_59 dX4_holders_18 ?_
    refine V_topi (show _ = (0 : Int32) from rfl) ?_
    refine V_if_le C 28 dX4_holders_21 (by decide) (fun h21 => ?_) (fun h21 => ?_)
    · refine V_aload_n C dX4_holders_28 rfl ?_
      refine V_iload_n C dX4_holders_29 rfl ?_
      refine V_callf (R_V C (c_X4_held hfl hW hI hR.th (by omega)) mi_X4_held mk_X4_119 rfl (by omega) rfl (rfl : vwCl[6]? = some (RX4, TX4, 24)) (by decide) rfl (Nat.le_of_ble_eq_true rfl) (by decide) dX4_holders_30) ?_
      have hg : gg = none := hG.trans (by simp [gO, gS, gO, gP, gE, gQ, gT, gL, gF, h6, h21])
      exact V_ireti C hr dX4_holders_33 ⟨by rw [hg]; exact rfl, rfl, by rw [hg]; exact (by first | exact up2_2 | exact up2_2.trans up2_2 | rfl)⟩
    · exact absurd h21 (by decide)
set_option maxHeartbeats 4000000 in
set_option maxRecDepth 100000 in
theorem c_X4_holder {l : Launch} {x : Sh} {a b : Mem} {o : Out} (hfl : l.stackTraces = false) {q : Mem} (hW : WC q) (hI : IQ q) (hR : RR q b) {w idx : Int32} : MG l x yX4_holder cX4_holder 7 (some .int) 6 280 [.ref (x.2.1 70), .int w, .int idx] a b o (QI x o (FI (rd (g3_holder q w idx) (fI (nthS (hs q (tn w)) idx) 10)) a (up2 b 70 0 (cd [eI, eN] (g3_holder q w idx))))) := by
  refine MG.of (maxL := 7) (ret := (some .int)) hfl (by decide) [some (.ref (x.2.1 70)), some (.int w), some (.int idx), none, none, none, none] rfl rfl (Nat.le_of_ble_eq_true rfl) ?_
  intro pP eE sS mM argsA belowB methM cC C hr
  have ho12 := hW.ol
  have hp10 := hW.pl
  have he6 := hW.el
  obtain ⟨gg, hG⟩ : ∃ gg, gg = (g3_holder q w idx) := ⟨_, rfl⟩
  rw [← hG]
  refine V_aload_n C dX4_holder_0 rfl ?_
  refine V_aload_n C dX4_holder_1 rfl ?_
  refine V_iload_n C dX4_holder_2 rfl ?_
  refine V_callf (R_V C (c_X4_isOffer hfl hW hI hR) mi_X4_isOffer mk_X4_93 rfl (by omega) rfl (rfl : vwCl[6]? = some (RX4, TX4, 24)) (by decide) rfl (Nat.le_of_ble_eq_true rfl) (by decide) dX4_holder_3) ?_
  refine V_ifb_eq C 13 dX4_holder_6 (by decide) (fun h6 => ?_) (fun h6 => ?_)
  · refine V_iconst (v := 1) C dX4_holder_13 (by decide) ?_
    refine pt_X4_thrown C fk_X4_59 dX4_holder_14 ?_
    refine V_iconst (v := -1) C dX4_holder_17 (by decide) ?_
    refine V_istore_n3 C dX4_holder_18 (by decide) ?_
    refine V_iload_n C dX4_holder_19 rfl ?_
    refine V_istore_4 C dX4_holder_20 (by decide) ?_
    refine V_iconst (v := nI 0) C dX4_holder_22 (by decide) ?_
    refine V_istore_5 C dX4_holder_23 (by decide) ?_
    refine V_iload C dX4_holder_25 rfl ?_
    refine V_aload_n C dX4_holder_27 rfl ?_
    refine gt_X4_pupils C fk_X4_63 dX4_holder_28 ?_
    refine V_topi (hR.th.c3.trans hW.pe) ?_
    refine V_lt C 101 dX4_holder_31 (by decide) (by omega) (by omega) (fun h31 => ?_) (fun h31 => ?_)
    · try (have e9 : k = nP q := by omega
           subst e9
           rw [fI_nth hW hI (by omega)])
      refine V_aload_n C dX4_holder_101 rfl ?_
      refine V_aload_n C dX4_holder_102 rfl ?_
      refine gt_X4_thrown C fk_X4_59 dX4_holder_103 ?_
      refine V_topi (show _ = (1 : Int32) from rfl) ?_
      refine V_if_ne C 122 dX4_holder_106 (by decide) (fun h106 => ?_) (fun h106 => ?_)
      · refine V_aload_n C dX4_holder_122 rfl ?_
        refine gt_X4_thrown C fk_X4_59 dX4_holder_123 ?_
        refine V_topi (show _ = (1 : Int32) from rfl) ?_
        refine pt_X4_thrown C fk_X4_59 dX4_holder_126 ?_
        refine V_aload_n C dX4_holder_129 rfl ?_
        refine gt_X4_thrown C fk_X4_59 dX4_holder_130 ?_
        refine V_topi (show _ = (1 : Int32) from rfl) ?_
        refine V_if_le C 140 dX4_holder_133 (by decide) (fun h133 => ?_) (fun h133 => ?_)
        · exact absurd h133 (by decide)
        · refine V_iconst (v := 0) C dX4_holder_136 (by decide) ?_
          refine V_goto C 141 dX4_holder_137 (by decide) ?_
          have hg : gg = some eI := hG.trans (by first | (simp [g3_holder, gS, gO, h6, h31, h106, h133]; done) | (simp [g3_holder, gS, gO, tiw, q7, h6, h31, h106, h133]; done))
          exact V_ireti C hr dX4_holder_141 ⟨by rw [hg]; exact rfl, rfl, by rw [hg]; exact (by first | exact up2_2 | exact up2_2.trans up2_2 | rfl)⟩
      · exact absurd h106 (by decide)
    · refine V_aload_n C dX4_holder_34 rfl ?_
      refine gt_X4_thrown C fk_X4_59 dX4_holder_35 ?_
      refine V_topi (show _ = (1 : Int32) from rfl) ?_
      refine V_if_ne C 101 dX4_holder_38 (by decide) (fun h38 => ?_) (fun h38 => ?_)
      · refine V_aload_n C dX4_holder_101 rfl ?_
        refine V_aload_n C dX4_holder_102 rfl ?_
        refine gt_X4_thrown C fk_X4_59 dX4_holder_103 ?_
        refine V_topi (show _ = (1 : Int32) from rfl) ?_
        refine V_if_ne C 122 dX4_holder_106 (by decide) (fun h106 => ?_) (fun h106 => ?_)
        · refine V_aload_n C dX4_holder_122 rfl ?_
          refine gt_X4_thrown C fk_X4_59 dX4_holder_123 ?_
          refine V_topi (show _ = (1 : Int32) from rfl) ?_
          refine pt_X4_thrown C fk_X4_59 dX4_holder_126 ?_
          refine V_aload_n C dX4_holder_129 rfl ?_
          refine gt_X4_thrown C fk_X4_59 dX4_holder_130 ?_
          refine V_topi (show _ = (1 : Int32) from rfl) ?_
          refine V_if_le C 140 dX4_holder_133 (by decide) (fun h133 => ?_) (fun h133 => ?_)
          · exact absurd h133 (by decide)
          · refine V_iconst (v := 0) C dX4_holder_136 (by decide) ?_
            refine V_goto C 141 dX4_holder_137 (by decide) ?_
            have hg : gg = some eI := hG.trans (by first | (simp [g3_holder, gS, gO, h6, h31, h38, h106, h133]; done) | (simp [g3_holder, gS, gO, tiw, q7, h6, h31, h38, h106, h133]; done))
            exact V_ireti C hr dX4_holder_141 ⟨by rw [hg]; exact rfl, rfl, by rw [hg]; exact (by first | exact up2_2 | exact up2_2.trans up2_2 | rfl)⟩
        · exact absurd h106 (by decide)
      · exact absurd h38 (by decide)
  · obtain ⟨iw, hiw, iwe⟩ := ix_of (E := eI) (gO_n.mpr h6) hW.oe (by omega)
    subst iwe
    have tiw : tn (nI iw) = iw := tn_nI (by omega)
    try rw [tiw]
    refine V_iconst (v := 0) C dX4_holder_9 (by decide) ?_
    refine V_goto C 14 dX4_holder_10 (by decide) ?_
    refine pt_X4_thrown C fk_X4_59 dX4_holder_14 ?_
    refine V_iconst (v := -1) C dX4_holder_17 (by decide) ?_
    refine V_istore_n3 C dX4_holder_18 (by decide) ?_
    refine V_iload_n C dX4_holder_19 rfl ?_
    refine V_istore_4 C dX4_holder_20 (by decide) ?_
    refine V_iconst (v := nI 0) C dX4_holder_22 (by decide) ?_
    refine V_istore_5 C dX4_holder_23 (by decide) ?_
    have L25 : ∀ (fuel : Nat) (k : Nat), k ≤ nP q → nP q - k < fuel → VV pP l eE ({ frames := 6, cells := 0, slots := 0, locals := 280 } : Room) sS mM argsA belowB methM cC (MQ belowB (QI x o (FI (rd gg (fI (nthS (hs q (iw)) idx) 10)) a (up2 b 70 0 (cd [eI, eN] gg))) sS.heap.size) argsA sS 0 0 (AW x sS.heap.size)) x 7 a (up2 b 70 0 0) o 0 0 25 [some (.ref (x.2.1 70)), some (.int (nI iw)), some (.int idx), some (.int (fI (nthS (hs q iw) idx) k)), some (.int (idx - nI (cntN (hs q iw) k))), some (.int (nI k)), none] [] := by
      intro fuel
      induction fuel with
      | zero => intro k hk hm; exact absurd hm (Nat.not_lt_zero _)
      | succ fuel ih25 =>
        intro k hk hm
        refine V_iload C dX4_holder_25 rfl ?_
        refine V_aload_n C dX4_holder_27 rfl ?_
        refine gt_X4_pupils C fk_X4_63 dX4_holder_28 ?_
        refine V_topi (hR.th.c3.trans hW.pe) ?_
        refine V_lt C 101 dX4_holder_31 (by decide) (by omega) (by omega) (fun h31 => ?_) (fun h31 => ?_)
        · try (have e9 : k = nP q := by omega
               subst e9
               rw [fI_nth hW hI (by omega)])
          refine V_aload_n C dX4_holder_101 rfl ?_
          refine V_aload_n C dX4_holder_102 rfl ?_
          refine gt_X4_thrown C fk_X4_59 dX4_holder_103 ?_
          refine V_topi (show _ = (0 : Int32) from rfl) ?_
          refine V_if_ne C 122 dX4_holder_106 (by decide) (fun h106 => ?_) (fun h106 => ?_)
          · exact absurd h106 (by decide)
          · refine V_iload_n C dX4_holder_109 rfl ?_
            refine V_if_lt C 118 dX4_holder_110 (by decide) (fun h110 => ?_) (fun h110 => ?_)
            · have q7 : anyN (nthS (hs q iw) idx) 10 = false := anyN_f.mpr (fun j hj => nthS_neg h110 hj)
              refine V_iconst (v := 2) C dX4_holder_118 (by decide) ?_
              refine V_goto C 126 dX4_holder_119 (by decide) ?_
              refine pt_X4_thrown C fk_X4_59 dX4_holder_126 ?_
              refine V_aload_n C dX4_holder_129 rfl ?_
              refine gt_X4_thrown C fk_X4_59 dX4_holder_130 ?_
              refine V_topi (show _ = (2 : Int32) from rfl) ?_
              refine V_if_le C 140 dX4_holder_133 (by decide) (fun h133 => ?_) (fun h133 => ?_)
              · exact absurd h133 (by decide)
              · refine V_iconst (v := 0) C dX4_holder_136 (by decide) ?_
                refine V_goto C 141 dX4_holder_137 (by decide) ?_
                have hg : gg = some eN := hG.trans (by first | (simp [g3_holder, gS, gO, h6, h31, h106, h110, h133]; done) | (simp [g3_holder, gS, gO, tiw, q7, h6, h31, h106, h110, h133]; done))
                exact V_ireti C hr dX4_holder_141 ⟨by rw [hg]; exact rfl, rfl, by rw [hg]; exact (by first | exact up2_2 | exact up2_2.trans up2_2 | rfl)⟩
            · refine V_iload_n C dX4_holder_113 rfl ?_
              refine V_iconst (v := -1) C dX4_holder_114 (by decide) ?_
              refine V_icmp_ne C 122 dX4_holder_115 (by decide) (fun h115 => ?_) (fun h115 => ?_)
              · have q7 : anyN (nthS (hs q iw) idx) (10) = true := by
                  cases hx : anyN (nthS (hs q iw) idx) (10) with
                  | true => rfl
                  | false => exact absurd ((fI_any (n := 10) (by decide)).mpr hx) h115
                refine V_aload_n C dX4_holder_122 rfl ?_
                refine gt_X4_thrown C fk_X4_59 dX4_holder_123 ?_
                refine V_topi (show _ = (0 : Int32) from rfl) ?_
                refine pt_X4_thrown C fk_X4_59 dX4_holder_126 ?_
                refine V_aload_n C dX4_holder_129 rfl ?_
                refine gt_X4_thrown C fk_X4_59 dX4_holder_130 ?_
                refine V_topi (show _ = (0 : Int32) from rfl) ?_
                refine V_if_le C 140 dX4_holder_133 (by decide) (fun h133 => ?_) (fun h133 => ?_)
                · refine V_iload_n C dX4_holder_140 rfl ?_
                  have hg : gg = none := hG.trans (by first | (simp [g3_holder, gS, gO, h6, h31, h106, h110, h115, h133]; done) | (simp [g3_holder, gS, gO, tiw, q7, h6, h31, h106, h110, h115, h133]; done))
                  exact V_ireti C hr dX4_holder_141 ⟨by rw [hg]; exact rfl, rfl, by rw [hg]; exact (by first | exact up2_2 | exact up2_2.trans up2_2 | rfl)⟩
                · exact absurd h133 (by decide)
              · have q7 : anyN (nthS (hs q iw) idx) (10) = false := (fI_any (n := 10) (by decide)).mp (by simpa using h115)
                refine V_iconst (v := 2) C dX4_holder_118 (by decide) ?_
                refine V_goto C 126 dX4_holder_119 (by decide) ?_
                refine pt_X4_thrown C fk_X4_59 dX4_holder_126 ?_
                refine V_aload_n C dX4_holder_129 rfl ?_
                refine gt_X4_thrown C fk_X4_59 dX4_holder_130 ?_
                refine V_topi (show _ = (2 : Int32) from rfl) ?_
                refine V_if_le C 140 dX4_holder_133 (by decide) (fun h133 => ?_) (fun h133 => ?_)
                · exact absurd h133 (by decide)
                · refine V_iconst (v := 0) C dX4_holder_136 (by decide) ?_
                  refine V_goto C 141 dX4_holder_137 (by decide) ?_
                  have hg : gg = some eN := hG.trans (by first | (simp [g3_holder, gS, gO, h6, h31, h106, h110, h115, h133]; done) | (simp [g3_holder, gS, gO, tiw, q7, h6, h31, h106, h110, h115, h133]; done))
                  exact V_ireti C hr dX4_holder_141 ⟨by rw [hg]; exact rfl, rfl, by rw [hg]; exact (by first | exact up2_2 | exact up2_2.trans up2_2 | rfl)⟩
        · refine V_aload_n C dX4_holder_34 rfl ?_
          refine gt_X4_thrown C fk_X4_59 dX4_holder_35 ?_
          refine V_topi (show _ = (0 : Int32) from rfl) ?_
          refine V_if_ne C 101 dX4_holder_38 (by decide) (fun h38 => ?_) (fun h38 => ?_)
          · exact absurd h38 (by decide)
          · refine V_aload_n C dX4_holder_41 rfl ?_
            refine gt_X4_paid C fk_X4_41 dX4_holder_42 ?_
            refine V_iload C dX4_holder_45 rfl ?_
            refine V_iload_n C dX4_holder_47 rfl ?_
            refine V_callf (R_S C (c_X4_pair hfl) mi_X4_pair mk_X4_96 rfl (by decide) rfl (Nat.le_of_ble_eq_true rfl) (by decide) dX4_holder_48) ?_
            refine la_m_paid C _ rfl (by omega) dX4_holder_51 ?_
            refine V_topi (hR.th.pd (by omega) (by omega)) ?_
            refine V_iconst (v := -1) C dX4_holder_52 (by decide) ?_
            refine V_icmp_eq C 60 dX4_holder_53 (by decide) (fun h53 => ?_) (fun h53 => ?_)
            · refine V_iconst (v := 0) C dX4_holder_60 (by decide) ?_
              refine V_istore_6 C dX4_holder_61 (by decide) ?_
              refine V_iload C dX4_holder_63 rfl ?_
              refine V_if_eq C 78 dX4_holder_65 (by decide) (fun h65 => ?_) (fun h65 => ?_)
              · refine V_iload_n C dX4_holder_78 rfl ?_
                refine V_istore_n3 C dX4_holder_79 (by decide) ?_
                refine V_iload C dX4_holder_80 rfl ?_
                refine V_iload C dX4_holder_82 rfl ?_
                refine V_if_eq C 91 dX4_holder_84 (by decide) (fun h84 => ?_) (fun h84 => ?_)
                · refine V_iconst (v := 0) C dX4_holder_91 (by decide) ?_
                  refine V_isub C dX4_holder_92 ?_
                  try refine V_topi (Int32.sub_zero _) ?_
                  refine V_istore_4 C dX4_holder_93 (by decide) ?_
                  refine V_iinc_5 C _ dX4_holder_95 (nI_1 _) (by decide) ?_
                  refine V_goto C 25 dX4_holder_98 (by decide) ?_
                  refine V_forget (lvLe.same (lvLe.same (lvLe.same (lvLe.same (lvLe.same (lvLe.same (lvLe.drop lvLe.nil))))))) ?_
                  have ih := ih25 (k + 1) (by omega) (by omega)
                  first
                    | (have q1 : nthS (hs q iw) idx k = true := by (simp [nthS, hs, h53, sub0.mp h70]; done)
                       have q2 : cntN (hs q iw) (k + 1) = cntN (hs q iw) k + 1 := by (simp [cntN, hs, h53]; done)
                       rw [fI_t q1 (fun j hj => nthS_u (by omega) q1 hj), q2, ← isub_n] at ih; exact ih)
                    | (have q1 : nthS (hs q iw) idx k = false := by (simp [nthS, mt sub0.mpr h70]; done)
                       have q2 : cntN (hs q iw) (k + 1) = cntN (hs q iw) k + 1 := by (simp [cntN, hs, h53]; done)
                       rw [fI_s q1, q2, ← isub_n] at ih; exact ih)
                    | (have q1 : nthS (hs q iw) idx k = false := by (simp [nthS, hs, h53]; done)
                       have q2 : cntN (hs q iw) (k + 1) = cntN (hs q iw) k := by (simp [cntN, hs, h53]; done)
                       rw [fI_s q1, q2] at ih; exact ih)
                · exact absurd h84 (by decide)
              · exact absurd h65 (by decide)
            · refine V_iconst (v := 1) C dX4_holder_56 (by decide) ?_
              refine V_goto C 61 dX4_holder_57 (by decide) ?_
              refine V_istore_6 C dX4_holder_61 (by decide) ?_
              refine V_iload C dX4_holder_63 rfl ?_
              refine V_if_eq C 78 dX4_holder_65 (by decide) (fun h65 => ?_) (fun h65 => ?_)
              · exact absurd h65 (by decide)
              · refine V_iload C dX4_holder_68 rfl ?_
                refine V_if_ne C 78 dX4_holder_70 (by decide) (fun h70 => ?_) (fun h70 => ?_)
                · refine V_iload_n C dX4_holder_78 rfl ?_
                  refine V_istore_n3 C dX4_holder_79 (by decide) ?_
                  refine V_iload C dX4_holder_80 rfl ?_
                  refine V_iload C dX4_holder_82 rfl ?_
                  refine V_if_eq C 91 dX4_holder_84 (by decide) (fun h84 => ?_) (fun h84 => ?_)
                  · exact absurd h84 (by decide)
                  · refine V_iconst (v := 1) C dX4_holder_87 (by decide) ?_
                    refine V_goto C 92 dX4_holder_88 (by decide) ?_
                    refine V_isub C dX4_holder_92 ?_
                    try refine V_topi (Int32.sub_zero _) ?_
                    refine V_istore_4 C dX4_holder_93 (by decide) ?_
                    refine V_iinc_5 C _ dX4_holder_95 (nI_1 _) (by decide) ?_
                    refine V_goto C 25 dX4_holder_98 (by decide) ?_
                    refine V_forget (lvLe.same (lvLe.same (lvLe.same (lvLe.same (lvLe.same (lvLe.same (lvLe.drop lvLe.nil))))))) ?_
                    have ih := ih25 (k + 1) (by omega) (by omega)
                    first
                      | (have q1 : nthS (hs q iw) idx k = true := by (simp [nthS, hs, h53, sub0.mp h70]; done)
                         have q2 : cntN (hs q iw) (k + 1) = cntN (hs q iw) k + 1 := by (simp [cntN, hs, h53]; done)
                         rw [fI_t q1 (fun j hj => nthS_u (by omega) q1 hj), q2, ← isub_n] at ih; exact ih)
                      | (have q1 : nthS (hs q iw) idx k = false := by (simp [nthS, mt sub0.mpr h70]; done)
                         have q2 : cntN (hs q iw) (k + 1) = cntN (hs q iw) k + 1 := by (simp [cntN, hs, h53]; done)
                         rw [fI_s q1, q2, ← isub_n] at ih; exact ih)
                      | (have q1 : nthS (hs q iw) idx k = false := by (simp [nthS, hs, h53]; done)
                         have q2 : cntN (hs q iw) (k + 1) = cntN (hs q iw) k := by (simp [cntN, hs, h53]; done)
                         rw [fI_s q1, q2] at ih; exact ih)
                · refine V_iload C dX4_holder_73 rfl ?_
                  refine V_goto C 79 dX4_holder_75 (by decide) ?_
                  refine V_istore_n3 C dX4_holder_79 (by decide) ?_
                  refine V_iload C dX4_holder_80 rfl ?_
                  refine V_iload C dX4_holder_82 rfl ?_
                  refine V_if_eq C 91 dX4_holder_84 (by decide) (fun h84 => ?_) (fun h84 => ?_)
                  · exact absurd h84 (by decide)
                  · refine V_iconst (v := 1) C dX4_holder_87 (by decide) ?_
                    refine V_goto C 92 dX4_holder_88 (by decide) ?_
                    refine V_isub C dX4_holder_92 ?_
                    try refine V_topi (Int32.sub_zero _) ?_
                    refine V_istore_4 C dX4_holder_93 (by decide) ?_
                    refine V_iinc_5 C _ dX4_holder_95 (nI_1 _) (by decide) ?_
                    refine V_goto C 25 dX4_holder_98 (by decide) ?_
                    refine V_forget (lvLe.same (lvLe.same (lvLe.same (lvLe.same (lvLe.same (lvLe.same (lvLe.drop lvLe.nil))))))) ?_
                    have ih := ih25 (k + 1) (by omega) (by omega)
                    first
                      | (have q1 : nthS (hs q iw) idx k = true := by (simp [nthS, hs, h53, sub0.mp h70]; done)
                         have q2 : cntN (hs q iw) (k + 1) = cntN (hs q iw) k + 1 := by (simp [cntN, hs, h53]; done)
                         rw [fI_t q1 (fun j hj => nthS_u (by omega) q1 hj), q2, ← isub_n] at ih; exact ih)
                      | (have q1 : nthS (hs q iw) idx k = false := by (simp [nthS, mt sub0.mpr h70]; done)
                         have q2 : cntN (hs q iw) (k + 1) = cntN (hs q iw) k + 1 := by (simp [cntN, hs, h53]; done)
                         rw [fI_s q1, q2, ← isub_n] at ih; exact ih)
                      | (have q1 : nthS (hs q iw) idx k = false := by (simp [nthS, hs, h53]; done)
                         have q2 : cntN (hs q iw) (k + 1) = cntN (hs q iw) k := by (simp [cntN, hs, h53]; done)
                         rw [fI_s q1, q2] at ih; exact ih)
    have L := L25 _ 0 (Nat.zero_le _) (Nat.lt_succ_self _)
    rw [show idx - nI (cntN (hs q iw) 0) = idx from Int32.sub_zero idx] at L
    exact L
set_option maxHeartbeats 4000000 in
set_option maxRecDepth 100000 in
theorem c_X4_paid {l : Launch} {x : Sh} {a b : Mem} {o : Out} (hfl : l.stackTraces = false) {q : Mem} (hW : WC q) (hI : IQ q) (hR : RR q b) {p w : Int32} : MG l x yX4_paid cX4_paid 3 (some .int) 6 280 [.ref (x.2.1 70), .int p, .int w] a b o (QI x o (FI (rd (g3_paid q p w) (q (18 + 4 * tn w + 1) (tn p))) a (up2 b 70 0 (cd [eI, eN] (g3_paid q p w))))) := by
  refine MG.of (maxL := 3) (ret := (some .int)) hfl (by decide) [some (.ref (x.2.1 70)), some (.int p), some (.int w)] rfl rfl (Nat.le_of_ble_eq_true rfl) ?_
  intro pP eE sS mM argsA belowB methM cC C hr
  have ho12 := hW.ol
  have hp10 := hW.pl
  have he6 := hW.el
  obtain ⟨gg, hG⟩ : ∃ gg, gg = (g3_paid q p w) := ⟨_, rfl⟩
  rw [← hG]
  refine V_aload_n C dX4_paid_0 rfl ?_
  refine V_aload_n C dX4_paid_1 rfl ?_
  refine V_iload_n C dX4_paid_2 rfl ?_
  refine V_callf (R_V C (c_X4_isPupil hfl hW hI hR) mi_X4_isPupil mk_X4_90 rfl (by omega) rfl (rfl : vwCl[6]? = some (RX4, TX4, 24)) (by decide) rfl (Nat.le_of_ble_eq_true rfl) (by decide) dX4_paid_3) ?_
  refine V_ifb_eq C 17 dX4_paid_6 (by decide) (fun h6 => ?_) (fun h6 => ?_)
  · refine V_iconst (v := 1) C dX4_paid_17 (by decide) ?_
    refine V_goto C 22 dX4_paid_18 (by decide) ?_
    refine pt_X4_thrown C fk_X4_59 dX4_paid_22 ?_
    refine V_aload_n C dX4_paid_25 rfl ?_
    refine gt_X4_thrown C fk_X4_59 dX4_paid_26 ?_
    refine V_topi (show _ = (1 : Int32) from rfl) ?_
    refine V_if_ne C 55 dX4_paid_29 (by decide) (fun h29 => ?_) (fun h29 => ?_)
    · refine V_aload_n C dX4_paid_55 rfl ?_
      refine gt_X4_thrown C fk_X4_59 dX4_paid_56 ?_
      refine V_topi (show _ = (1 : Int32) from rfl) ?_
      refine V_if_le C 66 dX4_paid_59 (by decide) (fun h59 => ?_) (fun h59 => ?_)
      · exact absurd h59 (by decide)
      · refine V_iconst (v := 0) C dX4_paid_62 (by decide) ?_
        refine V_goto C 76 dX4_paid_63 (by decide) ?_
        have hg : gg = some eI := hG.trans (by first | (simp [g3_paid, gS, gO, h6, h29, h59]; done) | (simp [g3_paid, gS, gO, hs, tjp, tiw, h6, h29, h59]; done))
        exact V_ireti C hr dX4_paid_76 ⟨by rw [hg]; exact rfl, rfl, by rw [hg]; exact (by first | exact up2_2 | exact up2_2.trans up2_2 | rfl)⟩
    · exact absurd h29 (by decide)
  · obtain ⟨jp, hjp, jpe⟩ := ix_of (E := eI) (gO_n.mpr h6) hW.pe (by omega)
    subst jpe
    have tjp : tn (nI jp) = jp := tn_nI (by omega)
    try rw [tjp]
    refine V_aload_n C dX4_paid_9 rfl ?_
    refine V_iload_n C dX4_paid_10 rfl ?_
    refine V_callf (R_V C (c_X4_isOffer hfl hW hI hR) mi_X4_isOffer mk_X4_93 rfl (by omega) rfl (rfl : vwCl[6]? = some (RX4, TX4, 24)) (by decide) rfl (Nat.le_of_ble_eq_true rfl) (by decide) dX4_paid_11) ?_
    refine V_ifb_ne C 21 dX4_paid_14 (by decide) (fun h14 => ?_) (fun h14 => ?_)
    · obtain ⟨iw, hiw, iwe⟩ := ix_of (E := eI) (gO_n.mpr h14) hW.oe (by omega)
      subst iwe
      have tiw : tn (nI iw) = iw := tn_nI (by omega)
      try rw [tiw]
      refine V_iconst (v := 0) C dX4_paid_21 (by decide) ?_
      refine pt_X4_thrown C fk_X4_59 dX4_paid_22 ?_
      refine V_aload_n C dX4_paid_25 rfl ?_
      refine gt_X4_thrown C fk_X4_59 dX4_paid_26 ?_
      refine V_topi (show _ = (0 : Int32) from rfl) ?_
      refine V_if_ne C 55 dX4_paid_29 (by decide) (fun h29 => ?_) (fun h29 => ?_)
      · exact absurd h29 (by decide)
      · refine V_aload_n C dX4_paid_32 rfl ?_
        refine V_aload_n C dX4_paid_33 rfl ?_
        refine gt_X4_paid C fk_X4_41 dX4_paid_34 ?_
        refine V_iload_n C dX4_paid_37 rfl ?_
        refine V_iload_n C dX4_paid_38 rfl ?_
        refine V_callf (R_S C (c_X4_pair hfl) mi_X4_pair mk_X4_96 rfl (by decide) rfl (Nat.le_of_ble_eq_true rfl) (by decide) dX4_paid_39) ?_
        refine la_m_paid C _ rfl (by omega) dX4_paid_42 ?_
        refine V_topi (hR.th.pd (by omega) (by omega)) ?_
        refine V_iconst (v := -1) C dX4_paid_43 (by decide) ?_
        refine V_icmp_ne C 51 dX4_paid_44 (by decide) (fun h44 => ?_) (fun h44 => ?_)
        · refine V_iconst (v := 0) C dX4_paid_51 (by decide) ?_
          refine pt_X4_thrown C fk_X4_59 dX4_paid_52 ?_
          refine V_aload_n C dX4_paid_55 rfl ?_
          refine gt_X4_thrown C fk_X4_59 dX4_paid_56 ?_
          refine V_topi (show _ = (0 : Int32) from rfl) ?_
          refine V_if_le C 66 dX4_paid_59 (by decide) (fun h59 => ?_) (fun h59 => ?_)
          · refine V_aload_n C dX4_paid_66 rfl ?_
            refine gt_X4_paid C fk_X4_41 dX4_paid_67 ?_
            refine V_iload_n C dX4_paid_70 rfl ?_
            refine V_iload_n C dX4_paid_71 rfl ?_
            refine V_callf (R_S C (c_X4_pair hfl) mi_X4_pair mk_X4_96 rfl (by decide) rfl (Nat.le_of_ble_eq_true rfl) (by decide) dX4_paid_72) ?_
            refine la_m_paid C _ rfl (by omega) dX4_paid_75 ?_
            refine V_topi (hR.th.th.pd (by omega) (by omega)) ?_
            have hg : gg = none := hG.trans (by first | (simp [g3_paid, gS, gO, h6, h14, h29, h44, h59]; done) | (simp [g3_paid, gS, gO, hs, tjp, tiw, h6, h14, h29, h44, h59]; done))
            exact V_ireti C hr dX4_paid_76 ⟨by rw [hg]; exact rfl, rfl, by rw [hg]; exact (by first | exact up2_2 | exact up2_2.trans up2_2 | rfl)⟩
          · exact absurd h59 (by decide)
        · refine V_iconst (v := 2) C dX4_paid_47 (by decide) ?_
          refine V_goto C 52 dX4_paid_48 (by decide) ?_
          refine pt_X4_thrown C fk_X4_59 dX4_paid_52 ?_
          refine V_aload_n C dX4_paid_55 rfl ?_
          refine gt_X4_thrown C fk_X4_59 dX4_paid_56 ?_
          refine V_topi (show _ = (2 : Int32) from rfl) ?_
          refine V_if_le C 66 dX4_paid_59 (by decide) (fun h59 => ?_) (fun h59 => ?_)
          · exact absurd h59 (by decide)
          · refine V_iconst (v := 0) C dX4_paid_62 (by decide) ?_
            refine V_goto C 76 dX4_paid_63 (by decide) ?_
            have hg : gg = some eN := hG.trans (by first | (simp [g3_paid, gS, gO, h6, h14, h29, h44, h59]; done) | (simp [g3_paid, gS, gO, hs, tjp, tiw, h6, h14, h29, h44, h59]; done))
            exact V_ireti C hr dX4_paid_76 ⟨by rw [hg]; exact rfl, rfl, by rw [hg]; exact (by first | exact up2_2 | exact up2_2.trans up2_2 | rfl)⟩
    · refine V_iconst (v := 1) C dX4_paid_17 (by decide) ?_
      refine V_goto C 22 dX4_paid_18 (by decide) ?_
      refine pt_X4_thrown C fk_X4_59 dX4_paid_22 ?_
      refine V_aload_n C dX4_paid_25 rfl ?_
      refine gt_X4_thrown C fk_X4_59 dX4_paid_26 ?_
      refine V_topi (show _ = (1 : Int32) from rfl) ?_
      refine V_if_ne C 55 dX4_paid_29 (by decide) (fun h29 => ?_) (fun h29 => ?_)
      · refine V_aload_n C dX4_paid_55 rfl ?_
        refine gt_X4_thrown C fk_X4_59 dX4_paid_56 ?_
        refine V_topi (show _ = (1 : Int32) from rfl) ?_
        refine V_if_le C 66 dX4_paid_59 (by decide) (fun h59 => ?_) (fun h59 => ?_)
        · exact absurd h59 (by decide)
        · refine V_iconst (v := 0) C dX4_paid_62 (by decide) ?_
          refine V_goto C 76 dX4_paid_63 (by decide) ?_
          have hg : gg = some eI := hG.trans (by first | (simp [g3_paid, gS, gO, h6, h14, h29, h59]; done) | (simp [g3_paid, gS, gO, hs, tjp, tiw, h6, h14, h29, h59]; done))
          exact V_ireti C hr dX4_paid_76 ⟨by rw [hg]; exact rfl, rfl, by rw [hg]; exact (by first | exact up2_2 | exact up2_2.trans up2_2 | rfl)⟩
      · exact absurd h29 (by decide)
set_option maxHeartbeats 4000000 in
set_option maxRecDepth 100000 in
theorem c_X4_waiting {l : Launch} {x : Sh} {a b : Mem} {o : Out} (hfl : l.stackTraces = false) {q : Mem} (hW : WC q) (hI : IQ q) (hR : RR q b) {w : Int32} : MG l x yX4_waiting cX4_waiting 2 (some .int) 6 280 [.ref (x.2.1 70), .int w] a b o (QI x o (FI (rd (gQ q w) (q (18 + 4 * tn w) 8)) a (up2 b 70 0 (cd [eI] (gQ q w))))) := by
  refine MG.of (maxL := 2) (ret := (some .int)) hfl (by decide) [some (.ref (x.2.1 70)), some (.int w)] rfl rfl (Nat.le_of_ble_eq_true rfl) ?_
  intro pP eE sS mM argsA belowB methM cC C hr
  have ho12 := hW.ol
  have hp10 := hW.pl
  have he6 := hW.el
  obtain ⟨gg, hG⟩ : ∃ gg, gg = (gQ q w) := ⟨_, rfl⟩
  rw [← hG]
  refine V_aload_n C dX4_waiting_0 rfl ?_
  refine V_aload_n C dX4_waiting_1 rfl ?_
  refine V_iload_n C dX4_waiting_2 rfl ?_
  refine V_callf (R_V C (c_X4_isOffer hfl hW hI hR) mi_X4_isOffer mk_X4_93 rfl (by omega) rfl (rfl : vwCl[6]? = some (RX4, TX4, 24)) (by decide) rfl (Nat.le_of_ble_eq_true rfl) (by decide) dX4_waiting_3) ?_
  refine V_ifb_eq C 13 dX4_waiting_6 (by decide) (fun h6 => ?_) (fun h6 => ?_)
  · refine V_iconst (v := 1) C dX4_waiting_13 (by decide) ?_
    refine pt_X4_thrown C fk_X4_59 dX4_waiting_14 ?_
    refine V_aload_n C dX4_waiting_17 rfl ?_
    refine gt_X4_thrown C fk_X4_59 dX4_waiting_18 ?_
    refine V_topi (show _ = (1 : Int32) from rfl) ?_
    refine V_if_le C 28 dX4_waiting_21 (by decide) (fun h21 => ?_) (fun h21 => ?_)
    · exact absurd h21 (by decide)
    · refine V_iconst (v := 0) C dX4_waiting_24 (by decide) ?_
      refine V_goto C 34 dX4_waiting_25 (by decide) ?_
      have hg : gg = some eI := hG.trans (by simp [gO, gS, gO, gP, gE, gQ, gT, gL, gF, h6, h21])
      exact V_ireti C hr dX4_waiting_34 ⟨by rw [hg]; exact rfl, rfl, by rw [hg]; exact (by first | exact up2_2 | exact up2_2.trans up2_2 | rfl)⟩
  · obtain ⟨iw, hiw, iwe⟩ := ix_of (E := eI) (gO_n.mpr h6) hW.oe (by omega)
    subst iwe
    have tiw : tn (nI iw) = iw := tn_nI (by omega)
    try rw [tiw]
    refine V_iconst (v := 0) C dX4_waiting_9 (by decide) ?_
    refine V_goto C 14 dX4_waiting_10 (by decide) ?_
    refine pt_X4_thrown C fk_X4_59 dX4_waiting_14 ?_
    refine V_aload_n C dX4_waiting_17 rfl ?_
    refine gt_X4_thrown C fk_X4_59 dX4_waiting_18 ?_
    refine V_topi (show _ = (0 : Int32) from rfl) ?_
    refine V_if_le C 28 dX4_waiting_21 (by decide) (fun h21 => ?_) (fun h21 => ?_)
    · refine V_aload_n C dX4_waiting_28 rfl ?_
      refine gt_X4_waiting C fk_X4_26 dX4_waiting_29 ?_
      refine V_iload_n C dX4_waiting_32 rfl ?_
      refine la_m_waiting C _ rfl (by omega) dX4_waiting_33 ?_
      refine V_topi (hR.th.qw (by omega)) ?_
      have hg : gg = none := hG.trans (by simp [gO, gS, gO, gP, gE, gQ, gT, gL, gF, h6, h21])
      exact V_ireti C hr dX4_waiting_34 ⟨by rw [hg]; exact rfl, rfl, by rw [hg]; exact (by first | exact up2_2 | exact up2_2.trans up2_2 | rfl)⟩
    · exact absurd h21 (by decide)
set_option maxHeartbeats 4000000 in
set_option maxRecDepth 100000 in
theorem c_X4_waiter {l : Launch} {x : Sh} {a b : Mem} {o : Out} (hfl : l.stackTraces = false) {q : Mem} (hW : WC q) (hI : IQ q) (hR : RR q b) {w idx : Int32} : MG l x yX4_waiter cX4_waiter 3 (some .int) 6 280 [.ref (x.2.1 70), .int w, .int idx] a b o (QI x o (FI (rd (g3_waiter q w idx) (q (18 + 4 * tn w + 2) (tn idx))) a (up2 b 70 0 (cd [eI, eN] (g3_waiter q w idx))))) := by
  refine MG.of (maxL := 3) (ret := (some .int)) hfl (by decide) [some (.ref (x.2.1 70)), some (.int w), some (.int idx)] rfl rfl (Nat.le_of_ble_eq_true rfl) ?_
  intro pP eE sS mM argsA belowB methM cC C hr
  have ho12 := hW.ol
  have hp10 := hW.pl
  have he6 := hW.el
  obtain ⟨gg, hG⟩ : ∃ gg, gg = (g3_waiter q w idx) := ⟨_, rfl⟩
  rw [← hG]
  refine V_aload_n C dX4_waiter_0 rfl ?_
  refine V_aload_n C dX4_waiter_1 rfl ?_
  refine V_iload_n C dX4_waiter_2 rfl ?_
  refine V_callf (R_V C (c_X4_isOffer hfl hW hI hR) mi_X4_isOffer mk_X4_93 rfl (by omega) rfl (rfl : vwCl[6]? = some (RX4, TX4, 24)) (by decide) rfl (Nat.le_of_ble_eq_true rfl) (by decide) dX4_waiter_3) ?_
  refine V_ifb_eq C 13 dX4_waiter_6 (by decide) (fun h6 => ?_) (fun h6 => ?_)
  · refine V_iconst (v := 1) C dX4_waiter_13 (by decide) ?_
    refine pt_X4_thrown C fk_X4_59 dX4_waiter_14 ?_
    refine V_aload_n C dX4_waiter_17 rfl ?_
    refine gt_X4_thrown C fk_X4_59 dX4_waiter_18 ?_
    refine V_topi (show _ = (1 : Int32) from rfl) ?_
    refine V_if_ne C 49 dX4_waiter_21 (by decide) (fun h21 => ?_) (fun h21 => ?_)
    · refine V_aload_n C dX4_waiter_49 rfl ?_
      refine gt_X4_thrown C fk_X4_59 dX4_waiter_50 ?_
      refine V_topi (show _ = (1 : Int32) from rfl) ?_
      refine V_if_le C 60 dX4_waiter_53 (by decide) (fun h53 => ?_) (fun h53 => ?_)
      · exact absurd h53 (by decide)
      · refine V_iconst (v := 0) C dX4_waiter_56 (by decide) ?_
        refine V_goto C 71 dX4_waiter_57 (by decide) ?_
        have hg : gg = some eI := hG.trans (by first | (simp [g3_waiter, gS, gO, h6, h21, h53]; done) | (simp [g3_waiter, gS, gO, tiw, h6, h21, h53]; done))
        exact V_ireti C hr dX4_waiter_71 ⟨by rw [hg]; exact rfl, rfl, by rw [hg]; exact (by first | exact up2_2 | exact up2_2.trans up2_2 | rfl)⟩
    · exact absurd h21 (by decide)
  · obtain ⟨iw, hiw, iwe⟩ := ix_of (E := eI) (gO_n.mpr h6) hW.oe (by omega)
    subst iwe
    have tiw : tn (nI iw) = iw := tn_nI (by omega)
    try rw [tiw]
    have hq10 := hW.ql (i := iw) (by omega)
    refine V_iconst (v := 0) C dX4_waiter_9 (by decide) ?_
    refine V_goto C 14 dX4_waiter_10 (by decide) ?_
    refine pt_X4_thrown C fk_X4_59 dX4_waiter_14 ?_
    refine V_aload_n C dX4_waiter_17 rfl ?_
    refine gt_X4_thrown C fk_X4_59 dX4_waiter_18 ?_
    refine V_topi (show _ = (0 : Int32) from rfl) ?_
    refine V_if_ne C 49 dX4_waiter_21 (by decide) (fun h21 => ?_) (fun h21 => ?_)
    · exact absurd h21 (by decide)
    · refine V_aload_n C dX4_waiter_24 rfl ?_
      refine V_iload_n C dX4_waiter_25 rfl ?_
      refine V_iconst (v := 0) C dX4_waiter_26 (by decide) ?_
      refine V_aload_n C dX4_waiter_27 rfl ?_
      refine gt_X4_waiting C fk_X4_26 dX4_waiter_28 ?_
      refine V_iload_n C dX4_waiter_31 rfl ?_
      refine la_m_waiting C _ rfl (by omega) dX4_waiter_32 ?_
      refine V_topi (hR.th.qw (by omega)) ?_
      refine V_iconst (v := 1) C dX4_waiter_33 (by decide) ?_
      refine V_isub C dX4_waiter_34 ?_
      refine V_callf (R_S C (c_X4_in hfl) mi_X4_in mk_X4_66 rfl (by decide) rfl (Nat.le_of_ble_eq_true rfl) (by decide) dX4_waiter_35) ?_
      rw [inR_n (hW.qe (by omega)) (by omega)]
      refine V_ifb_eq C 45 dX4_waiter_38 (by decide) (fun h38 => ?_) (fun h38 => ?_)
      · refine V_iconst (v := 2) C dX4_waiter_45 (by decide) ?_
        refine pt_X4_thrown C fk_X4_59 dX4_waiter_46 ?_
        refine V_aload_n C dX4_waiter_49 rfl ?_
        refine gt_X4_thrown C fk_X4_59 dX4_waiter_50 ?_
        refine V_topi (show _ = (2 : Int32) from rfl) ?_
        refine V_if_le C 60 dX4_waiter_53 (by decide) (fun h53 => ?_) (fun h53 => ?_)
        · exact absurd h53 (by decide)
        · refine V_iconst (v := 0) C dX4_waiter_56 (by decide) ?_
          refine V_goto C 71 dX4_waiter_57 (by decide) ?_
          have hg : gg = some eN := hG.trans (by first | (simp [g3_waiter, gS, gO, h6, h21, h38, h53]; done) | (simp [g3_waiter, gS, gO, tiw, h6, h21, h38, h53]; done))
          exact V_ireti C hr dX4_waiter_71 ⟨by rw [hg]; exact rfl, rfl, by rw [hg]; exact (by first | exact up2_2 | exact up2_2.trans up2_2 | rfl)⟩
      · obtain ⟨kk, hkk, kke⟩ := ix_of (E := eN) (gO_n.mpr h38) (hW.qe (by omega)) (by omega)
        subst kke
        have tkk : tn (nI kk) = kk := tn_nI (by omega)
        try rw [tkk]
        refine V_iconst (v := 0) C dX4_waiter_41 (by decide) ?_
        refine V_goto C 46 dX4_waiter_42 (by decide) ?_
        refine pt_X4_thrown C fk_X4_59 dX4_waiter_46 ?_
        refine V_aload_n C dX4_waiter_49 rfl ?_
        refine gt_X4_thrown C fk_X4_59 dX4_waiter_50 ?_
        refine V_topi (show _ = (0 : Int32) from rfl) ?_
        refine V_if_le C 60 dX4_waiter_53 (by decide) (fun h53 => ?_) (fun h53 => ?_)
        · refine V_aload_n C dX4_waiter_60 rfl ?_
          refine gt_X4_waiter C fk_X4_29 dX4_waiter_61 ?_
          refine V_bipush (v := nI 10) C dX4_waiter_64 (by decide) ?_
          refine V_iload_n C dX4_waiter_66 rfl ?_
          refine V_imul C dX4_waiter_67 ?_
          refine V_topi (pk_mul _ _) ?_
          refine V_iload_n C dX4_waiter_68 rfl ?_
          refine V_iadd C dX4_waiter_69 ?_
          refine V_topi (nI_add _ _) ?_
          refine la_m_waiter C _ rfl (by omega) dX4_waiter_70 ?_
          refine V_topi ((show b 77 (10 * iw + kk) = _ from hR.wt (by omega) (by omega))) ?_
          have hg : gg = none := hG.trans (by first | (simp [g3_waiter, gS, gO, h6, h21, h38, h53]; done) | (simp [g3_waiter, gS, gO, tiw, h6, h21, h38, h53]; done))
          exact V_ireti C hr dX4_waiter_71 ⟨by rw [hg]; exact rfl, rfl, by rw [hg]; exact (by first | exact up2_2 | exact up2_2.trans up2_2 | rfl)⟩
        · exact absurd h53 (by decide)
set_option maxHeartbeats 4000000 in
set_option maxRecDepth 100000 in
theorem c_X4_slotOf {l : Launch} {x : Sh} {a b : Mem} {o : Out} (hfl : l.stackTraces = false) {q : Mem} (hW : WC q) (hI : IQ q) (hR : RR q b) {w : Int32} : MG l x yX4_slotOf cX4_slotOf 2 (some .int) 6 280 [.ref (x.2.1 70), .int w] a b o (QI x o (FI (rd (gQ q w) (q (18 + 4 * tn w) 1)) a (up2 b 70 0 (cd [eI] (gQ q w))))) := by
  refine MG.of (maxL := 2) (ret := (some .int)) hfl (by decide) [some (.ref (x.2.1 70)), some (.int w)] rfl rfl (Nat.le_of_ble_eq_true rfl) ?_
  intro pP eE sS mM argsA belowB methM cC C hr
  have ho12 := hW.ol
  have hp10 := hW.pl
  have he6 := hW.el
  obtain ⟨gg, hG⟩ : ∃ gg, gg = (gQ q w) := ⟨_, rfl⟩
  rw [← hG]
  refine V_aload_n C dX4_slotOf_0 rfl ?_
  refine V_aload_n C dX4_slotOf_1 rfl ?_
  refine V_iload_n C dX4_slotOf_2 rfl ?_
  refine V_callf (R_V C (c_X4_isOffer hfl hW hI hR) mi_X4_isOffer mk_X4_93 rfl (by omega) rfl (rfl : vwCl[6]? = some (RX4, TX4, 24)) (by decide) rfl (Nat.le_of_ble_eq_true rfl) (by decide) dX4_slotOf_3) ?_
  refine V_ifb_eq C 13 dX4_slotOf_6 (by decide) (fun h6 => ?_) (fun h6 => ?_)
  · refine V_iconst (v := 1) C dX4_slotOf_13 (by decide) ?_
    refine pt_X4_thrown C fk_X4_59 dX4_slotOf_14 ?_
    refine V_aload_n C dX4_slotOf_17 rfl ?_
    refine gt_X4_thrown C fk_X4_59 dX4_slotOf_18 ?_
    refine V_topi (show _ = (1 : Int32) from rfl) ?_
    refine V_if_le C 28 dX4_slotOf_21 (by decide) (fun h21 => ?_) (fun h21 => ?_)
    · exact absurd h21 (by decide)
    · refine V_iconst (v := 0) C dX4_slotOf_24 (by decide) ?_
      refine V_goto C 34 dX4_slotOf_25 (by decide) ?_
      have hg : gg = some eI := hG.trans (by simp [gO, gS, gO, gP, gE, gQ, gT, gL, gF, h6, h21])
      exact V_ireti C hr dX4_slotOf_34 ⟨by rw [hg]; exact rfl, rfl, by rw [hg]; exact (by first | exact up2_2 | exact up2_2.trans up2_2 | rfl)⟩
  · obtain ⟨iw, hiw, iwe⟩ := ix_of (E := eI) (gO_n.mpr h6) hW.oe (by omega)
    subst iwe
    have tiw : tn (nI iw) = iw := tn_nI (by omega)
    try rw [tiw]
    refine V_iconst (v := 0) C dX4_slotOf_9 (by decide) ?_
    refine V_goto C 14 dX4_slotOf_10 (by decide) ?_
    refine pt_X4_thrown C fk_X4_59 dX4_slotOf_14 ?_
    refine V_aload_n C dX4_slotOf_17 rfl ?_
    refine gt_X4_thrown C fk_X4_59 dX4_slotOf_18 ?_
    refine V_topi (show _ = (0 : Int32) from rfl) ?_
    refine V_if_le C 28 dX4_slotOf_21 (by decide) (fun h21 => ?_) (fun h21 => ?_)
    · refine V_aload_n C dX4_slotOf_28 rfl ?_
      refine gt_X4_slot C fk_X4_16 dX4_slotOf_29 ?_
      refine V_iload_n C dX4_slotOf_32 rfl ?_
      refine la_m_slot C _ rfl (by omega) dX4_slotOf_33 ?_
      refine V_topi (hR.th.sl (by omega)) ?_
      have hg : gg = none := hG.trans (by simp [gO, gS, gO, gP, gE, gQ, gT, gL, gF, h6, h21])
      exact V_ireti C hr dX4_slotOf_34 ⟨by rw [hg]; exact rfl, rfl, by rw [hg]; exact (by first | exact up2_2 | exact up2_2.trans up2_2 | rfl)⟩
    · exact absurd h21 (by decide)
set_option maxHeartbeats 4000000 in
set_option maxRecDepth 100000 in
theorem c_X4_refunds {l : Launch} {x : Sh} {a b : Mem} {o : Out} (hfl : l.stackTraces = false) {q : Mem} (hW : WC q) (hI : IQ q) (hR : RR q b) : MG l x yX4_refunds cX4_refunds 1 (some .int) 0 40 [.ref (x.2.1 70)] a b o (QI x o (FI (q 0 12) a (up2 b 70 0 0))) := by
  refine MG.of (maxL := 1) (ret := (some .int)) hfl (by decide) [some (.ref (x.2.1 70))] rfl rfl (Nat.le_of_ble_eq_true rfl) ?_
  intro pP eE sS mM argsA belowB methM cC C hr
  refine V_aload_n C dX4_refunds_0 rfl ?_
  refine V_iconst (v := 0) C dX4_refunds_1 (by decide) ?_
  refine pt_X4_thrown C fk_X4_59 dX4_refunds_2 ?_
  refine V_aload_n C dX4_refunds_5 rfl ?_
  refine gt_X4_refunds C fk_X4_159 dX4_refunds_6 ?_
  refine V_topi hR.th.c6 ?_
  exact V_ireti C hr dX4_refunds_9 ⟨rfl, rfl, rfl⟩
set_option maxHeartbeats 4000000 in
set_option maxRecDepth 100000 in
theorem c_X4_rounds {l : Launch} {x : Sh} {a b : Mem} {o : Out} (hfl : l.stackTraces = false) {q : Mem} (hW : WC q) (hI : IQ q) (hR : RR q b) : MG l x yX4_rounds cX4_rounds 1 (some .int) 0 40 [.ref (x.2.1 70)] a b o (QI x o (FI (q 0 11) a (up2 b 70 0 0))) := by
  refine MG.of (maxL := 1) (ret := (some .int)) hfl (by decide) [some (.ref (x.2.1 70))] rfl rfl (Nat.le_of_ble_eq_true rfl) ?_
  intro pP eE sS mM argsA belowB methM cC C hr
  refine V_aload_n C dX4_rounds_0 rfl ?_
  refine V_iconst (v := 0) C dX4_rounds_1 (by decide) ?_
  refine pt_X4_thrown C fk_X4_59 dX4_rounds_2 ?_
  refine V_aload_n C dX4_rounds_5 rfl ?_
  refine gt_X4_rounds C fk_X4_136 dX4_rounds_6 ?_
  refine V_topi hR.th.c5 ?_
  exact V_ireti C hr dX4_rounds_9 ⟨rfl, rfl, rfl⟩
set_option maxHeartbeats 4000000 in
set_option maxRecDepth 100000 in
theorem c_X4_isTrue {l : Launch} {x : Sh} {a b : Mem} {o : Out} (hfl : l.stackTraces = false)  : MG l x yX4_isTrue cX4_isTrue 1 (some .boolean) 0 40 [.ref (x.2.1 70)] a b o (QI x o (FI 1 a (up2 b 70 0 0))) := by
  refine MG.of (maxL := 1) (ret := (some .boolean)) hfl (by decide) [some (.ref (x.2.1 70))] rfl rfl (Nat.le_of_ble_eq_true rfl) ?_
  intro pP eE sS mM argsA belowB methM cC C hr
  refine V_aload_n C dX4_isTrue_0 rfl ?_
  refine V_iconst (v := 0) C dX4_isTrue_1 (by decide) ?_
  refine pt_X4_thrown C fk_X4_59 dX4_isTrue_2 ?_
  refine V_iconst (v := 1) C dX4_isTrue_5 (by decide) ?_
  exact V_iretz C hr (by first | exact Or.inl rfl | exact Or.inr rfl | exact bI_or _) dX4_isTrue_6 ⟨rfl, rfl, rfl⟩
set_option maxHeartbeats 4000000 in
set_option maxRecDepth 100000 in
theorem c_X4_maySit {l : Launch} {x : Sh} {a b : Mem} {o : Out} (hfl : l.stackTraces = false) {q : Mem} (hW : WC q) (hI : IQ q) (hR : RR q b) {p ex : Int32} : MG l x yX4_maySit cX4_maySit 3 (some .boolean) 6 280 [.ref (x.2.1 70), .int p, .int ex] a b o (QI x o (FI (rd (g3_maySit q p ex) (bI (rgB q (tn p) (tn ex)))) a (up2 b 70 0 (cd [eI] (g3_maySit q p ex))))) := by
  refine MG.of (maxL := 3) (ret := (some .boolean)) hfl (by decide) [some (.ref (x.2.1 70)), some (.int p), some (.int ex)] rfl rfl (Nat.le_of_ble_eq_true rfl) ?_
  intro pP eE sS mM argsA belowB methM cC C hr
  have ho12 := hW.ol
  have hp10 := hW.pl
  have he6 := hW.el
  obtain ⟨gg, hG⟩ : ∃ gg, gg = (g3_maySit q p ex) := ⟨_, rfl⟩
  rw [← hG]
  refine V_aload_n C dX4_maySit_0 rfl ?_
  refine V_aload_n C dX4_maySit_1 rfl ?_
  refine V_iload_n C dX4_maySit_2 rfl ?_
  refine V_callf (R_V C (c_X4_isPupil hfl hW hI hR) mi_X4_isPupil mk_X4_90 rfl (by omega) rfl (rfl : vwCl[6]? = some (RX4, TX4, 24)) (by decide) rfl (Nat.le_of_ble_eq_true rfl) (by decide) dX4_maySit_3) ?_
  refine V_ifb_eq C 17 dX4_maySit_6 (by decide) (fun h6 => ?_) (fun h6 => ?_)
  · refine V_iconst (v := 1) C dX4_maySit_17 (by decide) ?_
    refine V_goto C 22 dX4_maySit_18 (by decide) ?_
    refine pt_X4_thrown C fk_X4_59 dX4_maySit_22 ?_
    refine V_aload_n C dX4_maySit_25 rfl ?_
    refine gt_X4_thrown C fk_X4_59 dX4_maySit_26 ?_
    refine V_topi (show _ = (1 : Int32) from rfl) ?_
    refine V_if_ne C 45 dX4_maySit_29 (by decide) (fun h29 => ?_) (fun h29 => ?_)
    · refine V_iconst (v := 0) C dX4_maySit_45 (by decide) ?_
      have hg : gg = some eI := hG.trans (by first | (simp [g3_maySit, gS, gO, h6, h29]; done))
      exact V_iretz C hr (by first | exact Or.inl rfl | exact Or.inr rfl | exact bI_or _) dX4_maySit_46 ⟨by rw [hg]; exact rfl, rfl, by rw [hg]; exact (by first | exact up2_2 | exact up2_2.trans up2_2 | rfl)⟩
    · exact absurd h29 (by decide)
  · obtain ⟨jp, hjp, jpe⟩ := ix_of (E := eI) (gO_n.mpr h6) hW.pe (by omega)
    subst jpe
    have tjp : tn (nI jp) = jp := tn_nI (by omega)
    try rw [tjp]
    refine V_aload_n C dX4_maySit_9 rfl ?_
    refine V_iload_n C dX4_maySit_10 rfl ?_
    refine V_callf (R_V C (c_X4_isExam hfl hW hI hR) mi_X4_isExam mk_X4_79 rfl (by omega) rfl (rfl : vwCl[6]? = some (RX4, TX4, 24)) (by decide) rfl (Nat.le_of_ble_eq_true rfl) (by decide) dX4_maySit_11) ?_
    refine V_ifb_ne C 21 dX4_maySit_14 (by decide) (fun h14 => ?_) (fun h14 => ?_)
    · obtain ⟨ke, hke, kee⟩ := ix_of (E := eI) (gO_n.mpr h14) hW.ee (by omega)
      subst kee
      have tke : tn (nI ke) = ke := tn_nI (by omega)
      try rw [tke]
      refine V_iconst (v := 0) C dX4_maySit_21 (by decide) ?_
      refine pt_X4_thrown C fk_X4_59 dX4_maySit_22 ?_
      refine V_aload_n C dX4_maySit_25 rfl ?_
      refine gt_X4_thrown C fk_X4_59 dX4_maySit_26 ?_
      refine V_topi (show _ = (0 : Int32) from rfl) ?_
      refine V_if_ne C 45 dX4_maySit_29 (by decide) (fun h29 => ?_) (fun h29 => ?_)
      · exact absurd h29 (by decide)
      · refine V_aload_n C dX4_maySit_32 rfl ?_
        refine V_iload_n C dX4_maySit_33 rfl ?_
        refine V_iload_n C dX4_maySit_34 rfl ?_
        refine V_callf (R_V C (c_X4_sits hfl hW hI hR.th (by omega) (by omega)) mi_X4_sits mk_X4_113 rfl (by omega) rfl (rfl : vwCl[6]? = some (RX4, TX4, 24)) (by decide) rfl (Nat.le_of_ble_eq_true rfl) (by decide) dX4_maySit_35) ?_
        refine V_ifb_eq C 45 dX4_maySit_38 (by decide) (fun h38 => ?_) (fun h38 => ?_)
        · refine V_iconst (v := 0) C dX4_maySit_45 (by decide) ?_
          have hg : gg = none := hG.trans (by first | (simp [g3_maySit, gS, gO, h6, h14, h29, h38]; done))
          exact V_iretz C hr (by first | exact Or.inl rfl | exact Or.inr rfl | exact bI_or _) dX4_maySit_46 ⟨by rw [hg]; exact (by rw [h38]; rfl), rfl, by rw [hg]; exact (by first | exact up2_2 | exact up2_2.trans up2_2 | rfl)⟩
        · refine V_iconst (v := 1) C dX4_maySit_41 (by decide) ?_
          refine V_goto C 46 dX4_maySit_42 (by decide) ?_
          have hg : gg = none := hG.trans (by first | (simp [g3_maySit, gS, gO, h6, h14, h29, h38]; done))
          exact V_iretz C hr (by first | exact Or.inl rfl | exact Or.inr rfl | exact bI_or _) dX4_maySit_46 ⟨by rw [hg]; exact (by rw [h38]; rfl), rfl, by rw [hg]; exact (by first | exact up2_2 | exact up2_2.trans up2_2 | rfl)⟩
    · refine V_iconst (v := 1) C dX4_maySit_17 (by decide) ?_
      refine V_goto C 22 dX4_maySit_18 (by decide) ?_
      refine pt_X4_thrown C fk_X4_59 dX4_maySit_22 ?_
      refine V_aload_n C dX4_maySit_25 rfl ?_
      refine gt_X4_thrown C fk_X4_59 dX4_maySit_26 ?_
      refine V_topi (show _ = (1 : Int32) from rfl) ?_
      refine V_if_ne C 45 dX4_maySit_29 (by decide) (fun h29 => ?_) (fun h29 => ?_)
      · refine V_iconst (v := 0) C dX4_maySit_45 (by decide) ?_
        have hg : gg = some eI := hG.trans (by first | (simp [g3_maySit, gS, gO, h6, h14, h29]; done))
        exact V_iretz C hr (by first | exact Or.inl rfl | exact Or.inr rfl | exact bI_or _) dX4_maySit_46 ⟨by rw [hg]; exact rfl, rfl, by rw [hg]; exact (by first | exact up2_2 | exact up2_2.trans up2_2 | rfl)⟩
      · exact absurd h29 (by decide)
set_option maxHeartbeats 4000000 in
set_option maxRecDepth 100000 in
theorem c_X4_isOpen {l : Launch} {x : Sh} {a b : Mem} {o : Out} (hfl : l.stackTraces = false) {q : Mem} (hW : WC q) (hI : IQ q) (hR : RR q b) {p ex : Int32} : MG l x yX4_isOpen cX4_isOpen 3 (some .boolean) 6 280 [.ref (x.2.1 70), .int p, .int ex] a b o (QI x o (FI (rd (g3_maySit q p ex) (bI (roB q (tn p) (tn ex)))) a (up2 b 70 0 (cd [eI] (g3_maySit q p ex))))) := by
  refine MG.of (maxL := 3) (ret := (some .boolean)) hfl (by decide) [some (.ref (x.2.1 70)), some (.int p), some (.int ex)] rfl rfl (Nat.le_of_ble_eq_true rfl) ?_
  intro pP eE sS mM argsA belowB methM cC C hr
  have ho12 := hW.ol
  have hp10 := hW.pl
  have he6 := hW.el
  obtain ⟨gg, hG⟩ : ∃ gg, gg = (g3_maySit q p ex) := ⟨_, rfl⟩
  rw [← hG]
  refine V_aload_n C dX4_isOpen_0 rfl ?_
  refine V_aload_n C dX4_isOpen_1 rfl ?_
  refine V_iload_n C dX4_isOpen_2 rfl ?_
  refine V_callf (R_V C (c_X4_isPupil hfl hW hI hR) mi_X4_isPupil mk_X4_90 rfl (by omega) rfl (rfl : vwCl[6]? = some (RX4, TX4, 24)) (by decide) rfl (Nat.le_of_ble_eq_true rfl) (by decide) dX4_isOpen_3) ?_
  refine V_ifb_eq C 17 dX4_isOpen_6 (by decide) (fun h6 => ?_) (fun h6 => ?_)
  · refine V_iconst (v := 1) C dX4_isOpen_17 (by decide) ?_
    refine V_goto C 22 dX4_isOpen_18 (by decide) ?_
    refine pt_X4_thrown C fk_X4_59 dX4_isOpen_22 ?_
    refine V_aload_n C dX4_isOpen_25 rfl ?_
    refine gt_X4_thrown C fk_X4_59 dX4_isOpen_26 ?_
    refine V_topi (show _ = (1 : Int32) from rfl) ?_
    refine V_if_ne C 45 dX4_isOpen_29 (by decide) (fun h29 => ?_) (fun h29 => ?_)
    · refine V_iconst (v := 0) C dX4_isOpen_45 (by decide) ?_
      have hg : gg = some eI := hG.trans (by first | (simp [g3_maySit, gS, gO, h6, h29]; done))
      exact V_iretz C hr (by first | exact Or.inl rfl | exact Or.inr rfl | exact bI_or _) dX4_isOpen_46 ⟨by rw [hg]; exact rfl, rfl, by rw [hg]; exact (by first | exact up2_2 | exact up2_2.trans up2_2 | rfl)⟩
    · exact absurd h29 (by decide)
  · obtain ⟨jp, hjp, jpe⟩ := ix_of (E := eI) (gO_n.mpr h6) hW.pe (by omega)
    subst jpe
    have tjp : tn (nI jp) = jp := tn_nI (by omega)
    try rw [tjp]
    refine V_aload_n C dX4_isOpen_9 rfl ?_
    refine V_iload_n C dX4_isOpen_10 rfl ?_
    refine V_callf (R_V C (c_X4_isExam hfl hW hI hR) mi_X4_isExam mk_X4_79 rfl (by omega) rfl (rfl : vwCl[6]? = some (RX4, TX4, 24)) (by decide) rfl (Nat.le_of_ble_eq_true rfl) (by decide) dX4_isOpen_11) ?_
    refine V_ifb_ne C 21 dX4_isOpen_14 (by decide) (fun h14 => ?_) (fun h14 => ?_)
    · obtain ⟨ke, hke, kee⟩ := ix_of (E := eI) (gO_n.mpr h14) hW.ee (by omega)
      subst kee
      have tke : tn (nI ke) = ke := tn_nI (by omega)
      try rw [tke]
      refine V_iconst (v := 0) C dX4_isOpen_21 (by decide) ?_
      refine pt_X4_thrown C fk_X4_59 dX4_isOpen_22 ?_
      refine V_aload_n C dX4_isOpen_25 rfl ?_
      refine gt_X4_thrown C fk_X4_59 dX4_isOpen_26 ?_
      refine V_topi (show _ = (0 : Int32) from rfl) ?_
      refine V_if_ne C 45 dX4_isOpen_29 (by decide) (fun h29 => ?_) (fun h29 => ?_)
      · exact absurd h29 (by decide)
      · refine V_aload_n C dX4_isOpen_32 rfl ?_
        refine V_iload_n C dX4_isOpen_33 rfl ?_
        refine V_iload_n C dX4_isOpen_34 rfl ?_
        refine V_callf (R_V C (c_X4_opens hfl hW hI hR.th (by omega) (by omega)) mi_X4_opens mk_X4_110 rfl (by omega) rfl (rfl : vwCl[6]? = some (RX4, TX4, 24)) (by decide) rfl (Nat.le_of_ble_eq_true rfl) (by decide) dX4_isOpen_35) ?_
        refine V_ifb_eq C 45 dX4_isOpen_38 (by decide) (fun h38 => ?_) (fun h38 => ?_)
        · refine V_iconst (v := 0) C dX4_isOpen_45 (by decide) ?_
          have hg : gg = none := hG.trans (by first | (simp [g3_maySit, gS, gO, h6, h14, h29, h38]; done))
          exact V_iretz C hr (by first | exact Or.inl rfl | exact Or.inr rfl | exact bI_or _) dX4_isOpen_46 ⟨by rw [hg]; exact (by rw [h38]; rfl), rfl, by rw [hg]; exact (by first | exact up2_2 | exact up2_2.trans up2_2 | rfl)⟩
        · refine V_iconst (v := 1) C dX4_isOpen_41 (by decide) ?_
          refine V_goto C 46 dX4_isOpen_42 (by decide) ?_
          have hg : gg = none := hG.trans (by first | (simp [g3_maySit, gS, gO, h6, h14, h29, h38]; done))
          exact V_iretz C hr (by first | exact Or.inl rfl | exact Or.inr rfl | exact bI_or _) dX4_isOpen_46 ⟨by rw [hg]; exact (by rw [h38]; rfl), rfl, by rw [hg]; exact (by first | exact up2_2 | exact up2_2.trans up2_2 | rfl)⟩
    · refine V_iconst (v := 1) C dX4_isOpen_17 (by decide) ?_
      refine V_goto C 22 dX4_isOpen_18 (by decide) ?_
      refine pt_X4_thrown C fk_X4_59 dX4_isOpen_22 ?_
      refine V_aload_n C dX4_isOpen_25 rfl ?_
      refine gt_X4_thrown C fk_X4_59 dX4_isOpen_26 ?_
      refine V_topi (show _ = (1 : Int32) from rfl) ?_
      refine V_if_ne C 45 dX4_isOpen_29 (by decide) (fun h29 => ?_) (fun h29 => ?_)
      · refine V_iconst (v := 0) C dX4_isOpen_45 (by decide) ?_
        have hg : gg = some eI := hG.trans (by first | (simp [g3_maySit, gS, gO, h6, h14, h29]; done))
        exact V_iretz C hr (by first | exact Or.inl rfl | exact Or.inr rfl | exact bI_or _) dX4_isOpen_46 ⟨by rw [hg]; exact rfl, rfl, by rw [hg]; exact (by first | exact up2_2 | exact up2_2.trans up2_2 | rfl)⟩
      · exact absurd h29 (by decide)
