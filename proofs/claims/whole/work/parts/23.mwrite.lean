theorem cap {v : Int32} {n N : Nat} (h : v = nI n) (hn : n ≤ N) (hN : N < 2 ^ 31) : v = nI N ↔ ¬ v < nI N := by
  subst h
  rw [nI_eq (by omega) hN, nI_ltI (by omega) hN]
  omega
theorem inR_le {v lo hi : Int32} : inR v lo hi = (decide (¬ v < lo) && decide (v ≤ hi)) := by
  unfold inR
  have e : decide (¬ hi < v) = decide (v ≤ hi) := decide_eq_decide.mpr Int32.not_lt
  rw [e]
theorem fNat_l (f : Int32) : fNat f < 3 := by
  unfold fNat
  split
  · omega
  · split <;> omega
theorem fo_t {f : Int32} (h : ¬ (if fOk f = true then nI (fNat f) else -1) = -1) : fOk f = true := by
  cases hf : fOk f with
  | true => rfl
  | false => rw [hf] at h; exact absurd rfl h
theorem fo_f {f : Int32} (h : (if fOk f = true then nI (fNat f) else -1) = -1) : fOk f = false := by
  cases hf : fOk f with
  | false => rfl
  | true =>
    rw [hf, if_pos rfl] at h
    exact absurd h (nI_ne_m1 (by have := fNat_l f; omega))
theorem wr_n {f : Int32} {n : Nat} (hn : n < 3) (h : (if fOk f = true then nI (fNat f) else -1) = nI n) : fOk f = true ∧ fNat f = n := by
  cases hf : fOk f with
  | false =>
    rw [hf, if_neg (by simp)] at h
    exact absurd h.symm (nI_ne_m1 (by omega))
  | true =>
    rw [hf, if_pos rfl] at h
    exact ⟨rfl, (nI_eq (by have := fNat_l f; omega) (by omega)).mp h⟩
theorem wr_no {f : Int32} (h0 : ¬ (if fOk f = true then nI (fNat f) else -1) = 0) (h1 : ¬ (if fOk f = true then nI (fNat f) else -1) = 1) (h2 : ¬ (if fOk f = true then nI (fNat f) else -1) = 2) : fOk f = false := by
  cases hf : fOk f with
  | false => rfl
  | true =>
    rw [hf, if_pos rfl] at h0 h1 h2
    have h3 := fNat_l f
    generalize fNat f = n at h0 h1 h2 h3
    match n, h3 with
    | 0, _ => exact absurd rfl h0
    | 1, _ => exact absurd rfl h1
    | 2, _ => exact absurd rfl h2
theorem nr_t {A B C : Bool} (h : (!(A && B && C)) = false) : A = true ∧ B = true ∧ C = true := by
  cases A <;> cases B <;> cases C <;> simp_all
theorem nr_f {A B C : Bool} {E : String} {g : Option String} (h : (!(A && B && C)) = true) : gS (gO A E) (gS (gO B E) (gS (gO C E) g)) = some E := by
  cases A <;> cases B <;> cases C <;> simp_all [gS, gO]
theorem dif_s {q : Mem} {r1 r2 n : Nat} (h : ∀ c, c < n → dif q r1 r2 c = false) (h1 : q (3 + r2) n = q (3 + r1) n) : ∀ c, c < n + 1 → dif q r1 r2 c = false := by
  intro c hc
  by_cases e : c = n
  · subst e; simp [dif, h1]
  · exact h c (by omega)
theorem rc_eq {q : Mem} (hI : IQ q) {c f s t : Nat} (hc : c < 60) (hx : nP q ≤ c / 6 ∨ nE q ≤ c % 6) (hf : f < 3) (hs : s < 3) (ht : t < 3) : q (3 + (s * 3 + f)) c = q (3 + (t * 3 + f)) c := by
  have e : c / 6 * 6 + c % 6 = c := by omega
  have h1 := hI.rc (c / 6) (c % 6) (by omega) (by omega) hx f s hf hs
  have h2 := hI.rc (c / 6) (c % 6) (by omega) (by omega) hx f t hf ht
  rw [e] at h1 h2
  rw [h1, h2]
theorem dif_rc {q : Mem} (hI : IQ q) {c f s t : Nat} (hc : c < 60) (hx : nP q ≤ c / 6 ∨ nE q ≤ c % 6) (hf : f < 3) (hs : s < 3) (ht : t < 3) : dif q (s * 3 + f) (t * 3 + f) c = false := by
  simp [dif, rc_eq hI hc hx hf ht hs]
theorem dif_row {q : Mem} (hI : IQ q) {k f s t : Nat} (hk : k < 10) (hf : f < 3) (hs : s < 3) (ht : t < 3) (h : ∀ c, c < k * 6 + nE q → dif q (s * 3 + f) (t * 3 + f) c = false) : ∀ c, c < (k + 1) * 6 → dif q (s * 3 + f) (t * 3 + f) c = false := by
  intro c hc
  by_cases e : c < k * 6 + nE q
  · exact h c e
  · exact dif_rc hI (by omega) (by omega) hf hs ht
theorem dif_all {q : Mem} (hI : IQ q) {f s t : Nat} (hf : f < 3) (hs : s < 3) (ht : t < 3) (h : ∀ c, c < nP q * 6 → dif q (s * 3 + f) (t * 3 + f) c = false) : ∀ c, c < 60 → dif q (s * 3 + f) (t * 3 + f) c = false := by
  intro c hc
  by_cases e : c < nP q * 6
  · exact h c e
  · exact dif_rc hI hc (by omega) hf hs ht
theorem ag_rc {q : Mem} (hI : IQ q) {c f : Nat} (hc : c < 60) (hx : nP q ≤ c / 6 ∨ nE q ≤ c % 6) (hf : f < 3) : agB q f c = true :=
  ag_t (rc_eq hI hc hx hf (by omega) (by omega)) (rc_eq hI hc hx hf (by omega) (by omega))
def apB (q : Mem) (f c : Nat) : Bool := !agB q f c
theorem ap_row {q : Mem} (hW : WC q) (hI : IQ q) {k f : Nat} (hk : k < 10) (hf : f < 3) : cntN (apB q f) ((k + 1) * 6) = cntN (apB q f) (k * 6 + nE q) :=
  cntN_ext (by have := hW.el; omega) (fun c h1 h2 => by simp [apB, ag_rc hI (c := c) (by omega) (by omega) hf])
theorem ap_all {q : Mem} (hW : WC q) (hI : IQ q) {f : Nat} (hf : f < 3) : cntN (fun c => !agB q f c) 60 = cntN (apB q f) (nP q * 6) :=
  cntN_ext (f := apB q f) (by have := hW.pl; omega) (fun c h1 h2 => by simp [apB, ag_rc hI (c := c) (by omega) (by omega) hf])
/-- who has a seat of an exam at a slot that was sat -/
def hsE (q : Mem) (p : Nat) (ex z : Int32) : Bool := anyN (fun i => hfB q p ex z i && clB q i) (nO q)
def HH (q b : Mem) : Prop := ∀ p e z, p < 10 → e < 6 → z < 2 → b 86 (2 * (p * 6 + e) + z) = bI (hsE q p (nI e) (nI z))
theorem hsB_e {q : Mem} (hI : IQ q) {p : Nat} (hp : p < 10) {ex z : Int32} : hsB q (nI p) ex z = hsE q p ex z := by
  unfold hsB hsE
  rw [tn_nI (by omega)]
  cases h : anyN (hfB q p ex z) (nO q) with
  | false =>
    rw [Bool.false_and]
    exact (anyN_f.mpr (fun i hi => by rw [anyN_f.mp h i hi]; rfl)).symm
  | true =>
    rw [Bool.true_and]
    have h1 := firN_any.mpr h
    have h2 := firN_yes h1
    cases hc : clB q (firN (hfB q p ex z) (nO q)) with
    | true => exact (anyN_t h1 (by rw [h2, hc]; rfl)).symm
    | false =>
      refine (anyN_f.mpr (fun i hi => ?_)).symm
      by_cases e : i = firN (hfB q p ex z) (nO q)
      · rw [e, hc, Bool.and_false]
      · have : hfB q p ex z i = false := by
          rcases Nat.lt_or_ge i (firN (hfB q p ex z) (nO q)) with g | g
          · exact hf_u hI hp h1 h2 g
          · cases h3 : hfB q p ex z i with
            | false => rfl
            | true =>
              have := hf_u hI hp hi h3 (by omega : firN (hfB q p ex z) (nO q) < i)
              rw [h2] at this; cases this
        rw [this]; rfl
def rdF (g : Option String) (F : UInt32) : UInt32 := match g with
  | none => F
  | some _ => FP.fconst0
def rdD (g : Option String) (F : UInt64) : UInt64 := match g with
  | none => F
  | some _ => FP.dconst0
def zNat (z : Int32) : Nat := if z = 0 then 0 else 1

set_option maxHeartbeats 4000000 in
set_option maxRecDepth 100000 in
theorem c_X4_room {l : Launch} {x : Sh} {a b : Mem} {o : Out} (hfl : l.stackTraces = false) {q : Mem} (hW : WC q) (hI : IQ q) (hR : RR q b) {v : Int32} : MG l x yX4_room cX4_room 2 (some .int) 6 280 [.ref (x.2.1 70), .int v] a b o (QI x o (FI (rd (g3_room q v) (nI (nR q))) a (mm [eA, eS] (g3_room q v) b (up2 (up2 (up2 b 70 0 0) 71 (nR q) v) 70 1 (nI (nR q + 1)))))) := by
  refine MG.of (maxL := 2) (ret := (some .int)) hfl (by decide) [some (.ref (x.2.1 70)), some (.int v)] rfl rfl (Nat.le_of_ble_eq_true rfl) ?_
  intro pP eE sS mM argsA belowB methM cC C hr
  have ho12 := hW.ol
  have hp10 := hW.pl
  have he6 := hW.el
  have hr3 := hW.rl
  obtain ⟨gg, hG⟩ : ∃ gg, gg = (g3_room q v) := ⟨_, rfl⟩
  rw [← hG]
  refine V_aload_n C dX4_room_0 rfl ?_
  refine V_iload_n C dX4_room_1 rfl ?_
  refine V_iconst (v := 1) C dX4_room_2 (by decide) ?_
  refine V_bipush (v := 6) C dX4_room_3 (by decide) ?_
  refine V_callf (R_S C (c_X4_in hfl) mi_X4_in mk_X4_66 rfl (by decide) rfl (Nat.le_of_ble_eq_true rfl) (by decide) dX4_room_5) ?_
  refine V_ifb_ne C 15 dX4_room_8 (by decide) (fun h8 => ?_) (fun h8 => ?_)
  · refine V_aload_n C dX4_room_15 rfl ?_
    refine gt_X4_rooms C fk_X4_76 dX4_room_16 ?_
    refine V_topi hR.c1 ?_
    refine V_iconst (v := 3) C dX4_room_19 (by decide) ?_
    refine V_icmp_ne C 27 dX4_room_20 (by decide) (fun h20 => ?_) (fun h20 => ?_)
    · have q3 : q 0 7 < 3 := Classical.not_not.mp (fun z => h20 ((cap (N := 3) hW.re hW.rl (by decide)).mpr z))
      have q4 : nR q < 3 := by
        have := q3
        rw [hW.re] at this
        exact (nI_ltI (by omega) (by decide)).mp this
      refine V_iconst (v := 0) C dX4_room_27 (by decide) ?_
      refine pt_X4_thrown C fk_X4_59 dX4_room_28 ?_
      refine V_aload_n C dX4_room_31 rfl ?_
      refine gt_X4_thrown C fk_X4_59 dX4_room_32 ?_
      refine V_topi (show _ = (0 : Int32) from rfl) ?_
      refine V_if_le C 40 dX4_room_35 (by decide) (fun h35 => ?_) (fun h35 => ?_)
      · refine V_aload_n C dX4_room_40 rfl ?_
        refine gt_X4_seats C fk_X4_7 dX4_room_41 ?_
        refine V_aload_n C dX4_room_44 rfl ?_
        refine gt_X4_rooms C fk_X4_76 dX4_room_45 ?_
        refine V_topi (hR.th.c1.trans hW.re) ?_
        refine V_iload_n C dX4_room_48 rfl ?_
        refine sa_m_seats C _ rfl (by omega) dX4_room_49 ?_
        refine V_aload_n C dX4_room_50 rfl ?_
        refine V_dup C dX4_room_51 rfl ?_
        refine gt_X4_rooms C fk_X4_76 dX4_room_52 ?_
        refine V_topi (hR.c1.trans hW.re) ?_
        refine V_iconst (v := 1) C dX4_room_55 (by decide) ?_
        refine V_iadd C dX4_room_56 ?_
        refine V_topi (nI_1 _) ?_
        refine pt_X4_rooms C fk_X4_76 dX4_room_57 ?_
        refine V_aload_n C dX4_room_60 rfl ?_
        refine gt_X4_rooms C fk_X4_76 dX4_room_61 ?_
        refine V_topi up2_s ?_
        refine V_iconst (v := 1) C dX4_room_64 (by decide) ?_
        refine V_isub C dX4_room_65 ?_
        refine V_topi (nI_pred _) ?_
        have hg : gg = none := hG.trans (by unfold g3_room; rw [← inR_le]; first | (simp [gS, gO, h8, h20, h35]; done) | (simp [gS, gO, q3, h8, h20, h35]; done))
        exact V_ireti C hr dX4_room_66 ⟨by rw [hg]; exact rfl, rfl, by rw [hg]; exact (by first | exact up2_2 | exact up2_2.trans up2_2 | rfl)⟩
      · exact absurd h35 (by decide)
    · have q3 : ¬ q 0 7 < 3 := (cap (N := 3) hW.re hW.rl (by decide)).mp h20
      refine V_iconst (v := 2) C dX4_room_23 (by decide) ?_
      refine V_goto C 28 dX4_room_24 (by decide) ?_
      refine pt_X4_thrown C fk_X4_59 dX4_room_28 ?_
      refine V_aload_n C dX4_room_31 rfl ?_
      refine gt_X4_thrown C fk_X4_59 dX4_room_32 ?_
      refine V_topi (show _ = (2 : Int32) from rfl) ?_
      refine V_if_le C 40 dX4_room_35 (by decide) (fun h35 => ?_) (fun h35 => ?_)
      · exact absurd h35 (by decide)
      · refine V_iconst (v := 0) C dX4_room_38 (by decide) ?_
        have hg : gg = some eS := hG.trans (by unfold g3_room; rw [← inR_le]; first | (simp [gS, gO, h8, h20, h35]; done) | (simp [gS, gO, q3, h8, h20, h35]; done))
        exact V_ireti C hr dX4_room_39 ⟨by rw [hg]; exact rfl, rfl, by rw [hg]; exact (by first | exact up2_2 | exact up2_2.trans up2_2 | rfl)⟩
  · refine V_iconst (v := 1) C dX4_room_11 (by decide) ?_
    refine V_goto C 28 dX4_room_12 (by decide) ?_
    refine pt_X4_thrown C fk_X4_59 dX4_room_28 ?_
    refine V_aload_n C dX4_room_31 rfl ?_
    refine gt_X4_thrown C fk_X4_59 dX4_room_32 ?_
    refine V_topi (show _ = (1 : Int32) from rfl) ?_
    refine V_if_le C 40 dX4_room_35 (by decide) (fun h35 => ?_) (fun h35 => ?_)
    · exact absurd h35 (by decide)
    · refine V_iconst (v := 0) C dX4_room_38 (by decide) ?_
      have hg : gg = some eA := hG.trans (by unfold g3_room; rw [← inR_le]; first | (simp [gS, gO, h8, h35]; done) | (simp [gS, gO, q3, h8, h35]; done))
      exact V_ireti C hr dX4_room_39 ⟨by rw [hg]; exact rfl, rfl, by rw [hg]; exact (by first | exact up2_2 | exact up2_2.trans up2_2 | rfl)⟩
set_option maxHeartbeats 4000000 in
set_option maxRecDepth 100000 in
theorem c_X4_exam {l : Launch} {x : Sh} {a b : Mem} {o : Out} (hfl : l.stackTraces = false) {q : Mem} (hW : WC q) (hI : IQ q) (hR : RR q b)  : MG l x yX4_exam cX4_exam 1 (some .int) 6 280 [.ref (x.2.1 70)] a b o (QI x o (FI (rd (g3_exam q) (nI (nE q))) a (mm [eS] (g3_exam q) b (up2 (up2 b 70 0 0) 70 2 (nI (nE q + 1)))))) := by
  refine MG.of (maxL := 1) (ret := (some .int)) hfl (by decide) [some (.ref (x.2.1 70))] rfl rfl (Nat.le_of_ble_eq_true rfl) ?_
  intro pP eE sS mM argsA belowB methM cC C hr
  have ho12 := hW.ol
  have hp10 := hW.pl
  have he6 := hW.el
  obtain ⟨gg, hG⟩ : ∃ gg, gg = (g3_exam q) := ⟨_, rfl⟩
  rw [← hG]
  refine V_aload_n C dX4_exam_0 rfl ?_
  refine V_aload_n C dX4_exam_1 rfl ?_
  refine gt_X4_exams C fk_X4_70 dX4_exam_2 ?_
  refine V_topi hR.c2 ?_
  refine V_bipush (v := 6) C dX4_exam_5 (by decide) ?_
  refine V_icmp_ne C 14 dX4_exam_7 (by decide) (fun h7 => ?_) (fun h7 => ?_)
  · have q3 : q 0 8 < 6 := Classical.not_not.mp (fun z => h7 ((cap (N := 6) hW.ee hW.el (by decide)).mpr z))
    refine V_iconst (v := 0) C dX4_exam_14 (by decide) ?_
    refine pt_X4_thrown C fk_X4_59 dX4_exam_15 ?_
    refine V_aload_n C dX4_exam_18 rfl ?_
    refine gt_X4_thrown C fk_X4_59 dX4_exam_19 ?_
    refine V_topi (show _ = (0 : Int32) from rfl) ?_
    refine V_if_le C 27 dX4_exam_22 (by decide) (fun h22 => ?_) (fun h22 => ?_)
    · refine V_aload_n C dX4_exam_27 rfl ?_
      refine V_dup C dX4_exam_28 rfl ?_
      refine gt_X4_exams C fk_X4_70 dX4_exam_29 ?_
      refine V_topi (hR.th.c2.trans hW.ee) ?_
      refine V_iconst (v := 1) C dX4_exam_32 (by decide) ?_
      refine V_iadd C dX4_exam_33 ?_
      refine V_topi (nI_1 _) ?_
      refine pt_X4_exams C fk_X4_70 dX4_exam_34 ?_
      refine V_aload_n C dX4_exam_37 rfl ?_
      refine gt_X4_exams C fk_X4_70 dX4_exam_38 ?_
      refine V_topi up2_s ?_
      refine V_iconst (v := 1) C dX4_exam_41 (by decide) ?_
      refine V_isub C dX4_exam_42 ?_
      refine V_topi (nI_pred _) ?_
      have hg : gg = none := hG.trans (by simp [g3_exam, gO, q3])
      exact V_ireti C hr dX4_exam_43 ⟨by rw [hg]; exact rfl, rfl, by rw [hg]; exact (by first | exact up2_2 | exact up2_2.trans up2_2 | rfl)⟩
    · exact absurd h22 (by decide)
  · have q3 : ¬ q 0 8 < 6 := (cap (N := 6) hW.ee hW.el (by decide)).mp h7
    refine V_iconst (v := 1) C dX4_exam_10 (by decide) ?_
    refine V_goto C 15 dX4_exam_11 (by decide) ?_
    refine pt_X4_thrown C fk_X4_59 dX4_exam_15 ?_
    refine V_aload_n C dX4_exam_18 rfl ?_
    refine gt_X4_thrown C fk_X4_59 dX4_exam_19 ?_
    refine V_topi (show _ = (1 : Int32) from rfl) ?_
    refine V_if_le C 27 dX4_exam_22 (by decide) (fun h22 => ?_) (fun h22 => ?_)
    · exact absurd h22 (by decide)
    · refine V_iconst (v := 0) C dX4_exam_25 (by decide) ?_
      have hg : gg = some eS := hG.trans (by simp [g3_exam, gO, q3])
      exact V_ireti C hr dX4_exam_26 ⟨by rw [hg]; exact rfl, rfl, by rw [hg]; exact (by first | exact up2_2 | exact up2_2.trans up2_2 | rfl)⟩
set_option maxHeartbeats 4000000 in
set_option maxRecDepth 100000 in
theorem c_X4_pupil {l : Launch} {x : Sh} {a b : Mem} {o : Out} (hfl : l.stackTraces = false) {q : Mem} (hW : WC q) (hI : IQ q) (hR : RR q b)  : MG l x yX4_pupil cX4_pupil 1 (some .int) 6 280 [.ref (x.2.1 70)] a b o (QI x o (FI (rd (g3_pupil q) (nI (nP q))) a (mm [eS] (g3_pupil q) b (up2 (up2 (up2 b 70 0 0) 84 (nP q) 100) 70 3 (nI (nP q + 1)))))) := by
  refine MG.of (maxL := 1) (ret := (some .int)) hfl (by decide) [some (.ref (x.2.1 70))] rfl rfl (Nat.le_of_ble_eq_true rfl) ?_
  intro pP eE sS mM argsA belowB methM cC C hr
  have ho12 := hW.ol
  have hp10 := hW.pl
  have he6 := hW.el
  obtain ⟨gg, hG⟩ : ∃ gg, gg = (g3_pupil q) := ⟨_, rfl⟩
  rw [← hG]
  refine V_aload_n C dX4_pupil_0 rfl ?_
  refine V_aload_n C dX4_pupil_1 rfl ?_
  refine gt_X4_pupils C fk_X4_63 dX4_pupil_2 ?_
  refine V_topi hR.c3 ?_
  refine V_bipush (v := 10) C dX4_pupil_5 (by decide) ?_
  refine V_icmp_ne C 14 dX4_pupil_7 (by decide) (fun h7 => ?_) (fun h7 => ?_)
  · have q3 : q 0 9 < 10 := Classical.not_not.mp (fun z => h7 ((cap (N := 10) hW.pe hW.pl (by decide)).mpr z))
    have q4 : nP q < 10 := by
      have := q3
      rw [hW.pe] at this
      exact (nI_ltI (by omega) (by decide)).mp this
    refine V_iconst (v := 0) C dX4_pupil_14 (by decide) ?_
    refine pt_X4_thrown C fk_X4_59 dX4_pupil_15 ?_
    refine V_aload_n C dX4_pupil_18 rfl ?_
    refine gt_X4_thrown C fk_X4_59 dX4_pupil_19 ?_
    refine V_topi (show _ = (0 : Int32) from rfl) ?_
    refine V_if_le C 27 dX4_pupil_22 (by decide) (fun h22 => ?_) (fun h22 => ?_)
    · refine V_aload_n C dX4_pupil_27 rfl ?_
      refine gt_X4_points C fk_X4_50 dX4_pupil_28 ?_
      refine V_aload_n C dX4_pupil_31 rfl ?_
      refine gt_X4_pupils C fk_X4_63 dX4_pupil_32 ?_
      refine V_topi (hR.th.c3.trans hW.pe) ?_
      refine V_bipush (v := 100) C dX4_pupil_35 (by decide) ?_
      refine sa_m_points C _ rfl (by omega) dX4_pupil_37 ?_
      refine V_aload_n C dX4_pupil_38 rfl ?_
      refine V_dup C dX4_pupil_39 rfl ?_
      refine gt_X4_pupils C fk_X4_63 dX4_pupil_40 ?_
      refine V_topi (hR.c3.trans hW.pe) ?_
      refine V_iconst (v := 1) C dX4_pupil_43 (by decide) ?_
      refine V_iadd C dX4_pupil_44 ?_
      refine V_topi (nI_1 _) ?_
      refine pt_X4_pupils C fk_X4_63 dX4_pupil_45 ?_
      refine V_aload_n C dX4_pupil_48 rfl ?_
      refine gt_X4_pupils C fk_X4_63 dX4_pupil_49 ?_
      refine V_topi up2_s ?_
      refine V_iconst (v := 1) C dX4_pupil_52 (by decide) ?_
      refine V_isub C dX4_pupil_53 ?_
      refine V_topi (nI_pred _) ?_
      have hg : gg = none := hG.trans (by simp [g3_pupil, gO, q3])
      exact V_ireti C hr dX4_pupil_54 ⟨by rw [hg]; exact rfl, rfl, by rw [hg]; exact (by first | exact up2_2 | exact up2_2.trans up2_2 | rfl)⟩
    · exact absurd h22 (by decide)
  · have q3 : ¬ q 0 9 < 10 := (cap (N := 10) hW.pe hW.pl (by decide)).mp h7
    refine V_iconst (v := 1) C dX4_pupil_10 (by decide) ?_
    refine V_goto C 15 dX4_pupil_11 (by decide) ?_
    refine pt_X4_thrown C fk_X4_59 dX4_pupil_15 ?_
    refine V_aload_n C dX4_pupil_18 rfl ?_
    refine gt_X4_thrown C fk_X4_59 dX4_pupil_19 ?_
    refine V_topi (show _ = (1 : Int32) from rfl) ?_
    refine V_if_le C 27 dX4_pupil_22 (by decide) (fun h22 => ?_) (fun h22 => ?_)
    · exact absurd h22 (by decide)
    · refine V_iconst (v := 0) C dX4_pupil_25 (by decide) ?_
      have hg : gg = some eS := hG.trans (by simp [g3_pupil, gO, q3])
      exact V_ireti C hr dX4_pupil_26 ⟨by rw [hg]; exact rfl, rfl, by rw [hg]; exact (by first | exact up2_2 | exact up2_2.trans up2_2 | rfl)⟩
set_option maxHeartbeats 4000000 in
set_option maxRecDepth 100000 in
theorem c_X4_offer {l : Launch} {x : Sh} {a b : Mem} {o : Out} (hfl : l.stackTraces = false) {q : Mem} (hW : WC q) (hI : IQ q) (hR : RR q b) {ex s r z : Int32} (hz : z = 0 ∨ z = 1) : MG l x yX4_offer cX4_offer 5 (some .int) 6 280 [.ref (x.2.1 70), .int ex, .int s, .int r, .int z] a b o (QI x o (FI (rd (g3_offer q ex s r) (nI (nO q))) a (mm [eI, eA, eU, eS] (g3_offer q ex s r) b (up2 (up2 (up2 (up2 (up2 (up2 (up2 b 70 0 0) 70 0 0) 72 (nO q) ex) 73 (nO q) s) 74 (nO q) r) 75 (nO q) z) 70 4 (nI (nO q + 1)))))) := by
  refine MG.of (maxL := 5) (ret := (some .int)) hfl (by decide) [some (.ref (x.2.1 70)), some (.int ex), some (.int s), some (.int r), some (.int z)] rfl rfl (Nat.le_of_ble_eq_true rfl) ?_
  intro pP eE sS mM argsA belowB methM cC C hr
  have ho12 := hW.ol
  have hp10 := hW.pl
  have he6 := hW.el
  have hr3 := hW.rl
  obtain ⟨gg, hG⟩ : ∃ gg, gg = (g3_offer q ex s r) := ⟨_, rfl⟩
  rw [← hG]
  refine V_aload_n C dX4_offer_0 rfl ?_
  refine V_aload_n C dX4_offer_1 rfl ?_
  refine V_iload_n C dX4_offer_2 rfl ?_
  refine V_callf (R_V C (c_X4_isExam hfl hW hI hR) mi_X4_isExam mk_X4_79 rfl (by omega) rfl (rfl : vwCl[6]? = some (RX4, TX4, 24)) (by decide) rfl (Nat.le_of_ble_eq_true rfl) (by decide) dX4_offer_3) ?_
  refine V_ifb_eq C 23 dX4_offer_6 (by decide) (fun h6 => ?_) (fun h6 => ?_)
  · refine V_iconst (v := 1) C dX4_offer_23 (by decide) ?_
    refine V_goto C 39 dX4_offer_24 (by decide) ?_
    refine pt_X4_thrown C fk_X4_59 dX4_offer_39 ?_
    refine V_aload_n C dX4_offer_42 rfl ?_
    refine gt_X4_thrown C fk_X4_59 dX4_offer_43 ?_
    refine V_topi (show _ = (1 : Int32) from rfl) ?_
    refine V_if_ne C 89 dX4_offer_46 (by decide) (fun h46 => ?_) (fun h46 => ?_)
    · refine V_aload_n C dX4_offer_89 rfl ?_
      refine gt_X4_thrown C fk_X4_59 dX4_offer_90 ?_
      refine V_topi (show _ = (1 : Int32) from rfl) ?_
      refine V_if_le C 98 dX4_offer_93 (by decide) (fun h93 => ?_) (fun h93 => ?_)
      · exact absurd h93 (by decide)
      · refine V_iconst (v := 0) C dX4_offer_96 (by decide) ?_
        have hg : gg = some eI := hG.trans (by first | (simp [g3_offer, gS, gO, h6, h46, h93]; done) | (simp [g3_offer, gS, gO, tsy, h6, h46, h93]; done) | (simp [g3_offer, gS, gO, tsy, q3, h6, h46, h93]; done))
        exact V_ireti C hr dX4_offer_97 ⟨by rw [hg]; exact rfl, rfl, by rw [hg]; exact (by first | exact up2_2 | exact up2_2.trans up2_2 | rfl)⟩
    · exact absurd h46 (by decide)
  · obtain ⟨ke, hke, kee⟩ := ix_of (E := eI) (gO_n.mpr h6) hW.ee (by omega)
    subst kee
    have tke : tn (nI ke) = ke := tn_nI (by omega)
    try rw [tke]
    refine V_iload_n C dX4_offer_9 rfl ?_
    refine V_iconst (v := 0) C dX4_offer_10 (by decide) ?_
    refine V_aload_n C dX4_offer_11 rfl ?_
    refine gt_X4_rooms C fk_X4_76 dX4_offer_12 ?_
    refine V_topi hR.c1 ?_
    refine V_iconst (v := 1) C dX4_offer_15 (by decide) ?_
    refine V_isub C dX4_offer_16 ?_
    refine V_callf (R_S C (c_X4_in hfl) mi_X4_in mk_X4_66 rfl (by decide) rfl (Nat.le_of_ble_eq_true rfl) (by decide) dX4_offer_17) ?_
    rw [inR_n hW.re (by omega)]
    refine V_ifb_ne C 27 dX4_offer_20 (by decide) (fun h20 => ?_) (fun h20 => ?_)
    · obtain ⟨wr, hwr, wre⟩ := ix_of (E := eI) (gO_n.mpr h20) hW.re (by omega)
      subst wre
      refine V_iload_n C dX4_offer_27 rfl ?_
      refine V_callf (R_S C (c_X4_isSlot hfl) mi_X4_isSlot mk_X4_83 rfl (by decide) rfl (Nat.le_of_ble_eq_true rfl) (by decide) dX4_offer_28) ?_
      refine V_ifb_ne C 38 dX4_offer_31 (by decide) (fun h31 => ?_) (fun h31 => ?_)
      · obtain ⟨sy, hsy, sye⟩ := ix_of (N := 6) (E := eI) (gO_n.mpr h31) rfl (by decide)
        subst sye
        have tsy : tn (nI sy) = sy := tn_nI (by omega)
        try rw [tsy]
        refine V_iconst (v := 0) C dX4_offer_38 (by decide) ?_
        refine pt_X4_thrown C fk_X4_59 dX4_offer_39 ?_
        refine V_aload_n C dX4_offer_42 rfl ?_
        refine gt_X4_thrown C fk_X4_59 dX4_offer_43 ?_
        refine V_topi (show _ = (0 : Int32) from rfl) ?_
        refine V_if_ne C 89 dX4_offer_46 (by decide) (fun h46 => ?_) (fun h46 => ?_)
        · exact absurd h46 (by decide)
        · refine V_aload_n C dX4_offer_49 rfl ?_
          refine V_aload_n C dX4_offer_50 rfl ?_
          refine V_iload_n C dX4_offer_51 rfl ?_
          refine V_iload_n C dX4_offer_52 rfl ?_
          refine V_callf (R_V C (c_X4_isTaken hfl hW hI hR.th) mi_X4_isTaken mk_X4_86 rfl (by omega) rfl (rfl : vwCl[6]? = some (RX4, TX4, 24)) (by decide) rfl (Nat.le_of_ble_eq_true rfl) (by decide) dX4_offer_53) ?_
          refine V_ifb_ne C 68 dX4_offer_56 (by decide) (fun h56 => ?_) (fun h56 => ?_)
          · refine V_iconst (v := 3) C dX4_offer_68 (by decide) ?_
            refine V_goto C 86 dX4_offer_69 (by decide) ?_
            refine pt_X4_thrown C fk_X4_59 dX4_offer_86 ?_
            refine V_aload_n C dX4_offer_89 rfl ?_
            refine gt_X4_thrown C fk_X4_59 dX4_offer_90 ?_
            refine V_topi (show _ = (3 : Int32) from rfl) ?_
            refine V_if_le C 98 dX4_offer_93 (by decide) (fun h93 => ?_) (fun h93 => ?_)
            · exact absurd h93 (by decide)
            · refine V_iconst (v := 0) C dX4_offer_96 (by decide) ?_
              have hg : gg = some eU := hG.trans (by first | (simp [g3_offer, gS, gO, h6, h20, h31, h46, h56, h93]; done) | (simp [g3_offer, gS, gO, tsy, h6, h20, h31, h46, h56, h93]; done) | (simp [g3_offer, gS, gO, tsy, q3, h6, h20, h31, h46, h56, h93]; done))
              exact V_ireti C hr dX4_offer_97 ⟨by rw [hg]; exact rfl, rfl, by rw [hg]; exact (by first | exact up2_2 | exact up2_2.trans up2_2 | rfl)⟩
          · refine V_aload_n C dX4_offer_59 rfl ?_
            refine gt_X4_isSat C fk_X4_53 dX4_offer_60 ?_
            refine V_iload_n C dX4_offer_63 rfl ?_
            refine la_m_isSat C _ rfl (by omega) dX4_offer_64 ?_
            refine V_topi (hR.th.sat (by omega)) ?_
            refine V_if_eq C 72 dX4_offer_65 (by decide) (fun h65 => ?_) (fun h65 => ?_)
            · refine V_aload_n C dX4_offer_72 rfl ?_
              refine gt_X4_offers C fk_X4_73 dX4_offer_73 ?_
              refine V_topi hR.th.c4 ?_
              refine V_bipush (v := 12) C dX4_offer_76 (by decide) ?_
              refine V_icmp_ne C 85 dX4_offer_78 (by decide) (fun h78 => ?_) (fun h78 => ?_)
              · have q3 : q 0 10 < 12 := Classical.not_not.mp (fun z => h78 ((cap (N := 12) hW.oe hW.ol (by decide)).mpr z))
                have q4 : nO q < 12 := by
                  have := q3
                  rw [hW.oe] at this
                  exact (nI_ltI (by omega) (by decide)).mp this
                refine V_iconst (v := 0) C dX4_offer_85 (by decide) ?_
                refine pt_X4_thrown C fk_X4_59 dX4_offer_86 ?_
                refine V_aload_n C dX4_offer_89 rfl ?_
                refine gt_X4_thrown C fk_X4_59 dX4_offer_90 ?_
                refine V_topi (show _ = (0 : Int32) from rfl) ?_
                refine V_if_le C 98 dX4_offer_93 (by decide) (fun h93 => ?_) (fun h93 => ?_)
                · refine V_aload_n C dX4_offer_98 rfl ?_
                  refine gt_X4_exam C fk_X4_13 dX4_offer_99 ?_
                  refine V_aload_n C dX4_offer_102 rfl ?_
                  refine gt_X4_offers C fk_X4_73 dX4_offer_103 ?_
                  refine V_topi (hR.c4.trans hW.oe) ?_
                  refine V_iload_n C dX4_offer_106 rfl ?_
                  refine sa_m_exam C _ rfl (by omega) dX4_offer_107 ?_
                  refine V_aload_n C dX4_offer_108 rfl ?_
                  refine gt_X4_slot C fk_X4_16 dX4_offer_109 ?_
                  refine V_aload_n C dX4_offer_112 rfl ?_
                  refine gt_X4_offers C fk_X4_73 dX4_offer_113 ?_
                  refine V_topi (hR.c4.trans hW.oe) ?_
                  refine V_iload_n C dX4_offer_116 rfl ?_
                  refine sa_m_slot C _ rfl (by omega) dX4_offer_117 ?_
                  refine V_aload_n C dX4_offer_118 rfl ?_
                  refine gt_X4_room C fk_X4_19 dX4_offer_119 ?_
                  refine V_aload_n C dX4_offer_122 rfl ?_
                  refine gt_X4_offers C fk_X4_73 dX4_offer_123 ?_
                  refine V_topi (hR.c4.trans hW.oe) ?_
                  refine V_iload_n C dX4_offer_126 rfl ?_
                  refine sa_m_room C _ rfl (by omega) dX4_offer_127 ?_
                  refine V_aload_n C dX4_offer_128 rfl ?_
                  refine gt_X4_isResit C fk_X4_22 dX4_offer_129 ?_
                  refine V_aload_n C dX4_offer_132 rfl ?_
                  refine gt_X4_offers C fk_X4_73 dX4_offer_133 ?_
                  refine V_topi (hR.c4.trans hW.oe) ?_
                  refine V_iload C dX4_offer_136 rfl ?_
                  refine sa_m_isResit C _ rfl (by omega) (by first | exact Or.inl rfl | exact Or.inr rfl | exact bI_or _ | assumption) dX4_offer_138 ?_
                  refine V_aload_n C dX4_offer_139 rfl ?_
                  refine V_dup C dX4_offer_140 rfl ?_
                  refine gt_X4_offers C fk_X4_73 dX4_offer_141 ?_
                  refine V_topi (hR.c4.trans hW.oe) ?_
                  refine V_iconst (v := 1) C dX4_offer_144 (by decide) ?_
                  refine V_iadd C dX4_offer_145 ?_
                  refine V_topi (nI_1 _) ?_
                  refine pt_X4_offers C fk_X4_73 dX4_offer_146 ?_
                  refine V_aload_n C dX4_offer_149 rfl ?_
                  refine gt_X4_offers C fk_X4_73 dX4_offer_150 ?_
                  refine V_topi up2_s ?_
                  refine V_iconst (v := 1) C dX4_offer_153 (by decide) ?_
                  refine V_isub C dX4_offer_154 ?_
                  refine V_topi (nI_pred _) ?_
                  have hg : gg = none := hG.trans (by first | (simp [g3_offer, gS, gO, h6, h20, h31, h46, h56, h65, h78, h93]; done) | (simp [g3_offer, gS, gO, tsy, h6, h20, h31, h46, h56, h65, h78, h93]; done) | (simp [g3_offer, gS, gO, tsy, q3, h6, h20, h31, h46, h56, h65, h78, h93]; done))
                  exact V_ireti C hr dX4_offer_155 ⟨by rw [hg]; exact rfl, rfl, by rw [hg]; exact (by first | exact up2_2 | exact up2_2.trans up2_2 | rfl)⟩
                · exact absurd h93 (by decide)
              · have q3 : ¬ q 0 10 < 12 := (cap (N := 12) hW.oe hW.ol (by decide)).mp h78
                refine V_iconst (v := 4) C dX4_offer_81 (by decide) ?_
                refine V_goto C 86 dX4_offer_82 (by decide) ?_
                refine pt_X4_thrown C fk_X4_59 dX4_offer_86 ?_
                refine V_aload_n C dX4_offer_89 rfl ?_
                refine gt_X4_thrown C fk_X4_59 dX4_offer_90 ?_
                refine V_topi (show _ = (4 : Int32) from rfl) ?_
                refine V_if_le C 98 dX4_offer_93 (by decide) (fun h93 => ?_) (fun h93 => ?_)
                · exact absurd h93 (by decide)
                · refine V_iconst (v := 0) C dX4_offer_96 (by decide) ?_
                  have hg : gg = some eS := hG.trans (by first | (simp [g3_offer, gS, gO, h6, h20, h31, h46, h56, h65, h78, h93]; done) | (simp [g3_offer, gS, gO, tsy, h6, h20, h31, h46, h56, h65, h78, h93]; done) | (simp [g3_offer, gS, gO, tsy, q3, h6, h20, h31, h46, h56, h65, h78, h93]; done))
                  exact V_ireti C hr dX4_offer_97 ⟨by rw [hg]; exact rfl, rfl, by rw [hg]; exact (by first | exact up2_2 | exact up2_2.trans up2_2 | rfl)⟩
            · refine V_iconst (v := 3) C dX4_offer_68 (by decide) ?_
              refine V_goto C 86 dX4_offer_69 (by decide) ?_
              refine pt_X4_thrown C fk_X4_59 dX4_offer_86 ?_
              refine V_aload_n C dX4_offer_89 rfl ?_
              refine gt_X4_thrown C fk_X4_59 dX4_offer_90 ?_
              refine V_topi (show _ = (3 : Int32) from rfl) ?_
              refine V_if_le C 98 dX4_offer_93 (by decide) (fun h93 => ?_) (fun h93 => ?_)
              · exact absurd h93 (by decide)
              · refine V_iconst (v := 0) C dX4_offer_96 (by decide) ?_
                have hg : gg = some eU := hG.trans (by first | (simp [g3_offer, gS, gO, h6, h20, h31, h46, h56, h65, h93]; done) | (simp [g3_offer, gS, gO, tsy, h6, h20, h31, h46, h56, h65, h93]; done) | (simp [g3_offer, gS, gO, tsy, q3, h6, h20, h31, h46, h56, h65, h93]; done))
                exact V_ireti C hr dX4_offer_97 ⟨by rw [hg]; exact rfl, rfl, by rw [hg]; exact (by first | exact up2_2 | exact up2_2.trans up2_2 | rfl)⟩
      · refine V_iconst (v := 2) C dX4_offer_34 (by decide) ?_
        refine V_goto C 39 dX4_offer_35 (by decide) ?_
        refine pt_X4_thrown C fk_X4_59 dX4_offer_39 ?_
        refine V_aload_n C dX4_offer_42 rfl ?_
        refine gt_X4_thrown C fk_X4_59 dX4_offer_43 ?_
        refine V_topi (show _ = (2 : Int32) from rfl) ?_
        refine V_if_ne C 89 dX4_offer_46 (by decide) (fun h46 => ?_) (fun h46 => ?_)
        · refine V_aload_n C dX4_offer_89 rfl ?_
          refine gt_X4_thrown C fk_X4_59 dX4_offer_90 ?_
          refine V_topi (show _ = (2 : Int32) from rfl) ?_
          refine V_if_le C 98 dX4_offer_93 (by decide) (fun h93 => ?_) (fun h93 => ?_)
          · exact absurd h93 (by decide)
          · refine V_iconst (v := 0) C dX4_offer_96 (by decide) ?_
            have hg : gg = some eA := hG.trans (by first | (simp [g3_offer, gS, gO, h6, h20, h31, h46, h93]; done) | (simp [g3_offer, gS, gO, tsy, h6, h20, h31, h46, h93]; done) | (simp [g3_offer, gS, gO, tsy, q3, h6, h20, h31, h46, h93]; done))
            exact V_ireti C hr dX4_offer_97 ⟨by rw [hg]; exact rfl, rfl, by rw [hg]; exact (by first | exact up2_2 | exact up2_2.trans up2_2 | rfl)⟩
        · exact absurd h46 (by decide)
    · refine V_iconst (v := 1) C dX4_offer_23 (by decide) ?_
      refine V_goto C 39 dX4_offer_24 (by decide) ?_
      refine pt_X4_thrown C fk_X4_59 dX4_offer_39 ?_
      refine V_aload_n C dX4_offer_42 rfl ?_
      refine gt_X4_thrown C fk_X4_59 dX4_offer_43 ?_
      refine V_topi (show _ = (1 : Int32) from rfl) ?_
      refine V_if_ne C 89 dX4_offer_46 (by decide) (fun h46 => ?_) (fun h46 => ?_)
      · refine V_aload_n C dX4_offer_89 rfl ?_
        refine gt_X4_thrown C fk_X4_59 dX4_offer_90 ?_
        refine V_topi (show _ = (1 : Int32) from rfl) ?_
        refine V_if_le C 98 dX4_offer_93 (by decide) (fun h93 => ?_) (fun h93 => ?_)
        · exact absurd h93 (by decide)
        · refine V_iconst (v := 0) C dX4_offer_96 (by decide) ?_
          have hg : gg = some eI := hG.trans (by first | (simp [g3_offer, gS, gO, h6, h20, h46, h93]; done) | (simp [g3_offer, gS, gO, tsy, h6, h20, h46, h93]; done) | (simp [g3_offer, gS, gO, tsy, q3, h6, h20, h46, h93]; done))
          exact V_ireti C hr dX4_offer_97 ⟨by rw [hg]; exact rfl, rfl, by rw [hg]; exact (by first | exact up2_2 | exact up2_2.trans up2_2 | rfl)⟩
      · exact absurd h46 (by decide)
set_option maxHeartbeats 4000000 in
set_option maxRecDepth 100000 in
theorem c_X4_read {l : Launch} {x : Sh} {a b : Mem} {o : Out} (hfl : l.stackTraces = false) {q : Mem} (hW : WC q) (hI : IQ q) (hR : RR q b) {t p ex f : Int32} : MG l x yX4_read cX4_read 5 (some .int) 6 280 [.ref (x.2.1 70), .int t, .int p, .int ex, .int f] a b o (QI x o (FI (rd (g3_read q t p ex f) (q (3 + (tn t * 3 + fNat f)) (tn p * 6 + tn ex))) a (up2 b 70 0 (cd [eI, eA] (g3_read q t p ex f))))) := by
  refine MG.of (maxL := 5) (ret := (some .int)) hfl (by decide) [some (.ref (x.2.1 70)), some (.int t), some (.int p), some (.int ex), some (.int f)] rfl rfl (Nat.le_of_ble_eq_true rfl) ?_
  intro pP eE sS mM argsA belowB methM cC C hr
  have ho12 := hW.ol
  have hp10 := hW.pl
  have he6 := hW.el
  obtain ⟨gg, hG⟩ : ∃ gg, gg = (g3_read q t p ex f) := ⟨_, rfl⟩
  rw [← hG]
  refine V_aload_n C dX4_read_0 rfl ?_
  refine V_aload_n C dX4_read_1 rfl ?_
  refine V_iload_n C dX4_read_2 rfl ?_
  refine V_iload_n C dX4_read_3 rfl ?_
  refine V_iload_n C dX4_read_4 rfl ?_
  refine V_callf (R_V C (c_X4_noRecord hfl hW hI hR) mi_X4_noRecord mk_X4_175 rfl (by omega) rfl (rfl : vwCl[6]? = some (RX4, TX4, 24)) (by decide) rfl (Nat.le_of_ble_eq_true rfl) (by decide) dX4_read_5) ?_
  refine V_ifb_eq C 15 dX4_read_8 (by decide) (fun h8 => ?_) (fun h8 => ?_)
  · obtain ⟨h1, h2, h3⟩ := nr_t h8
    obtain ⟨ut, hut, ute⟩ := ix_of (N := 3) (E := eI) (gO_n.mpr h1) rfl (by decide)
    subst ute
    have tut : tn (nI ut) = ut := tn_nI (by omega)
    try rw [tut]
    obtain ⟨jp, hjp, jpe⟩ := ix_of (E := eI) (gO_n.mpr h2) hW.pe (by omega)
    subst jpe
    have tjp : tn (nI jp) = jp := tn_nI (by omega)
    try rw [tjp]
    obtain ⟨ke, hke, kee⟩ := ix_of (E := eI) (gO_n.mpr h3) hW.ee (by omega)
    subst kee
    have tke : tn (nI ke) = ke := tn_nI (by omega)
    try rw [tke]
    refine V_iload C dX4_read_15 rfl ?_
    refine V_callf (R_S C (c_X4_fieldOf hfl) mi_X4_fieldOf mk_X4_171 rfl (by decide) rfl (Nat.le_of_ble_eq_true rfl) (by decide) dX4_read_17) ?_
    refine V_iconst (v := -1) C dX4_read_20 (by decide) ?_
    refine V_icmp_ne C 28 dX4_read_21 (by decide) (fun h21 => ?_) (fun h21 => ?_)
    · have hf := fo_t h21
      have hf3 := fNat_l f
      refine V_iconst (v := 0) C dX4_read_28 (by decide) ?_
      refine pt_X4_thrown C fk_X4_59 dX4_read_29 ?_
      refine V_aload_n C dX4_read_32 rfl ?_
      refine gt_X4_thrown C fk_X4_59 dX4_read_33 ?_
      refine V_topi (show _ = (0 : Int32) from rfl) ?_
      refine V_if_le C 43 dX4_read_36 (by decide) (fun h36 => ?_) (fun h36 => ?_)
      · refine V_aload_n C dX4_read_43 rfl ?_
        refine gt_X4_value C fk_X4_44 dX4_read_44 ?_
        refine V_iload_n C dX4_read_47 rfl ?_
        refine V_iload_n C dX4_read_48 rfl ?_
        refine V_iload_n C dX4_read_49 rfl ?_
        refine V_iload C dX4_read_50 rfl ?_
        refine V_callf (R_S C (c_X4_fieldOf hfl) mi_X4_fieldOf mk_X4_171 rfl (by decide) rfl (Nat.le_of_ble_eq_true rfl) (by decide) dX4_read_52) ?_
        rw [if_pos hf]
        refine V_callf (R_S C (c_X4_cell hfl) mi_X4_cell mk_X4_103 rfl (by decide) rfl (Nat.le_of_ble_eq_true rfl) (by decide) dX4_read_55) ?_
        refine la_m_value C _ rfl (by omega) dX4_read_58 ?_
        refine V_topi (hR.th.vl (by omega) (by omega) (by omega) hf3) ?_
        have hg : gg = none := hG.trans (by first | exact nr_f h8 | (simp [g3_read, gS, gO, h1, h2, h3, hf]; done))
        exact V_ireti C hr dX4_read_59 ⟨by rw [hg]; exact rfl, rfl, by rw [hg]; exact (by first | exact up2_2 | exact up2_2.trans up2_2 | rfl)⟩
      · exact absurd h36 (by decide)
    · have hf := fo_f h21
      refine V_iconst (v := 2) C dX4_read_24 (by decide) ?_
      refine V_goto C 29 dX4_read_25 (by decide) ?_
      refine pt_X4_thrown C fk_X4_59 dX4_read_29 ?_
      refine V_aload_n C dX4_read_32 rfl ?_
      refine gt_X4_thrown C fk_X4_59 dX4_read_33 ?_
      refine V_topi (show _ = (2 : Int32) from rfl) ?_
      refine V_if_le C 43 dX4_read_36 (by decide) (fun h36 => ?_) (fun h36 => ?_)
      · exact absurd h36 (by decide)
      · refine V_iconst (v := 0) C dX4_read_39 (by decide) ?_
        refine V_goto C 59 dX4_read_40 (by decide) ?_
        have hg : gg = some eA := hG.trans (by first | exact nr_f h8 | (simp [g3_read, gS, gO, h1, h2, h3, hf]; done))
        exact V_ireti C hr dX4_read_59 ⟨by rw [hg]; exact rfl, rfl, by rw [hg]; exact (by first | exact up2_2 | exact up2_2.trans up2_2 | rfl)⟩
  · refine V_iconst (v := 1) C dX4_read_11 (by decide) ?_
    refine V_goto C 29 dX4_read_12 (by decide) ?_
    refine pt_X4_thrown C fk_X4_59 dX4_read_29 ?_
    refine V_aload_n C dX4_read_32 rfl ?_
    refine gt_X4_thrown C fk_X4_59 dX4_read_33 ?_
    refine V_topi (show _ = (1 : Int32) from rfl) ?_
    refine V_if_le C 43 dX4_read_36 (by decide) (fun h36 => ?_) (fun h36 => ?_)
    · exact absurd h36 (by decide)
    · refine V_iconst (v := 0) C dX4_read_39 (by decide) ?_
      refine V_goto C 59 dX4_read_40 (by decide) ?_
      have hg : gg = some eI := hG.trans (by first | exact nr_f h8 | (simp [g3_read, gS, gO, h1, h2, h3, hf]; done))
      exact V_ireti C hr dX4_read_59 ⟨by rw [hg]; exact rfl, rfl, by rw [hg]; exact (by first | exact up2_2 | exact up2_2.trans up2_2 | rfl)⟩
set_option maxHeartbeats 4000000 in
set_option maxRecDepth 100000 in
theorem c_X4_write {l : Launch} {x : Sh} {a b : Mem} {o : Out} (hfl : l.stackTraces = false) {q : Mem} (hW : WC q) (hI : IQ q) (hR : RR q b) {t p ex f v : Int32} : MG l x yX4_write cX4_write 9 (some .int) 6 280 [.ref (x.2.1 70), .int t, .int p, .int ex, .int f, .int v] a b o (QI x o (FI (rd (g3_write q t p ex f v) (q (3 + (tn t * 3 + fNat f)) (tn p * 6 + tn ex))) a (mm [eI, eA] (g3_write q t p ex f v) b (up2 (up2 b 70 0 0) 82 (((tn t * 10 + tn p) * 6 + tn ex) * 3 + fNat f) v)))) := by
  refine MG.of (maxL := 9) (ret := (some .int)) hfl (by decide) [some (.ref (x.2.1 70)), some (.int t), some (.int p), some (.int ex), some (.int f), some (.int v), none, none, none] rfl rfl (Nat.le_of_ble_eq_true rfl) ?_
  intro pP eE sS mM argsA belowB methM cC C hr
  have ho12 := hW.ol
  have hp10 := hW.pl
  have he6 := hW.el
  obtain ⟨gg, hG⟩ : ∃ gg, gg = (g3_write q t p ex f v) := ⟨_, rfl⟩
  rw [← hG]
  refine V_iload C dX4_write_0 rfl ?_
  refine V_callf (R_S C (c_X4_fieldOf hfl) mi_X4_fieldOf mk_X4_171 rfl (by decide) rfl (Nat.le_of_ble_eq_true rfl) (by decide) dX4_write_2) ?_
  refine V_istore_6 C dX4_write_5 (by decide) ?_
  refine V_iload C dX4_write_7 rfl ?_
  refine V_if_ne C 22 dX4_write_9 (by decide) (fun h9 => ?_) (fun h9 => ?_)
  · refine V_iload C dX4_write_22 rfl ?_
    refine V_iconst (v := 1) C dX4_write_24 (by decide) ?_
    refine V_icmp_ne C 39 dX4_write_25 (by decide) (fun h25 => ?_) (fun h25 => ?_)
    · refine V_iload C dX4_write_39 rfl ?_
      refine V_iconst (v := 2) C dX4_write_41 (by decide) ?_
      refine V_icmp_ne C 60 dX4_write_42 (by decide) (fun h42 => ?_) (fun h42 => ?_)
      · refine V_iconst (v := 0) C dX4_write_60 (by decide) ?_
        refine V_istore_7 C dX4_write_61 (by decide) ?_
        refine V_aload_n C dX4_write_63 rfl ?_
        refine V_aload_n C dX4_write_64 rfl ?_
        refine V_iload_n C dX4_write_65 rfl ?_
        refine V_iload_n C dX4_write_66 rfl ?_
        refine V_iload_n C dX4_write_67 rfl ?_
        refine V_callf (R_V C (c_X4_noRecord hfl hW hI hR) mi_X4_noRecord mk_X4_175 rfl (by omega) rfl (rfl : vwCl[6]? = some (RX4, TX4, 24)) (by decide) rfl (Nat.le_of_ble_eq_true rfl) (by decide) dX4_write_68) ?_
        refine V_ifb_eq C 78 dX4_write_71 (by decide) (fun h71 => ?_) (fun h71 => ?_)
        · obtain ⟨h1, h2, h3⟩ := nr_t h71
          obtain ⟨ut, hut, ute⟩ := ix_of (N := 3) (E := eI) (gO_n.mpr h1) rfl (by decide)
          subst ute
          have tut : tn (nI ut) = ut := tn_nI (by omega)
          try rw [tut]
          obtain ⟨jp, hjp, jpe⟩ := ix_of (E := eI) (gO_n.mpr h2) hW.pe (by omega)
          subst jpe
          have tjp : tn (nI jp) = jp := tn_nI (by omega)
          try rw [tjp]
          obtain ⟨ke, hke, kee⟩ := ix_of (E := eI) (gO_n.mpr h3) hW.ee (by omega)
          subst kee
          have tke : tn (nI ke) = ke := tn_nI (by omega)
          try rw [tke]
          refine V_iload C dX4_write_78 rfl ?_
          refine V_if_ne C 87 dX4_write_80 (by decide) (fun h80 => ?_) (fun h80 => ?_)
          · exact absurd h80 (by decide)
          · refine V_iconst (v := 2) C dX4_write_83 (by decide) ?_
            refine V_goto C 88 dX4_write_84 (by decide) ?_
            refine pt_X4_thrown C fk_X4_59 dX4_write_88 ?_
            refine V_aload_n C dX4_write_91 rfl ?_
            refine gt_X4_thrown C fk_X4_59 dX4_write_92 ?_
            refine V_topi (show _ = (2 : Int32) from rfl) ?_
            refine V_if_le C 100 dX4_write_95 (by decide) (fun h95 => ?_) (fun h95 => ?_)
            · exact absurd h95 (by decide)
            · refine V_iconst (v := 0) C dX4_write_98 (by decide) ?_
              have hg : gg = some eA := hG.trans (by
                first
                  | exact nr_f h71
                  | exact absurd (h9.symm.trans h25) (by decide)
                  | exact absurd (h9.symm.trans h42) (by decide)
                  | exact absurd (h25.symm.trans h42) (by decide)
                  | (have w := wr_n (n := 0) (by decide) h9
                     have r : rngB (nI (fNat f)) v = _ := (congrArg (fun n => rngB (nI n) v) w.2).trans (show inR v 0 1 = _ from h19)
                     simp [g3_write, gS, gO, h1, h2, h3, w.1, r]; done)
                  | (have w := wr_n (n := 1) (by decide) h25
                     have r : rngB (nI (fNat f)) v = _ := (congrArg (fun n => rngB (nI n) v) w.2).trans (show inR v (-1) 100 = _ from h36)
                     simp [g3_write, gS, gO, h1, h2, h3, w.1, r]; done)
                  | (have w := wr_n (n := 2) (by decide) h42
                     have r : rngB (nI (fNat f)) v = _ := (congrArg (fun n => rngB (nI n) v) w.2).trans (show inR v 0 60 = _ from h53)
                     simp [g3_write, gS, gO, h1, h2, h3, w.1, r]; done)
                  | (have w := wr_no h9 h25 h42
                     simp [g3_write, gS, gO, h1, h2, h3, w]; done))
              exact V_ireti C hr dX4_write_99 ⟨by rw [hg]; exact rfl, rfl, by rw [hg]; exact (by first | exact up2_2 | exact up2_2.trans up2_2 | rfl)⟩
        · refine V_iconst (v := 1) C dX4_write_74 (by decide) ?_
          refine V_goto C 88 dX4_write_75 (by decide) ?_
          refine pt_X4_thrown C fk_X4_59 dX4_write_88 ?_
          refine V_aload_n C dX4_write_91 rfl ?_
          refine gt_X4_thrown C fk_X4_59 dX4_write_92 ?_
          refine V_topi (show _ = (1 : Int32) from rfl) ?_
          refine V_if_le C 100 dX4_write_95 (by decide) (fun h95 => ?_) (fun h95 => ?_)
          · exact absurd h95 (by decide)
          · refine V_iconst (v := 0) C dX4_write_98 (by decide) ?_
            have hg : gg = some eI := hG.trans (by
              first
                | exact nr_f h71
                | exact absurd (h9.symm.trans h25) (by decide)
                | exact absurd (h9.symm.trans h42) (by decide)
                | exact absurd (h25.symm.trans h42) (by decide)
                | (have w := wr_n (n := 0) (by decide) h9
                   have r : rngB (nI (fNat f)) v = _ := (congrArg (fun n => rngB (nI n) v) w.2).trans (show inR v 0 1 = _ from h19)
                   simp [g3_write, gS, gO, h1, h2, h3, w.1, r]; done)
                | (have w := wr_n (n := 1) (by decide) h25
                   have r : rngB (nI (fNat f)) v = _ := (congrArg (fun n => rngB (nI n) v) w.2).trans (show inR v (-1) 100 = _ from h36)
                   simp [g3_write, gS, gO, h1, h2, h3, w.1, r]; done)
                | (have w := wr_n (n := 2) (by decide) h42
                   have r : rngB (nI (fNat f)) v = _ := (congrArg (fun n => rngB (nI n) v) w.2).trans (show inR v 0 60 = _ from h53)
                   simp [g3_write, gS, gO, h1, h2, h3, w.1, r]; done)
                | (have w := wr_no h9 h25 h42
                   simp [g3_write, gS, gO, h1, h2, h3, w]; done))
            exact V_ireti C hr dX4_write_99 ⟨by rw [hg]; exact rfl, rfl, by rw [hg]; exact (by first | exact up2_2 | exact up2_2.trans up2_2 | rfl)⟩
      · refine V_iload C dX4_write_45 rfl ?_
        refine V_iconst (v := 0) C dX4_write_47 (by decide) ?_
        refine V_bipush (v := 60) C dX4_write_48 (by decide) ?_
        refine V_callf (R_S C (c_X4_in hfl) mi_X4_in mk_X4_66 rfl (by decide) rfl (Nat.le_of_ble_eq_true rfl) (by decide) dX4_write_50) ?_
        refine V_ifb_eq C 60 dX4_write_53 (by decide) (fun h53 => ?_) (fun h53 => ?_)
        · refine V_iconst (v := 0) C dX4_write_60 (by decide) ?_
          refine V_istore_7 C dX4_write_61 (by decide) ?_
          refine V_aload_n C dX4_write_63 rfl ?_
          refine V_aload_n C dX4_write_64 rfl ?_
          refine V_iload_n C dX4_write_65 rfl ?_
          refine V_iload_n C dX4_write_66 rfl ?_
          refine V_iload_n C dX4_write_67 rfl ?_
          refine V_callf (R_V C (c_X4_noRecord hfl hW hI hR) mi_X4_noRecord mk_X4_175 rfl (by omega) rfl (rfl : vwCl[6]? = some (RX4, TX4, 24)) (by decide) rfl (Nat.le_of_ble_eq_true rfl) (by decide) dX4_write_68) ?_
          refine V_ifb_eq C 78 dX4_write_71 (by decide) (fun h71 => ?_) (fun h71 => ?_)
          · obtain ⟨h1, h2, h3⟩ := nr_t h71
            obtain ⟨ut, hut, ute⟩ := ix_of (N := 3) (E := eI) (gO_n.mpr h1) rfl (by decide)
            subst ute
            have tut : tn (nI ut) = ut := tn_nI (by omega)
            try rw [tut]
            obtain ⟨jp, hjp, jpe⟩ := ix_of (E := eI) (gO_n.mpr h2) hW.pe (by omega)
            subst jpe
            have tjp : tn (nI jp) = jp := tn_nI (by omega)
            try rw [tjp]
            obtain ⟨ke, hke, kee⟩ := ix_of (E := eI) (gO_n.mpr h3) hW.ee (by omega)
            subst kee
            have tke : tn (nI ke) = ke := tn_nI (by omega)
            try rw [tke]
            refine V_iload C dX4_write_78 rfl ?_
            refine V_if_ne C 87 dX4_write_80 (by decide) (fun h80 => ?_) (fun h80 => ?_)
            · exact absurd h80 (by decide)
            · refine V_iconst (v := 2) C dX4_write_83 (by decide) ?_
              refine V_goto C 88 dX4_write_84 (by decide) ?_
              refine pt_X4_thrown C fk_X4_59 dX4_write_88 ?_
              refine V_aload_n C dX4_write_91 rfl ?_
              refine gt_X4_thrown C fk_X4_59 dX4_write_92 ?_
              refine V_topi (show _ = (2 : Int32) from rfl) ?_
              refine V_if_le C 100 dX4_write_95 (by decide) (fun h95 => ?_) (fun h95 => ?_)
              · exact absurd h95 (by decide)
              · refine V_iconst (v := 0) C dX4_write_98 (by decide) ?_
                have hg : gg = some eA := hG.trans (by
                  first
                    | exact nr_f h71
                    | exact absurd (h9.symm.trans h25) (by decide)
                    | exact absurd (h9.symm.trans h42) (by decide)
                    | exact absurd (h25.symm.trans h42) (by decide)
                    | (have w := wr_n (n := 0) (by decide) h9
                       have r : rngB (nI (fNat f)) v = _ := (congrArg (fun n => rngB (nI n) v) w.2).trans (show inR v 0 1 = _ from h19)
                       simp [g3_write, gS, gO, h1, h2, h3, w.1, r]; done)
                    | (have w := wr_n (n := 1) (by decide) h25
                       have r : rngB (nI (fNat f)) v = _ := (congrArg (fun n => rngB (nI n) v) w.2).trans (show inR v (-1) 100 = _ from h36)
                       simp [g3_write, gS, gO, h1, h2, h3, w.1, r]; done)
                    | (have w := wr_n (n := 2) (by decide) h42
                       have r : rngB (nI (fNat f)) v = _ := (congrArg (fun n => rngB (nI n) v) w.2).trans (show inR v 0 60 = _ from h53)
                       simp [g3_write, gS, gO, h1, h2, h3, w.1, r]; done)
                    | (have w := wr_no h9 h25 h42
                       simp [g3_write, gS, gO, h1, h2, h3, w]; done))
                exact V_ireti C hr dX4_write_99 ⟨by rw [hg]; exact rfl, rfl, by rw [hg]; exact (by first | exact up2_2 | exact up2_2.trans up2_2 | rfl)⟩
          · refine V_iconst (v := 1) C dX4_write_74 (by decide) ?_
            refine V_goto C 88 dX4_write_75 (by decide) ?_
            refine pt_X4_thrown C fk_X4_59 dX4_write_88 ?_
            refine V_aload_n C dX4_write_91 rfl ?_
            refine gt_X4_thrown C fk_X4_59 dX4_write_92 ?_
            refine V_topi (show _ = (1 : Int32) from rfl) ?_
            refine V_if_le C 100 dX4_write_95 (by decide) (fun h95 => ?_) (fun h95 => ?_)
            · exact absurd h95 (by decide)
            · refine V_iconst (v := 0) C dX4_write_98 (by decide) ?_
              have hg : gg = some eI := hG.trans (by
                first
                  | exact nr_f h71
                  | exact absurd (h9.symm.trans h25) (by decide)
                  | exact absurd (h9.symm.trans h42) (by decide)
                  | exact absurd (h25.symm.trans h42) (by decide)
                  | (have w := wr_n (n := 0) (by decide) h9
                     have r : rngB (nI (fNat f)) v = _ := (congrArg (fun n => rngB (nI n) v) w.2).trans (show inR v 0 1 = _ from h19)
                     simp [g3_write, gS, gO, h1, h2, h3, w.1, r]; done)
                  | (have w := wr_n (n := 1) (by decide) h25
                     have r : rngB (nI (fNat f)) v = _ := (congrArg (fun n => rngB (nI n) v) w.2).trans (show inR v (-1) 100 = _ from h36)
                     simp [g3_write, gS, gO, h1, h2, h3, w.1, r]; done)
                  | (have w := wr_n (n := 2) (by decide) h42
                     have r : rngB (nI (fNat f)) v = _ := (congrArg (fun n => rngB (nI n) v) w.2).trans (show inR v 0 60 = _ from h53)
                     simp [g3_write, gS, gO, h1, h2, h3, w.1, r]; done)
                  | (have w := wr_no h9 h25 h42
                     simp [g3_write, gS, gO, h1, h2, h3, w]; done))
              exact V_ireti C hr dX4_write_99 ⟨by rw [hg]; exact rfl, rfl, by rw [hg]; exact (by first | exact up2_2 | exact up2_2.trans up2_2 | rfl)⟩
        · refine V_iconst (v := 1) C dX4_write_56 (by decide) ?_
          refine V_goto C 61 dX4_write_57 (by decide) ?_
          refine V_istore_7 C dX4_write_61 (by decide) ?_
          refine V_aload_n C dX4_write_63 rfl ?_
          refine V_aload_n C dX4_write_64 rfl ?_
          refine V_iload_n C dX4_write_65 rfl ?_
          refine V_iload_n C dX4_write_66 rfl ?_
          refine V_iload_n C dX4_write_67 rfl ?_
          refine V_callf (R_V C (c_X4_noRecord hfl hW hI hR) mi_X4_noRecord mk_X4_175 rfl (by omega) rfl (rfl : vwCl[6]? = some (RX4, TX4, 24)) (by decide) rfl (Nat.le_of_ble_eq_true rfl) (by decide) dX4_write_68) ?_
          refine V_ifb_eq C 78 dX4_write_71 (by decide) (fun h71 => ?_) (fun h71 => ?_)
          · obtain ⟨h1, h2, h3⟩ := nr_t h71
            obtain ⟨ut, hut, ute⟩ := ix_of (N := 3) (E := eI) (gO_n.mpr h1) rfl (by decide)
            subst ute
            have tut : tn (nI ut) = ut := tn_nI (by omega)
            try rw [tut]
            obtain ⟨jp, hjp, jpe⟩ := ix_of (E := eI) (gO_n.mpr h2) hW.pe (by omega)
            subst jpe
            have tjp : tn (nI jp) = jp := tn_nI (by omega)
            try rw [tjp]
            obtain ⟨ke, hke, kee⟩ := ix_of (E := eI) (gO_n.mpr h3) hW.ee (by omega)
            subst kee
            have tke : tn (nI ke) = ke := tn_nI (by omega)
            try rw [tke]
            refine V_iload C dX4_write_78 rfl ?_
            refine V_if_ne C 87 dX4_write_80 (by decide) (fun h80 => ?_) (fun h80 => ?_)
            · refine V_iconst (v := 0) C dX4_write_87 (by decide) ?_
              refine pt_X4_thrown C fk_X4_59 dX4_write_88 ?_
              refine V_aload_n C dX4_write_91 rfl ?_
              refine gt_X4_thrown C fk_X4_59 dX4_write_92 ?_
              refine V_topi (show _ = (0 : Int32) from rfl) ?_
              refine V_if_le C 100 dX4_write_95 (by decide) (fun h95 => ?_) (fun h95 => ?_)
              · have hf : fOk f = true := by first | exact (wr_n (n := 0) (by decide) h9).1 | exact (wr_n (n := 1) (by decide) h25).1 | exact (wr_n (n := 2) (by decide) h42).1
                rw [if_pos hf]
                have hf3 := fNat_l f
                refine V_aload_n C dX4_write_100 rfl ?_
                refine gt_X4_value C fk_X4_44 dX4_write_101 ?_
                refine V_iload_n C dX4_write_104 rfl ?_
                refine V_iload_n C dX4_write_105 rfl ?_
                refine V_iload_n C dX4_write_106 rfl ?_
                refine V_iload C dX4_write_107 rfl ?_
                refine V_callf (R_S C (c_X4_cell hfl) mi_X4_cell mk_X4_103 rfl (by decide) rfl (Nat.le_of_ble_eq_true rfl) (by decide) dX4_write_109) ?_
                refine la_m_value C _ rfl (by omega) dX4_write_112 ?_
                refine V_topi (hR.th.vl (by omega) (by omega) (by omega) hf3) ?_
                refine V_istore_8 C dX4_write_113 (by decide) ?_
                refine V_aload_n C dX4_write_115 rfl ?_
                refine gt_X4_value C fk_X4_44 dX4_write_116 ?_
                refine V_iload_n C dX4_write_119 rfl ?_
                refine V_iload_n C dX4_write_120 rfl ?_
                refine V_iload_n C dX4_write_121 rfl ?_
                refine V_iload C dX4_write_122 rfl ?_
                refine V_callf (R_S C (c_X4_cell hfl) mi_X4_cell mk_X4_103 rfl (by decide) rfl (Nat.le_of_ble_eq_true rfl) (by decide) dX4_write_124) ?_
                refine V_iload C dX4_write_127 rfl ?_
                refine sa_m_value C _ rfl (by omega) dX4_write_129 ?_
                refine V_iload C dX4_write_130 rfl ?_
                have hg : gg = none := hG.trans (by
                  first
                    | exact nr_f h71
                    | exact absurd (h9.symm.trans h25) (by decide)
                    | exact absurd (h9.symm.trans h42) (by decide)
                    | exact absurd (h25.symm.trans h42) (by decide)
                    | (have w := wr_n (n := 0) (by decide) h9
                       have r : rngB (nI (fNat f)) v = _ := (congrArg (fun n => rngB (nI n) v) w.2).trans (show inR v 0 1 = _ from h19)
                       simp [g3_write, gS, gO, h1, h2, h3, w.1, r]; done)
                    | (have w := wr_n (n := 1) (by decide) h25
                       have r : rngB (nI (fNat f)) v = _ := (congrArg (fun n => rngB (nI n) v) w.2).trans (show inR v (-1) 100 = _ from h36)
                       simp [g3_write, gS, gO, h1, h2, h3, w.1, r]; done)
                    | (have w := wr_n (n := 2) (by decide) h42
                       have r : rngB (nI (fNat f)) v = _ := (congrArg (fun n => rngB (nI n) v) w.2).trans (show inR v 0 60 = _ from h53)
                       simp [g3_write, gS, gO, h1, h2, h3, w.1, r]; done)
                    | (have w := wr_no h9 h25 h42
                       simp [g3_write, gS, gO, h1, h2, h3, w]; done))
                exact V_ireti C hr dX4_write_132 ⟨by rw [hg]; exact rfl, rfl, by rw [hg]; exact (by first | exact up2_2 | exact up2_2.trans up2_2 | rfl)⟩
              · exact absurd h95 (by decide)
            · exact absurd h80 (by decide)
          · refine V_iconst (v := 1) C dX4_write_74 (by decide) ?_
            refine V_goto C 88 dX4_write_75 (by decide) ?_
            refine pt_X4_thrown C fk_X4_59 dX4_write_88 ?_
            refine V_aload_n C dX4_write_91 rfl ?_
            refine gt_X4_thrown C fk_X4_59 dX4_write_92 ?_
            refine V_topi (show _ = (1 : Int32) from rfl) ?_
            refine V_if_le C 100 dX4_write_95 (by decide) (fun h95 => ?_) (fun h95 => ?_)
            · exact absurd h95 (by decide)
            · refine V_iconst (v := 0) C dX4_write_98 (by decide) ?_
              have hg : gg = some eI := hG.trans (by
                first
                  | exact nr_f h71
                  | exact absurd (h9.symm.trans h25) (by decide)
                  | exact absurd (h9.symm.trans h42) (by decide)
                  | exact absurd (h25.symm.trans h42) (by decide)
                  | (have w := wr_n (n := 0) (by decide) h9
                     have r : rngB (nI (fNat f)) v = _ := (congrArg (fun n => rngB (nI n) v) w.2).trans (show inR v 0 1 = _ from h19)
                     simp [g3_write, gS, gO, h1, h2, h3, w.1, r]; done)
                  | (have w := wr_n (n := 1) (by decide) h25
                     have r : rngB (nI (fNat f)) v = _ := (congrArg (fun n => rngB (nI n) v) w.2).trans (show inR v (-1) 100 = _ from h36)
                     simp [g3_write, gS, gO, h1, h2, h3, w.1, r]; done)
                  | (have w := wr_n (n := 2) (by decide) h42
                     have r : rngB (nI (fNat f)) v = _ := (congrArg (fun n => rngB (nI n) v) w.2).trans (show inR v 0 60 = _ from h53)
                     simp [g3_write, gS, gO, h1, h2, h3, w.1, r]; done)
                  | (have w := wr_no h9 h25 h42
                     simp [g3_write, gS, gO, h1, h2, h3, w]; done))
              exact V_ireti C hr dX4_write_99 ⟨by rw [hg]; exact rfl, rfl, by rw [hg]; exact (by first | exact up2_2 | exact up2_2.trans up2_2 | rfl)⟩
    · refine V_iload C dX4_write_28 rfl ?_
      refine V_iconst (v := -1) C dX4_write_30 (by decide) ?_
      refine V_bipush (v := 100) C dX4_write_31 (by decide) ?_
      refine V_callf (R_S C (c_X4_in hfl) mi_X4_in mk_X4_66 rfl (by decide) rfl (Nat.le_of_ble_eq_true rfl) (by decide) dX4_write_33) ?_
      refine V_ifb_ne C 56 dX4_write_36 (by decide) (fun h36 => ?_) (fun h36 => ?_)
      · refine V_iconst (v := 1) C dX4_write_56 (by decide) ?_
        refine V_goto C 61 dX4_write_57 (by decide) ?_
        refine V_istore_7 C dX4_write_61 (by decide) ?_
        refine V_aload_n C dX4_write_63 rfl ?_
        refine V_aload_n C dX4_write_64 rfl ?_
        refine V_iload_n C dX4_write_65 rfl ?_
        refine V_iload_n C dX4_write_66 rfl ?_
        refine V_iload_n C dX4_write_67 rfl ?_
        refine V_callf (R_V C (c_X4_noRecord hfl hW hI hR) mi_X4_noRecord mk_X4_175 rfl (by omega) rfl (rfl : vwCl[6]? = some (RX4, TX4, 24)) (by decide) rfl (Nat.le_of_ble_eq_true rfl) (by decide) dX4_write_68) ?_
        refine V_ifb_eq C 78 dX4_write_71 (by decide) (fun h71 => ?_) (fun h71 => ?_)
        · obtain ⟨h1, h2, h3⟩ := nr_t h71
          obtain ⟨ut, hut, ute⟩ := ix_of (N := 3) (E := eI) (gO_n.mpr h1) rfl (by decide)
          subst ute
          have tut : tn (nI ut) = ut := tn_nI (by omega)
          try rw [tut]
          obtain ⟨jp, hjp, jpe⟩ := ix_of (E := eI) (gO_n.mpr h2) hW.pe (by omega)
          subst jpe
          have tjp : tn (nI jp) = jp := tn_nI (by omega)
          try rw [tjp]
          obtain ⟨ke, hke, kee⟩ := ix_of (E := eI) (gO_n.mpr h3) hW.ee (by omega)
          subst kee
          have tke : tn (nI ke) = ke := tn_nI (by omega)
          try rw [tke]
          refine V_iload C dX4_write_78 rfl ?_
          refine V_if_ne C 87 dX4_write_80 (by decide) (fun h80 => ?_) (fun h80 => ?_)
          · refine V_iconst (v := 0) C dX4_write_87 (by decide) ?_
            refine pt_X4_thrown C fk_X4_59 dX4_write_88 ?_
            refine V_aload_n C dX4_write_91 rfl ?_
            refine gt_X4_thrown C fk_X4_59 dX4_write_92 ?_
            refine V_topi (show _ = (0 : Int32) from rfl) ?_
            refine V_if_le C 100 dX4_write_95 (by decide) (fun h95 => ?_) (fun h95 => ?_)
            · have hf : fOk f = true := by first | exact (wr_n (n := 0) (by decide) h9).1 | exact (wr_n (n := 1) (by decide) h25).1 | exact (wr_n (n := 2) (by decide) h42).1
              rw [if_pos hf]
              have hf3 := fNat_l f
              refine V_aload_n C dX4_write_100 rfl ?_
              refine gt_X4_value C fk_X4_44 dX4_write_101 ?_
              refine V_iload_n C dX4_write_104 rfl ?_
              refine V_iload_n C dX4_write_105 rfl ?_
              refine V_iload_n C dX4_write_106 rfl ?_
              refine V_iload C dX4_write_107 rfl ?_
              refine V_callf (R_S C (c_X4_cell hfl) mi_X4_cell mk_X4_103 rfl (by decide) rfl (Nat.le_of_ble_eq_true rfl) (by decide) dX4_write_109) ?_
              refine la_m_value C _ rfl (by omega) dX4_write_112 ?_
              refine V_topi (hR.th.vl (by omega) (by omega) (by omega) hf3) ?_
              refine V_istore_8 C dX4_write_113 (by decide) ?_
              refine V_aload_n C dX4_write_115 rfl ?_
              refine gt_X4_value C fk_X4_44 dX4_write_116 ?_
              refine V_iload_n C dX4_write_119 rfl ?_
              refine V_iload_n C dX4_write_120 rfl ?_
              refine V_iload_n C dX4_write_121 rfl ?_
              refine V_iload C dX4_write_122 rfl ?_
              refine V_callf (R_S C (c_X4_cell hfl) mi_X4_cell mk_X4_103 rfl (by decide) rfl (Nat.le_of_ble_eq_true rfl) (by decide) dX4_write_124) ?_
              refine V_iload C dX4_write_127 rfl ?_
              refine sa_m_value C _ rfl (by omega) dX4_write_129 ?_
              refine V_iload C dX4_write_130 rfl ?_
              have hg : gg = none := hG.trans (by
                first
                  | exact nr_f h71
                  | exact absurd (h9.symm.trans h25) (by decide)
                  | exact absurd (h9.symm.trans h42) (by decide)
                  | exact absurd (h25.symm.trans h42) (by decide)
                  | (have w := wr_n (n := 0) (by decide) h9
                     have r : rngB (nI (fNat f)) v = _ := (congrArg (fun n => rngB (nI n) v) w.2).trans (show inR v 0 1 = _ from h19)
                     simp [g3_write, gS, gO, h1, h2, h3, w.1, r]; done)
                  | (have w := wr_n (n := 1) (by decide) h25
                     have r : rngB (nI (fNat f)) v = _ := (congrArg (fun n => rngB (nI n) v) w.2).trans (show inR v (-1) 100 = _ from h36)
                     simp [g3_write, gS, gO, h1, h2, h3, w.1, r]; done)
                  | (have w := wr_n (n := 2) (by decide) h42
                     have r : rngB (nI (fNat f)) v = _ := (congrArg (fun n => rngB (nI n) v) w.2).trans (show inR v 0 60 = _ from h53)
                     simp [g3_write, gS, gO, h1, h2, h3, w.1, r]; done)
                  | (have w := wr_no h9 h25 h42
                     simp [g3_write, gS, gO, h1, h2, h3, w]; done))
              exact V_ireti C hr dX4_write_132 ⟨by rw [hg]; exact rfl, rfl, by rw [hg]; exact (by first | exact up2_2 | exact up2_2.trans up2_2 | rfl)⟩
            · exact absurd h95 (by decide)
          · exact absurd h80 (by decide)
        · refine V_iconst (v := 1) C dX4_write_74 (by decide) ?_
          refine V_goto C 88 dX4_write_75 (by decide) ?_
          refine pt_X4_thrown C fk_X4_59 dX4_write_88 ?_
          refine V_aload_n C dX4_write_91 rfl ?_
          refine gt_X4_thrown C fk_X4_59 dX4_write_92 ?_
          refine V_topi (show _ = (1 : Int32) from rfl) ?_
          refine V_if_le C 100 dX4_write_95 (by decide) (fun h95 => ?_) (fun h95 => ?_)
          · exact absurd h95 (by decide)
          · refine V_iconst (v := 0) C dX4_write_98 (by decide) ?_
            have hg : gg = some eI := hG.trans (by
              first
                | exact nr_f h71
                | exact absurd (h9.symm.trans h25) (by decide)
                | exact absurd (h9.symm.trans h42) (by decide)
                | exact absurd (h25.symm.trans h42) (by decide)
                | (have w := wr_n (n := 0) (by decide) h9
                   have r : rngB (nI (fNat f)) v = _ := (congrArg (fun n => rngB (nI n) v) w.2).trans (show inR v 0 1 = _ from h19)
                   simp [g3_write, gS, gO, h1, h2, h3, w.1, r]; done)
                | (have w := wr_n (n := 1) (by decide) h25
                   have r : rngB (nI (fNat f)) v = _ := (congrArg (fun n => rngB (nI n) v) w.2).trans (show inR v (-1) 100 = _ from h36)
                   simp [g3_write, gS, gO, h1, h2, h3, w.1, r]; done)
                | (have w := wr_n (n := 2) (by decide) h42
                   have r : rngB (nI (fNat f)) v = _ := (congrArg (fun n => rngB (nI n) v) w.2).trans (show inR v 0 60 = _ from h53)
                   simp [g3_write, gS, gO, h1, h2, h3, w.1, r]; done)
                | (have w := wr_no h9 h25 h42
                   simp [g3_write, gS, gO, h1, h2, h3, w]; done))
            exact V_ireti C hr dX4_write_99 ⟨by rw [hg]; exact rfl, rfl, by rw [hg]; exact (by first | exact up2_2 | exact up2_2.trans up2_2 | rfl)⟩
      · refine V_iload C dX4_write_39 rfl ?_
        refine V_iconst (v := 2) C dX4_write_41 (by decide) ?_
        refine V_icmp_ne C 60 dX4_write_42 (by decide) (fun h42 => ?_) (fun h42 => ?_)
        · refine V_iconst (v := 0) C dX4_write_60 (by decide) ?_
          refine V_istore_7 C dX4_write_61 (by decide) ?_
          refine V_aload_n C dX4_write_63 rfl ?_
          refine V_aload_n C dX4_write_64 rfl ?_
          refine V_iload_n C dX4_write_65 rfl ?_
          refine V_iload_n C dX4_write_66 rfl ?_
          refine V_iload_n C dX4_write_67 rfl ?_
          refine V_callf (R_V C (c_X4_noRecord hfl hW hI hR) mi_X4_noRecord mk_X4_175 rfl (by omega) rfl (rfl : vwCl[6]? = some (RX4, TX4, 24)) (by decide) rfl (Nat.le_of_ble_eq_true rfl) (by decide) dX4_write_68) ?_
          refine V_ifb_eq C 78 dX4_write_71 (by decide) (fun h71 => ?_) (fun h71 => ?_)
          · obtain ⟨h1, h2, h3⟩ := nr_t h71
            obtain ⟨ut, hut, ute⟩ := ix_of (N := 3) (E := eI) (gO_n.mpr h1) rfl (by decide)
            subst ute
            have tut : tn (nI ut) = ut := tn_nI (by omega)
            try rw [tut]
            obtain ⟨jp, hjp, jpe⟩ := ix_of (E := eI) (gO_n.mpr h2) hW.pe (by omega)
            subst jpe
            have tjp : tn (nI jp) = jp := tn_nI (by omega)
            try rw [tjp]
            obtain ⟨ke, hke, kee⟩ := ix_of (E := eI) (gO_n.mpr h3) hW.ee (by omega)
            subst kee
            have tke : tn (nI ke) = ke := tn_nI (by omega)
            try rw [tke]
            refine V_iload C dX4_write_78 rfl ?_
            refine V_if_ne C 87 dX4_write_80 (by decide) (fun h80 => ?_) (fun h80 => ?_)
            · exact absurd h80 (by decide)
            · refine V_iconst (v := 2) C dX4_write_83 (by decide) ?_
              refine V_goto C 88 dX4_write_84 (by decide) ?_
              refine pt_X4_thrown C fk_X4_59 dX4_write_88 ?_
              refine V_aload_n C dX4_write_91 rfl ?_
              refine gt_X4_thrown C fk_X4_59 dX4_write_92 ?_
              refine V_topi (show _ = (2 : Int32) from rfl) ?_
              refine V_if_le C 100 dX4_write_95 (by decide) (fun h95 => ?_) (fun h95 => ?_)
              · exact absurd h95 (by decide)
              · refine V_iconst (v := 0) C dX4_write_98 (by decide) ?_
                have hg : gg = some eA := hG.trans (by
                  first
                    | exact nr_f h71
                    | exact absurd (h9.symm.trans h25) (by decide)
                    | exact absurd (h9.symm.trans h42) (by decide)
                    | exact absurd (h25.symm.trans h42) (by decide)
                    | (have w := wr_n (n := 0) (by decide) h9
                       have r : rngB (nI (fNat f)) v = _ := (congrArg (fun n => rngB (nI n) v) w.2).trans (show inR v 0 1 = _ from h19)
                       simp [g3_write, gS, gO, h1, h2, h3, w.1, r]; done)
                    | (have w := wr_n (n := 1) (by decide) h25
                       have r : rngB (nI (fNat f)) v = _ := (congrArg (fun n => rngB (nI n) v) w.2).trans (show inR v (-1) 100 = _ from h36)
                       simp [g3_write, gS, gO, h1, h2, h3, w.1, r]; done)
                    | (have w := wr_n (n := 2) (by decide) h42
                       have r : rngB (nI (fNat f)) v = _ := (congrArg (fun n => rngB (nI n) v) w.2).trans (show inR v 0 60 = _ from h53)
                       simp [g3_write, gS, gO, h1, h2, h3, w.1, r]; done)
                    | (have w := wr_no h9 h25 h42
                       simp [g3_write, gS, gO, h1, h2, h3, w]; done))
                exact V_ireti C hr dX4_write_99 ⟨by rw [hg]; exact rfl, rfl, by rw [hg]; exact (by first | exact up2_2 | exact up2_2.trans up2_2 | rfl)⟩
          · refine V_iconst (v := 1) C dX4_write_74 (by decide) ?_
            refine V_goto C 88 dX4_write_75 (by decide) ?_
            refine pt_X4_thrown C fk_X4_59 dX4_write_88 ?_
            refine V_aload_n C dX4_write_91 rfl ?_
            refine gt_X4_thrown C fk_X4_59 dX4_write_92 ?_
            refine V_topi (show _ = (1 : Int32) from rfl) ?_
            refine V_if_le C 100 dX4_write_95 (by decide) (fun h95 => ?_) (fun h95 => ?_)
            · exact absurd h95 (by decide)
            · refine V_iconst (v := 0) C dX4_write_98 (by decide) ?_
              have hg : gg = some eI := hG.trans (by
                first
                  | exact nr_f h71
                  | exact absurd (h9.symm.trans h25) (by decide)
                  | exact absurd (h9.symm.trans h42) (by decide)
                  | exact absurd (h25.symm.trans h42) (by decide)
                  | (have w := wr_n (n := 0) (by decide) h9
                     have r : rngB (nI (fNat f)) v = _ := (congrArg (fun n => rngB (nI n) v) w.2).trans (show inR v 0 1 = _ from h19)
                     simp [g3_write, gS, gO, h1, h2, h3, w.1, r]; done)
                  | (have w := wr_n (n := 1) (by decide) h25
                     have r : rngB (nI (fNat f)) v = _ := (congrArg (fun n => rngB (nI n) v) w.2).trans (show inR v (-1) 100 = _ from h36)
                     simp [g3_write, gS, gO, h1, h2, h3, w.1, r]; done)
                  | (have w := wr_n (n := 2) (by decide) h42
                     have r : rngB (nI (fNat f)) v = _ := (congrArg (fun n => rngB (nI n) v) w.2).trans (show inR v 0 60 = _ from h53)
                     simp [g3_write, gS, gO, h1, h2, h3, w.1, r]; done)
                  | (have w := wr_no h9 h25 h42
                     simp [g3_write, gS, gO, h1, h2, h3, w]; done))
              exact V_ireti C hr dX4_write_99 ⟨by rw [hg]; exact rfl, rfl, by rw [hg]; exact (by first | exact up2_2 | exact up2_2.trans up2_2 | rfl)⟩
        · refine V_iload C dX4_write_45 rfl ?_
          refine V_iconst (v := 0) C dX4_write_47 (by decide) ?_
          refine V_bipush (v := 60) C dX4_write_48 (by decide) ?_
          refine V_callf (R_S C (c_X4_in hfl) mi_X4_in mk_X4_66 rfl (by decide) rfl (Nat.le_of_ble_eq_true rfl) (by decide) dX4_write_50) ?_
          refine V_ifb_eq C 60 dX4_write_53 (by decide) (fun h53 => ?_) (fun h53 => ?_)
          · refine V_iconst (v := 0) C dX4_write_60 (by decide) ?_
            refine V_istore_7 C dX4_write_61 (by decide) ?_
            refine V_aload_n C dX4_write_63 rfl ?_
            refine V_aload_n C dX4_write_64 rfl ?_
            refine V_iload_n C dX4_write_65 rfl ?_
            refine V_iload_n C dX4_write_66 rfl ?_
            refine V_iload_n C dX4_write_67 rfl ?_
            refine V_callf (R_V C (c_X4_noRecord hfl hW hI hR) mi_X4_noRecord mk_X4_175 rfl (by omega) rfl (rfl : vwCl[6]? = some (RX4, TX4, 24)) (by decide) rfl (Nat.le_of_ble_eq_true rfl) (by decide) dX4_write_68) ?_
            refine V_ifb_eq C 78 dX4_write_71 (by decide) (fun h71 => ?_) (fun h71 => ?_)
            · obtain ⟨h1, h2, h3⟩ := nr_t h71
              obtain ⟨ut, hut, ute⟩ := ix_of (N := 3) (E := eI) (gO_n.mpr h1) rfl (by decide)
              subst ute
              have tut : tn (nI ut) = ut := tn_nI (by omega)
              try rw [tut]
              obtain ⟨jp, hjp, jpe⟩ := ix_of (E := eI) (gO_n.mpr h2) hW.pe (by omega)
              subst jpe
              have tjp : tn (nI jp) = jp := tn_nI (by omega)
              try rw [tjp]
              obtain ⟨ke, hke, kee⟩ := ix_of (E := eI) (gO_n.mpr h3) hW.ee (by omega)
              subst kee
              have tke : tn (nI ke) = ke := tn_nI (by omega)
              try rw [tke]
              refine V_iload C dX4_write_78 rfl ?_
              refine V_if_ne C 87 dX4_write_80 (by decide) (fun h80 => ?_) (fun h80 => ?_)
              · exact absurd h80 (by decide)
              · refine V_iconst (v := 2) C dX4_write_83 (by decide) ?_
                refine V_goto C 88 dX4_write_84 (by decide) ?_
                refine pt_X4_thrown C fk_X4_59 dX4_write_88 ?_
                refine V_aload_n C dX4_write_91 rfl ?_
                refine gt_X4_thrown C fk_X4_59 dX4_write_92 ?_
                refine V_topi (show _ = (2 : Int32) from rfl) ?_
                refine V_if_le C 100 dX4_write_95 (by decide) (fun h95 => ?_) (fun h95 => ?_)
                · exact absurd h95 (by decide)
                · refine V_iconst (v := 0) C dX4_write_98 (by decide) ?_
                  have hg : gg = some eA := hG.trans (by
                    first
                      | exact nr_f h71
                      | exact absurd (h9.symm.trans h25) (by decide)
                      | exact absurd (h9.symm.trans h42) (by decide)
                      | exact absurd (h25.symm.trans h42) (by decide)
                      | (have w := wr_n (n := 0) (by decide) h9
                         have r : rngB (nI (fNat f)) v = _ := (congrArg (fun n => rngB (nI n) v) w.2).trans (show inR v 0 1 = _ from h19)
                         simp [g3_write, gS, gO, h1, h2, h3, w.1, r]; done)
                      | (have w := wr_n (n := 1) (by decide) h25
                         have r : rngB (nI (fNat f)) v = _ := (congrArg (fun n => rngB (nI n) v) w.2).trans (show inR v (-1) 100 = _ from h36)
                         simp [g3_write, gS, gO, h1, h2, h3, w.1, r]; done)
                      | (have w := wr_n (n := 2) (by decide) h42
                         have r : rngB (nI (fNat f)) v = _ := (congrArg (fun n => rngB (nI n) v) w.2).trans (show inR v 0 60 = _ from h53)
                         simp [g3_write, gS, gO, h1, h2, h3, w.1, r]; done)
                      | (have w := wr_no h9 h25 h42
                         simp [g3_write, gS, gO, h1, h2, h3, w]; done))
                  exact V_ireti C hr dX4_write_99 ⟨by rw [hg]; exact rfl, rfl, by rw [hg]; exact (by first | exact up2_2 | exact up2_2.trans up2_2 | rfl)⟩
            · refine V_iconst (v := 1) C dX4_write_74 (by decide) ?_
              refine V_goto C 88 dX4_write_75 (by decide) ?_
              refine pt_X4_thrown C fk_X4_59 dX4_write_88 ?_
              refine V_aload_n C dX4_write_91 rfl ?_
              refine gt_X4_thrown C fk_X4_59 dX4_write_92 ?_
              refine V_topi (show _ = (1 : Int32) from rfl) ?_
              refine V_if_le C 100 dX4_write_95 (by decide) (fun h95 => ?_) (fun h95 => ?_)
              · exact absurd h95 (by decide)
              · refine V_iconst (v := 0) C dX4_write_98 (by decide) ?_
                have hg : gg = some eI := hG.trans (by
                  first
                    | exact nr_f h71
                    | exact absurd (h9.symm.trans h25) (by decide)
                    | exact absurd (h9.symm.trans h42) (by decide)
                    | exact absurd (h25.symm.trans h42) (by decide)
                    | (have w := wr_n (n := 0) (by decide) h9
                       have r : rngB (nI (fNat f)) v = _ := (congrArg (fun n => rngB (nI n) v) w.2).trans (show inR v 0 1 = _ from h19)
                       simp [g3_write, gS, gO, h1, h2, h3, w.1, r]; done)
                    | (have w := wr_n (n := 1) (by decide) h25
                       have r : rngB (nI (fNat f)) v = _ := (congrArg (fun n => rngB (nI n) v) w.2).trans (show inR v (-1) 100 = _ from h36)
                       simp [g3_write, gS, gO, h1, h2, h3, w.1, r]; done)
                    | (have w := wr_n (n := 2) (by decide) h42
                       have r : rngB (nI (fNat f)) v = _ := (congrArg (fun n => rngB (nI n) v) w.2).trans (show inR v 0 60 = _ from h53)
                       simp [g3_write, gS, gO, h1, h2, h3, w.1, r]; done)
                    | (have w := wr_no h9 h25 h42
                       simp [g3_write, gS, gO, h1, h2, h3, w]; done))
                exact V_ireti C hr dX4_write_99 ⟨by rw [hg]; exact rfl, rfl, by rw [hg]; exact (by first | exact up2_2 | exact up2_2.trans up2_2 | rfl)⟩
          · refine V_iconst (v := 1) C dX4_write_56 (by decide) ?_
            refine V_goto C 61 dX4_write_57 (by decide) ?_
            refine V_istore_7 C dX4_write_61 (by decide) ?_
            refine V_aload_n C dX4_write_63 rfl ?_
            refine V_aload_n C dX4_write_64 rfl ?_
            refine V_iload_n C dX4_write_65 rfl ?_
            refine V_iload_n C dX4_write_66 rfl ?_
            refine V_iload_n C dX4_write_67 rfl ?_
            refine V_callf (R_V C (c_X4_noRecord hfl hW hI hR) mi_X4_noRecord mk_X4_175 rfl (by omega) rfl (rfl : vwCl[6]? = some (RX4, TX4, 24)) (by decide) rfl (Nat.le_of_ble_eq_true rfl) (by decide) dX4_write_68) ?_
            refine V_ifb_eq C 78 dX4_write_71 (by decide) (fun h71 => ?_) (fun h71 => ?_)
            · obtain ⟨h1, h2, h3⟩ := nr_t h71
              obtain ⟨ut, hut, ute⟩ := ix_of (N := 3) (E := eI) (gO_n.mpr h1) rfl (by decide)
              subst ute
              have tut : tn (nI ut) = ut := tn_nI (by omega)
              try rw [tut]
              obtain ⟨jp, hjp, jpe⟩ := ix_of (E := eI) (gO_n.mpr h2) hW.pe (by omega)
              subst jpe
              have tjp : tn (nI jp) = jp := tn_nI (by omega)
              try rw [tjp]
              obtain ⟨ke, hke, kee⟩ := ix_of (E := eI) (gO_n.mpr h3) hW.ee (by omega)
              subst kee
              have tke : tn (nI ke) = ke := tn_nI (by omega)
              try rw [tke]
              refine V_iload C dX4_write_78 rfl ?_
              refine V_if_ne C 87 dX4_write_80 (by decide) (fun h80 => ?_) (fun h80 => ?_)
              · refine V_iconst (v := 0) C dX4_write_87 (by decide) ?_
                refine pt_X4_thrown C fk_X4_59 dX4_write_88 ?_
                refine V_aload_n C dX4_write_91 rfl ?_
                refine gt_X4_thrown C fk_X4_59 dX4_write_92 ?_
                refine V_topi (show _ = (0 : Int32) from rfl) ?_
                refine V_if_le C 100 dX4_write_95 (by decide) (fun h95 => ?_) (fun h95 => ?_)
                · have hf : fOk f = true := by first | exact (wr_n (n := 0) (by decide) h9).1 | exact (wr_n (n := 1) (by decide) h25).1 | exact (wr_n (n := 2) (by decide) h42).1
                  rw [if_pos hf]
                  have hf3 := fNat_l f
                  refine V_aload_n C dX4_write_100 rfl ?_
                  refine gt_X4_value C fk_X4_44 dX4_write_101 ?_
                  refine V_iload_n C dX4_write_104 rfl ?_
                  refine V_iload_n C dX4_write_105 rfl ?_
                  refine V_iload_n C dX4_write_106 rfl ?_
                  refine V_iload C dX4_write_107 rfl ?_
                  refine V_callf (R_S C (c_X4_cell hfl) mi_X4_cell mk_X4_103 rfl (by decide) rfl (Nat.le_of_ble_eq_true rfl) (by decide) dX4_write_109) ?_
                  refine la_m_value C _ rfl (by omega) dX4_write_112 ?_
                  refine V_topi (hR.th.vl (by omega) (by omega) (by omega) hf3) ?_
                  refine V_istore_8 C dX4_write_113 (by decide) ?_
                  refine V_aload_n C dX4_write_115 rfl ?_
                  refine gt_X4_value C fk_X4_44 dX4_write_116 ?_
                  refine V_iload_n C dX4_write_119 rfl ?_
                  refine V_iload_n C dX4_write_120 rfl ?_
                  refine V_iload_n C dX4_write_121 rfl ?_
                  refine V_iload C dX4_write_122 rfl ?_
                  refine V_callf (R_S C (c_X4_cell hfl) mi_X4_cell mk_X4_103 rfl (by decide) rfl (Nat.le_of_ble_eq_true rfl) (by decide) dX4_write_124) ?_
                  refine V_iload C dX4_write_127 rfl ?_
                  refine sa_m_value C _ rfl (by omega) dX4_write_129 ?_
                  refine V_iload C dX4_write_130 rfl ?_
                  have hg : gg = none := hG.trans (by
                    first
                      | exact nr_f h71
                      | exact absurd (h9.symm.trans h25) (by decide)
                      | exact absurd (h9.symm.trans h42) (by decide)
                      | exact absurd (h25.symm.trans h42) (by decide)
                      | (have w := wr_n (n := 0) (by decide) h9
                         have r : rngB (nI (fNat f)) v = _ := (congrArg (fun n => rngB (nI n) v) w.2).trans (show inR v 0 1 = _ from h19)
                         simp [g3_write, gS, gO, h1, h2, h3, w.1, r]; done)
                      | (have w := wr_n (n := 1) (by decide) h25
                         have r : rngB (nI (fNat f)) v = _ := (congrArg (fun n => rngB (nI n) v) w.2).trans (show inR v (-1) 100 = _ from h36)
                         simp [g3_write, gS, gO, h1, h2, h3, w.1, r]; done)
                      | (have w := wr_n (n := 2) (by decide) h42
                         have r : rngB (nI (fNat f)) v = _ := (congrArg (fun n => rngB (nI n) v) w.2).trans (show inR v 0 60 = _ from h53)
                         simp [g3_write, gS, gO, h1, h2, h3, w.1, r]; done)
                      | (have w := wr_no h9 h25 h42
                         simp [g3_write, gS, gO, h1, h2, h3, w]; done))
                  exact V_ireti C hr dX4_write_132 ⟨by rw [hg]; exact rfl, rfl, by rw [hg]; exact (by first | exact up2_2 | exact up2_2.trans up2_2 | rfl)⟩
                · exact absurd h95 (by decide)
              · exact absurd h80 (by decide)
            · refine V_iconst (v := 1) C dX4_write_74 (by decide) ?_
              refine V_goto C 88 dX4_write_75 (by decide) ?_
              refine pt_X4_thrown C fk_X4_59 dX4_write_88 ?_
              refine V_aload_n C dX4_write_91 rfl ?_
              refine gt_X4_thrown C fk_X4_59 dX4_write_92 ?_
              refine V_topi (show _ = (1 : Int32) from rfl) ?_
              refine V_if_le C 100 dX4_write_95 (by decide) (fun h95 => ?_) (fun h95 => ?_)
              · exact absurd h95 (by decide)
              · refine V_iconst (v := 0) C dX4_write_98 (by decide) ?_
                have hg : gg = some eI := hG.trans (by
                  first
                    | exact nr_f h71
                    | exact absurd (h9.symm.trans h25) (by decide)
                    | exact absurd (h9.symm.trans h42) (by decide)
                    | exact absurd (h25.symm.trans h42) (by decide)
                    | (have w := wr_n (n := 0) (by decide) h9
                       have r : rngB (nI (fNat f)) v = _ := (congrArg (fun n => rngB (nI n) v) w.2).trans (show inR v 0 1 = _ from h19)
                       simp [g3_write, gS, gO, h1, h2, h3, w.1, r]; done)
                    | (have w := wr_n (n := 1) (by decide) h25
                       have r : rngB (nI (fNat f)) v = _ := (congrArg (fun n => rngB (nI n) v) w.2).trans (show inR v (-1) 100 = _ from h36)
                       simp [g3_write, gS, gO, h1, h2, h3, w.1, r]; done)
                    | (have w := wr_n (n := 2) (by decide) h42
                       have r : rngB (nI (fNat f)) v = _ := (congrArg (fun n => rngB (nI n) v) w.2).trans (show inR v 0 60 = _ from h53)
                       simp [g3_write, gS, gO, h1, h2, h3, w.1, r]; done)
                    | (have w := wr_no h9 h25 h42
                       simp [g3_write, gS, gO, h1, h2, h3, w]; done))
                exact V_ireti C hr dX4_write_99 ⟨by rw [hg]; exact rfl, rfl, by rw [hg]; exact (by first | exact up2_2 | exact up2_2.trans up2_2 | rfl)⟩
  · refine V_iload C dX4_write_12 rfl ?_
    refine V_iconst (v := 0) C dX4_write_14 (by decide) ?_
    refine V_iconst (v := 1) C dX4_write_15 (by decide) ?_
    refine V_callf (R_S C (c_X4_in hfl) mi_X4_in mk_X4_66 rfl (by decide) rfl (Nat.le_of_ble_eq_true rfl) (by decide) dX4_write_16) ?_
    refine V_ifb_ne C 56 dX4_write_19 (by decide) (fun h19 => ?_) (fun h19 => ?_)
    · refine V_iconst (v := 1) C dX4_write_56 (by decide) ?_
      refine V_goto C 61 dX4_write_57 (by decide) ?_
      refine V_istore_7 C dX4_write_61 (by decide) ?_
      refine V_aload_n C dX4_write_63 rfl ?_
      refine V_aload_n C dX4_write_64 rfl ?_
      refine V_iload_n C dX4_write_65 rfl ?_
      refine V_iload_n C dX4_write_66 rfl ?_
      refine V_iload_n C dX4_write_67 rfl ?_
      refine V_callf (R_V C (c_X4_noRecord hfl hW hI hR) mi_X4_noRecord mk_X4_175 rfl (by omega) rfl (rfl : vwCl[6]? = some (RX4, TX4, 24)) (by decide) rfl (Nat.le_of_ble_eq_true rfl) (by decide) dX4_write_68) ?_
      refine V_ifb_eq C 78 dX4_write_71 (by decide) (fun h71 => ?_) (fun h71 => ?_)
      · obtain ⟨h1, h2, h3⟩ := nr_t h71
        obtain ⟨ut, hut, ute⟩ := ix_of (N := 3) (E := eI) (gO_n.mpr h1) rfl (by decide)
        subst ute
        have tut : tn (nI ut) = ut := tn_nI (by omega)
        try rw [tut]
        obtain ⟨jp, hjp, jpe⟩ := ix_of (E := eI) (gO_n.mpr h2) hW.pe (by omega)
        subst jpe
        have tjp : tn (nI jp) = jp := tn_nI (by omega)
        try rw [tjp]
        obtain ⟨ke, hke, kee⟩ := ix_of (E := eI) (gO_n.mpr h3) hW.ee (by omega)
        subst kee
        have tke : tn (nI ke) = ke := tn_nI (by omega)
        try rw [tke]
        refine V_iload C dX4_write_78 rfl ?_
        refine V_if_ne C 87 dX4_write_80 (by decide) (fun h80 => ?_) (fun h80 => ?_)
        · refine V_iconst (v := 0) C dX4_write_87 (by decide) ?_
          refine pt_X4_thrown C fk_X4_59 dX4_write_88 ?_
          refine V_aload_n C dX4_write_91 rfl ?_
          refine gt_X4_thrown C fk_X4_59 dX4_write_92 ?_
          refine V_topi (show _ = (0 : Int32) from rfl) ?_
          refine V_if_le C 100 dX4_write_95 (by decide) (fun h95 => ?_) (fun h95 => ?_)
          · have hf : fOk f = true := by first | exact (wr_n (n := 0) (by decide) h9).1 | exact (wr_n (n := 1) (by decide) h25).1 | exact (wr_n (n := 2) (by decide) h42).1
            rw [if_pos hf]
            have hf3 := fNat_l f
            refine V_aload_n C dX4_write_100 rfl ?_
            refine gt_X4_value C fk_X4_44 dX4_write_101 ?_
            refine V_iload_n C dX4_write_104 rfl ?_
            refine V_iload_n C dX4_write_105 rfl ?_
            refine V_iload_n C dX4_write_106 rfl ?_
            refine V_iload C dX4_write_107 rfl ?_
            refine V_callf (R_S C (c_X4_cell hfl) mi_X4_cell mk_X4_103 rfl (by decide) rfl (Nat.le_of_ble_eq_true rfl) (by decide) dX4_write_109) ?_
            refine la_m_value C _ rfl (by omega) dX4_write_112 ?_
            refine V_topi (hR.th.vl (by omega) (by omega) (by omega) hf3) ?_
            refine V_istore_8 C dX4_write_113 (by decide) ?_
            refine V_aload_n C dX4_write_115 rfl ?_
            refine gt_X4_value C fk_X4_44 dX4_write_116 ?_
            refine V_iload_n C dX4_write_119 rfl ?_
            refine V_iload_n C dX4_write_120 rfl ?_
            refine V_iload_n C dX4_write_121 rfl ?_
            refine V_iload C dX4_write_122 rfl ?_
            refine V_callf (R_S C (c_X4_cell hfl) mi_X4_cell mk_X4_103 rfl (by decide) rfl (Nat.le_of_ble_eq_true rfl) (by decide) dX4_write_124) ?_
            refine V_iload C dX4_write_127 rfl ?_
            refine sa_m_value C _ rfl (by omega) dX4_write_129 ?_
            refine V_iload C dX4_write_130 rfl ?_
            have hg : gg = none := hG.trans (by
              first
                | exact nr_f h71
                | exact absurd (h9.symm.trans h25) (by decide)
                | exact absurd (h9.symm.trans h42) (by decide)
                | exact absurd (h25.symm.trans h42) (by decide)
                | (have w := wr_n (n := 0) (by decide) h9
                   have r : rngB (nI (fNat f)) v = _ := (congrArg (fun n => rngB (nI n) v) w.2).trans (show inR v 0 1 = _ from h19)
                   simp [g3_write, gS, gO, h1, h2, h3, w.1, r]; done)
                | (have w := wr_n (n := 1) (by decide) h25
                   have r : rngB (nI (fNat f)) v = _ := (congrArg (fun n => rngB (nI n) v) w.2).trans (show inR v (-1) 100 = _ from h36)
                   simp [g3_write, gS, gO, h1, h2, h3, w.1, r]; done)
                | (have w := wr_n (n := 2) (by decide) h42
                   have r : rngB (nI (fNat f)) v = _ := (congrArg (fun n => rngB (nI n) v) w.2).trans (show inR v 0 60 = _ from h53)
                   simp [g3_write, gS, gO, h1, h2, h3, w.1, r]; done)
                | (have w := wr_no h9 h25 h42
                   simp [g3_write, gS, gO, h1, h2, h3, w]; done))
            exact V_ireti C hr dX4_write_132 ⟨by rw [hg]; exact rfl, rfl, by rw [hg]; exact (by first | exact up2_2 | exact up2_2.trans up2_2 | rfl)⟩
          · exact absurd h95 (by decide)
        · exact absurd h80 (by decide)
      · refine V_iconst (v := 1) C dX4_write_74 (by decide) ?_
        refine V_goto C 88 dX4_write_75 (by decide) ?_
        refine pt_X4_thrown C fk_X4_59 dX4_write_88 ?_
        refine V_aload_n C dX4_write_91 rfl ?_
        refine gt_X4_thrown C fk_X4_59 dX4_write_92 ?_
        refine V_topi (show _ = (1 : Int32) from rfl) ?_
        refine V_if_le C 100 dX4_write_95 (by decide) (fun h95 => ?_) (fun h95 => ?_)
        · exact absurd h95 (by decide)
        · refine V_iconst (v := 0) C dX4_write_98 (by decide) ?_
          have hg : gg = some eI := hG.trans (by
            first
              | exact nr_f h71
              | exact absurd (h9.symm.trans h25) (by decide)
              | exact absurd (h9.symm.trans h42) (by decide)
              | exact absurd (h25.symm.trans h42) (by decide)
              | (have w := wr_n (n := 0) (by decide) h9
                 have r : rngB (nI (fNat f)) v = _ := (congrArg (fun n => rngB (nI n) v) w.2).trans (show inR v 0 1 = _ from h19)
                 simp [g3_write, gS, gO, h1, h2, h3, w.1, r]; done)
              | (have w := wr_n (n := 1) (by decide) h25
                 have r : rngB (nI (fNat f)) v = _ := (congrArg (fun n => rngB (nI n) v) w.2).trans (show inR v (-1) 100 = _ from h36)
                 simp [g3_write, gS, gO, h1, h2, h3, w.1, r]; done)
              | (have w := wr_n (n := 2) (by decide) h42
                 have r : rngB (nI (fNat f)) v = _ := (congrArg (fun n => rngB (nI n) v) w.2).trans (show inR v 0 60 = _ from h53)
                 simp [g3_write, gS, gO, h1, h2, h3, w.1, r]; done)
              | (have w := wr_no h9 h25 h42
                 simp [g3_write, gS, gO, h1, h2, h3, w]; done))
          exact V_ireti C hr dX4_write_99 ⟨by rw [hg]; exact rfl, rfl, by rw [hg]; exact (by first | exact up2_2 | exact up2_2.trans up2_2 | rfl)⟩
    · refine V_iload C dX4_write_22 rfl ?_
      refine V_iconst (v := 1) C dX4_write_24 (by decide) ?_
      refine V_icmp_ne C 39 dX4_write_25 (by decide) (fun h25 => ?_) (fun h25 => ?_)
      · refine V_iload C dX4_write_39 rfl ?_
        refine V_iconst (v := 2) C dX4_write_41 (by decide) ?_
        refine V_icmp_ne C 60 dX4_write_42 (by decide) (fun h42 => ?_) (fun h42 => ?_)
        · refine V_iconst (v := 0) C dX4_write_60 (by decide) ?_
          refine V_istore_7 C dX4_write_61 (by decide) ?_
          refine V_aload_n C dX4_write_63 rfl ?_
          refine V_aload_n C dX4_write_64 rfl ?_
          refine V_iload_n C dX4_write_65 rfl ?_
          refine V_iload_n C dX4_write_66 rfl ?_
          refine V_iload_n C dX4_write_67 rfl ?_
          refine V_callf (R_V C (c_X4_noRecord hfl hW hI hR) mi_X4_noRecord mk_X4_175 rfl (by omega) rfl (rfl : vwCl[6]? = some (RX4, TX4, 24)) (by decide) rfl (Nat.le_of_ble_eq_true rfl) (by decide) dX4_write_68) ?_
          refine V_ifb_eq C 78 dX4_write_71 (by decide) (fun h71 => ?_) (fun h71 => ?_)
          · obtain ⟨h1, h2, h3⟩ := nr_t h71
            obtain ⟨ut, hut, ute⟩ := ix_of (N := 3) (E := eI) (gO_n.mpr h1) rfl (by decide)
            subst ute
            have tut : tn (nI ut) = ut := tn_nI (by omega)
            try rw [tut]
            obtain ⟨jp, hjp, jpe⟩ := ix_of (E := eI) (gO_n.mpr h2) hW.pe (by omega)
            subst jpe
            have tjp : tn (nI jp) = jp := tn_nI (by omega)
            try rw [tjp]
            obtain ⟨ke, hke, kee⟩ := ix_of (E := eI) (gO_n.mpr h3) hW.ee (by omega)
            subst kee
            have tke : tn (nI ke) = ke := tn_nI (by omega)
            try rw [tke]
            refine V_iload C dX4_write_78 rfl ?_
            refine V_if_ne C 87 dX4_write_80 (by decide) (fun h80 => ?_) (fun h80 => ?_)
            · exact absurd h80 (by decide)
            · refine V_iconst (v := 2) C dX4_write_83 (by decide) ?_
              refine V_goto C 88 dX4_write_84 (by decide) ?_
              refine pt_X4_thrown C fk_X4_59 dX4_write_88 ?_
              refine V_aload_n C dX4_write_91 rfl ?_
              refine gt_X4_thrown C fk_X4_59 dX4_write_92 ?_
              refine V_topi (show _ = (2 : Int32) from rfl) ?_
              refine V_if_le C 100 dX4_write_95 (by decide) (fun h95 => ?_) (fun h95 => ?_)
              · exact absurd h95 (by decide)
              · refine V_iconst (v := 0) C dX4_write_98 (by decide) ?_
                have hg : gg = some eA := hG.trans (by
                  first
                    | exact nr_f h71
                    | exact absurd (h9.symm.trans h25) (by decide)
                    | exact absurd (h9.symm.trans h42) (by decide)
                    | exact absurd (h25.symm.trans h42) (by decide)
                    | (have w := wr_n (n := 0) (by decide) h9
                       have r : rngB (nI (fNat f)) v = _ := (congrArg (fun n => rngB (nI n) v) w.2).trans (show inR v 0 1 = _ from h19)
                       simp [g3_write, gS, gO, h1, h2, h3, w.1, r]; done)
                    | (have w := wr_n (n := 1) (by decide) h25
                       have r : rngB (nI (fNat f)) v = _ := (congrArg (fun n => rngB (nI n) v) w.2).trans (show inR v (-1) 100 = _ from h36)
                       simp [g3_write, gS, gO, h1, h2, h3, w.1, r]; done)
                    | (have w := wr_n (n := 2) (by decide) h42
                       have r : rngB (nI (fNat f)) v = _ := (congrArg (fun n => rngB (nI n) v) w.2).trans (show inR v 0 60 = _ from h53)
                       simp [g3_write, gS, gO, h1, h2, h3, w.1, r]; done)
                    | (have w := wr_no h9 h25 h42
                       simp [g3_write, gS, gO, h1, h2, h3, w]; done))
                exact V_ireti C hr dX4_write_99 ⟨by rw [hg]; exact rfl, rfl, by rw [hg]; exact (by first | exact up2_2 | exact up2_2.trans up2_2 | rfl)⟩
          · refine V_iconst (v := 1) C dX4_write_74 (by decide) ?_
            refine V_goto C 88 dX4_write_75 (by decide) ?_
            refine pt_X4_thrown C fk_X4_59 dX4_write_88 ?_
            refine V_aload_n C dX4_write_91 rfl ?_
            refine gt_X4_thrown C fk_X4_59 dX4_write_92 ?_
            refine V_topi (show _ = (1 : Int32) from rfl) ?_
            refine V_if_le C 100 dX4_write_95 (by decide) (fun h95 => ?_) (fun h95 => ?_)
            · exact absurd h95 (by decide)
            · refine V_iconst (v := 0) C dX4_write_98 (by decide) ?_
              have hg : gg = some eI := hG.trans (by
                first
                  | exact nr_f h71
                  | exact absurd (h9.symm.trans h25) (by decide)
                  | exact absurd (h9.symm.trans h42) (by decide)
                  | exact absurd (h25.symm.trans h42) (by decide)
                  | (have w := wr_n (n := 0) (by decide) h9
                     have r : rngB (nI (fNat f)) v = _ := (congrArg (fun n => rngB (nI n) v) w.2).trans (show inR v 0 1 = _ from h19)
                     simp [g3_write, gS, gO, h1, h2, h3, w.1, r]; done)
                  | (have w := wr_n (n := 1) (by decide) h25
                     have r : rngB (nI (fNat f)) v = _ := (congrArg (fun n => rngB (nI n) v) w.2).trans (show inR v (-1) 100 = _ from h36)
                     simp [g3_write, gS, gO, h1, h2, h3, w.1, r]; done)
                  | (have w := wr_n (n := 2) (by decide) h42
                     have r : rngB (nI (fNat f)) v = _ := (congrArg (fun n => rngB (nI n) v) w.2).trans (show inR v 0 60 = _ from h53)
                     simp [g3_write, gS, gO, h1, h2, h3, w.1, r]; done)
                  | (have w := wr_no h9 h25 h42
                     simp [g3_write, gS, gO, h1, h2, h3, w]; done))
              exact V_ireti C hr dX4_write_99 ⟨by rw [hg]; exact rfl, rfl, by rw [hg]; exact (by first | exact up2_2 | exact up2_2.trans up2_2 | rfl)⟩
        · refine V_iload C dX4_write_45 rfl ?_
          refine V_iconst (v := 0) C dX4_write_47 (by decide) ?_
          refine V_bipush (v := 60) C dX4_write_48 (by decide) ?_
          refine V_callf (R_S C (c_X4_in hfl) mi_X4_in mk_X4_66 rfl (by decide) rfl (Nat.le_of_ble_eq_true rfl) (by decide) dX4_write_50) ?_
          refine V_ifb_eq C 60 dX4_write_53 (by decide) (fun h53 => ?_) (fun h53 => ?_)
          · refine V_iconst (v := 0) C dX4_write_60 (by decide) ?_
            refine V_istore_7 C dX4_write_61 (by decide) ?_
            refine V_aload_n C dX4_write_63 rfl ?_
            refine V_aload_n C dX4_write_64 rfl ?_
            refine V_iload_n C dX4_write_65 rfl ?_
            refine V_iload_n C dX4_write_66 rfl ?_
            refine V_iload_n C dX4_write_67 rfl ?_
            refine V_callf (R_V C (c_X4_noRecord hfl hW hI hR) mi_X4_noRecord mk_X4_175 rfl (by omega) rfl (rfl : vwCl[6]? = some (RX4, TX4, 24)) (by decide) rfl (Nat.le_of_ble_eq_true rfl) (by decide) dX4_write_68) ?_
            refine V_ifb_eq C 78 dX4_write_71 (by decide) (fun h71 => ?_) (fun h71 => ?_)
            · obtain ⟨h1, h2, h3⟩ := nr_t h71
              obtain ⟨ut, hut, ute⟩ := ix_of (N := 3) (E := eI) (gO_n.mpr h1) rfl (by decide)
              subst ute
              have tut : tn (nI ut) = ut := tn_nI (by omega)
              try rw [tut]
              obtain ⟨jp, hjp, jpe⟩ := ix_of (E := eI) (gO_n.mpr h2) hW.pe (by omega)
              subst jpe
              have tjp : tn (nI jp) = jp := tn_nI (by omega)
              try rw [tjp]
              obtain ⟨ke, hke, kee⟩ := ix_of (E := eI) (gO_n.mpr h3) hW.ee (by omega)
              subst kee
              have tke : tn (nI ke) = ke := tn_nI (by omega)
              try rw [tke]
              refine V_iload C dX4_write_78 rfl ?_
              refine V_if_ne C 87 dX4_write_80 (by decide) (fun h80 => ?_) (fun h80 => ?_)
              · exact absurd h80 (by decide)
              · refine V_iconst (v := 2) C dX4_write_83 (by decide) ?_
                refine V_goto C 88 dX4_write_84 (by decide) ?_
                refine pt_X4_thrown C fk_X4_59 dX4_write_88 ?_
                refine V_aload_n C dX4_write_91 rfl ?_
                refine gt_X4_thrown C fk_X4_59 dX4_write_92 ?_
                refine V_topi (show _ = (2 : Int32) from rfl) ?_
                refine V_if_le C 100 dX4_write_95 (by decide) (fun h95 => ?_) (fun h95 => ?_)
                · exact absurd h95 (by decide)
                · refine V_iconst (v := 0) C dX4_write_98 (by decide) ?_
                  have hg : gg = some eA := hG.trans (by
                    first
                      | exact nr_f h71
                      | exact absurd (h9.symm.trans h25) (by decide)
                      | exact absurd (h9.symm.trans h42) (by decide)
                      | exact absurd (h25.symm.trans h42) (by decide)
                      | (have w := wr_n (n := 0) (by decide) h9
                         have r : rngB (nI (fNat f)) v = _ := (congrArg (fun n => rngB (nI n) v) w.2).trans (show inR v 0 1 = _ from h19)
                         simp [g3_write, gS, gO, h1, h2, h3, w.1, r]; done)
                      | (have w := wr_n (n := 1) (by decide) h25
                         have r : rngB (nI (fNat f)) v = _ := (congrArg (fun n => rngB (nI n) v) w.2).trans (show inR v (-1) 100 = _ from h36)
                         simp [g3_write, gS, gO, h1, h2, h3, w.1, r]; done)
                      | (have w := wr_n (n := 2) (by decide) h42
                         have r : rngB (nI (fNat f)) v = _ := (congrArg (fun n => rngB (nI n) v) w.2).trans (show inR v 0 60 = _ from h53)
                         simp [g3_write, gS, gO, h1, h2, h3, w.1, r]; done)
                      | (have w := wr_no h9 h25 h42
                         simp [g3_write, gS, gO, h1, h2, h3, w]; done))
                  exact V_ireti C hr dX4_write_99 ⟨by rw [hg]; exact rfl, rfl, by rw [hg]; exact (by first | exact up2_2 | exact up2_2.trans up2_2 | rfl)⟩
            · refine V_iconst (v := 1) C dX4_write_74 (by decide) ?_
              refine V_goto C 88 dX4_write_75 (by decide) ?_
              refine pt_X4_thrown C fk_X4_59 dX4_write_88 ?_
              refine V_aload_n C dX4_write_91 rfl ?_
              refine gt_X4_thrown C fk_X4_59 dX4_write_92 ?_
              refine V_topi (show _ = (1 : Int32) from rfl) ?_
              refine V_if_le C 100 dX4_write_95 (by decide) (fun h95 => ?_) (fun h95 => ?_)
              · exact absurd h95 (by decide)
              · refine V_iconst (v := 0) C dX4_write_98 (by decide) ?_
                have hg : gg = some eI := hG.trans (by
                  first
                    | exact nr_f h71
                    | exact absurd (h9.symm.trans h25) (by decide)
                    | exact absurd (h9.symm.trans h42) (by decide)
                    | exact absurd (h25.symm.trans h42) (by decide)
                    | (have w := wr_n (n := 0) (by decide) h9
                       have r : rngB (nI (fNat f)) v = _ := (congrArg (fun n => rngB (nI n) v) w.2).trans (show inR v 0 1 = _ from h19)
                       simp [g3_write, gS, gO, h1, h2, h3, w.1, r]; done)
                    | (have w := wr_n (n := 1) (by decide) h25
                       have r : rngB (nI (fNat f)) v = _ := (congrArg (fun n => rngB (nI n) v) w.2).trans (show inR v (-1) 100 = _ from h36)
                       simp [g3_write, gS, gO, h1, h2, h3, w.1, r]; done)
                    | (have w := wr_n (n := 2) (by decide) h42
                       have r : rngB (nI (fNat f)) v = _ := (congrArg (fun n => rngB (nI n) v) w.2).trans (show inR v 0 60 = _ from h53)
                       simp [g3_write, gS, gO, h1, h2, h3, w.1, r]; done)
                    | (have w := wr_no h9 h25 h42
                       simp [g3_write, gS, gO, h1, h2, h3, w]; done))
                exact V_ireti C hr dX4_write_99 ⟨by rw [hg]; exact rfl, rfl, by rw [hg]; exact (by first | exact up2_2 | exact up2_2.trans up2_2 | rfl)⟩
          · refine V_iconst (v := 1) C dX4_write_56 (by decide) ?_
            refine V_goto C 61 dX4_write_57 (by decide) ?_
            refine V_istore_7 C dX4_write_61 (by decide) ?_
            refine V_aload_n C dX4_write_63 rfl ?_
            refine V_aload_n C dX4_write_64 rfl ?_
            refine V_iload_n C dX4_write_65 rfl ?_
            refine V_iload_n C dX4_write_66 rfl ?_
            refine V_iload_n C dX4_write_67 rfl ?_
            refine V_callf (R_V C (c_X4_noRecord hfl hW hI hR) mi_X4_noRecord mk_X4_175 rfl (by omega) rfl (rfl : vwCl[6]? = some (RX4, TX4, 24)) (by decide) rfl (Nat.le_of_ble_eq_true rfl) (by decide) dX4_write_68) ?_
            refine V_ifb_eq C 78 dX4_write_71 (by decide) (fun h71 => ?_) (fun h71 => ?_)
            · obtain ⟨h1, h2, h3⟩ := nr_t h71
              obtain ⟨ut, hut, ute⟩ := ix_of (N := 3) (E := eI) (gO_n.mpr h1) rfl (by decide)
              subst ute
              have tut : tn (nI ut) = ut := tn_nI (by omega)
              try rw [tut]
              obtain ⟨jp, hjp, jpe⟩ := ix_of (E := eI) (gO_n.mpr h2) hW.pe (by omega)
              subst jpe
              have tjp : tn (nI jp) = jp := tn_nI (by omega)
              try rw [tjp]
              obtain ⟨ke, hke, kee⟩ := ix_of (E := eI) (gO_n.mpr h3) hW.ee (by omega)
              subst kee
              have tke : tn (nI ke) = ke := tn_nI (by omega)
              try rw [tke]
              refine V_iload C dX4_write_78 rfl ?_
              refine V_if_ne C 87 dX4_write_80 (by decide) (fun h80 => ?_) (fun h80 => ?_)
              · refine V_iconst (v := 0) C dX4_write_87 (by decide) ?_
                refine pt_X4_thrown C fk_X4_59 dX4_write_88 ?_
                refine V_aload_n C dX4_write_91 rfl ?_
                refine gt_X4_thrown C fk_X4_59 dX4_write_92 ?_
                refine V_topi (show _ = (0 : Int32) from rfl) ?_
                refine V_if_le C 100 dX4_write_95 (by decide) (fun h95 => ?_) (fun h95 => ?_)
                · have hf : fOk f = true := by first | exact (wr_n (n := 0) (by decide) h9).1 | exact (wr_n (n := 1) (by decide) h25).1 | exact (wr_n (n := 2) (by decide) h42).1
                  rw [if_pos hf]
                  have hf3 := fNat_l f
                  refine V_aload_n C dX4_write_100 rfl ?_
                  refine gt_X4_value C fk_X4_44 dX4_write_101 ?_
                  refine V_iload_n C dX4_write_104 rfl ?_
                  refine V_iload_n C dX4_write_105 rfl ?_
                  refine V_iload_n C dX4_write_106 rfl ?_
                  refine V_iload C dX4_write_107 rfl ?_
                  refine V_callf (R_S C (c_X4_cell hfl) mi_X4_cell mk_X4_103 rfl (by decide) rfl (Nat.le_of_ble_eq_true rfl) (by decide) dX4_write_109) ?_
                  refine la_m_value C _ rfl (by omega) dX4_write_112 ?_
                  refine V_topi (hR.th.vl (by omega) (by omega) (by omega) hf3) ?_
                  refine V_istore_8 C dX4_write_113 (by decide) ?_
                  refine V_aload_n C dX4_write_115 rfl ?_
                  refine gt_X4_value C fk_X4_44 dX4_write_116 ?_
                  refine V_iload_n C dX4_write_119 rfl ?_
                  refine V_iload_n C dX4_write_120 rfl ?_
                  refine V_iload_n C dX4_write_121 rfl ?_
                  refine V_iload C dX4_write_122 rfl ?_
                  refine V_callf (R_S C (c_X4_cell hfl) mi_X4_cell mk_X4_103 rfl (by decide) rfl (Nat.le_of_ble_eq_true rfl) (by decide) dX4_write_124) ?_
                  refine V_iload C dX4_write_127 rfl ?_
                  refine sa_m_value C _ rfl (by omega) dX4_write_129 ?_
                  refine V_iload C dX4_write_130 rfl ?_
                  have hg : gg = none := hG.trans (by
                    first
                      | exact nr_f h71
                      | exact absurd (h9.symm.trans h25) (by decide)
                      | exact absurd (h9.symm.trans h42) (by decide)
                      | exact absurd (h25.symm.trans h42) (by decide)
                      | (have w := wr_n (n := 0) (by decide) h9
                         have r : rngB (nI (fNat f)) v = _ := (congrArg (fun n => rngB (nI n) v) w.2).trans (show inR v 0 1 = _ from h19)
                         simp [g3_write, gS, gO, h1, h2, h3, w.1, r]; done)
                      | (have w := wr_n (n := 1) (by decide) h25
                         have r : rngB (nI (fNat f)) v = _ := (congrArg (fun n => rngB (nI n) v) w.2).trans (show inR v (-1) 100 = _ from h36)
                         simp [g3_write, gS, gO, h1, h2, h3, w.1, r]; done)
                      | (have w := wr_n (n := 2) (by decide) h42
                         have r : rngB (nI (fNat f)) v = _ := (congrArg (fun n => rngB (nI n) v) w.2).trans (show inR v 0 60 = _ from h53)
                         simp [g3_write, gS, gO, h1, h2, h3, w.1, r]; done)
                      | (have w := wr_no h9 h25 h42
                         simp [g3_write, gS, gO, h1, h2, h3, w]; done))
                  exact V_ireti C hr dX4_write_132 ⟨by rw [hg]; exact rfl, rfl, by rw [hg]; exact (by first | exact up2_2 | exact up2_2.trans up2_2 | rfl)⟩
                · exact absurd h95 (by decide)
              · exact absurd h80 (by decide)
            · refine V_iconst (v := 1) C dX4_write_74 (by decide) ?_
              refine V_goto C 88 dX4_write_75 (by decide) ?_
              refine pt_X4_thrown C fk_X4_59 dX4_write_88 ?_
              refine V_aload_n C dX4_write_91 rfl ?_
              refine gt_X4_thrown C fk_X4_59 dX4_write_92 ?_
              refine V_topi (show _ = (1 : Int32) from rfl) ?_
              refine V_if_le C 100 dX4_write_95 (by decide) (fun h95 => ?_) (fun h95 => ?_)
              · exact absurd h95 (by decide)
              · refine V_iconst (v := 0) C dX4_write_98 (by decide) ?_
                have hg : gg = some eI := hG.trans (by
                  first
                    | exact nr_f h71
                    | exact absurd (h9.symm.trans h25) (by decide)
                    | exact absurd (h9.symm.trans h42) (by decide)
                    | exact absurd (h25.symm.trans h42) (by decide)
                    | (have w := wr_n (n := 0) (by decide) h9
                       have r : rngB (nI (fNat f)) v = _ := (congrArg (fun n => rngB (nI n) v) w.2).trans (show inR v 0 1 = _ from h19)
                       simp [g3_write, gS, gO, h1, h2, h3, w.1, r]; done)
                    | (have w := wr_n (n := 1) (by decide) h25
                       have r : rngB (nI (fNat f)) v = _ := (congrArg (fun n => rngB (nI n) v) w.2).trans (show inR v (-1) 100 = _ from h36)
                       simp [g3_write, gS, gO, h1, h2, h3, w.1, r]; done)
                    | (have w := wr_n (n := 2) (by decide) h42
                       have r : rngB (nI (fNat f)) v = _ := (congrArg (fun n => rngB (nI n) v) w.2).trans (show inR v 0 60 = _ from h53)
                       simp [g3_write, gS, gO, h1, h2, h3, w.1, r]; done)
                    | (have w := wr_no h9 h25 h42
                       simp [g3_write, gS, gO, h1, h2, h3, w]; done))
                exact V_ireti C hr dX4_write_99 ⟨by rw [hg]; exact rfl, rfl, by rw [hg]; exact (by first | exact up2_2 | exact up2_2.trans up2_2 | rfl)⟩
      · refine V_iload C dX4_write_28 rfl ?_
        refine V_iconst (v := -1) C dX4_write_30 (by decide) ?_
        refine V_bipush (v := 100) C dX4_write_31 (by decide) ?_
        refine V_callf (R_S C (c_X4_in hfl) mi_X4_in mk_X4_66 rfl (by decide) rfl (Nat.le_of_ble_eq_true rfl) (by decide) dX4_write_33) ?_
        refine V_ifb_ne C 56 dX4_write_36 (by decide) (fun h36 => ?_) (fun h36 => ?_)
        · refine V_iconst (v := 1) C dX4_write_56 (by decide) ?_
          refine V_goto C 61 dX4_write_57 (by decide) ?_
          refine V_istore_7 C dX4_write_61 (by decide) ?_
          refine V_aload_n C dX4_write_63 rfl ?_
          refine V_aload_n C dX4_write_64 rfl ?_
          refine V_iload_n C dX4_write_65 rfl ?_
          refine V_iload_n C dX4_write_66 rfl ?_
          refine V_iload_n C dX4_write_67 rfl ?_
          refine V_callf (R_V C (c_X4_noRecord hfl hW hI hR) mi_X4_noRecord mk_X4_175 rfl (by omega) rfl (rfl : vwCl[6]? = some (RX4, TX4, 24)) (by decide) rfl (Nat.le_of_ble_eq_true rfl) (by decide) dX4_write_68) ?_
          refine V_ifb_eq C 78 dX4_write_71 (by decide) (fun h71 => ?_) (fun h71 => ?_)
          · obtain ⟨h1, h2, h3⟩ := nr_t h71
            obtain ⟨ut, hut, ute⟩ := ix_of (N := 3) (E := eI) (gO_n.mpr h1) rfl (by decide)
            subst ute
            have tut : tn (nI ut) = ut := tn_nI (by omega)
            try rw [tut]
            obtain ⟨jp, hjp, jpe⟩ := ix_of (E := eI) (gO_n.mpr h2) hW.pe (by omega)
            subst jpe
            have tjp : tn (nI jp) = jp := tn_nI (by omega)
            try rw [tjp]
            obtain ⟨ke, hke, kee⟩ := ix_of (E := eI) (gO_n.mpr h3) hW.ee (by omega)
            subst kee
            have tke : tn (nI ke) = ke := tn_nI (by omega)
            try rw [tke]
            refine V_iload C dX4_write_78 rfl ?_
            refine V_if_ne C 87 dX4_write_80 (by decide) (fun h80 => ?_) (fun h80 => ?_)
            · refine V_iconst (v := 0) C dX4_write_87 (by decide) ?_
              refine pt_X4_thrown C fk_X4_59 dX4_write_88 ?_
              refine V_aload_n C dX4_write_91 rfl ?_
              refine gt_X4_thrown C fk_X4_59 dX4_write_92 ?_
              refine V_topi (show _ = (0 : Int32) from rfl) ?_
              refine V_if_le C 100 dX4_write_95 (by decide) (fun h95 => ?_) (fun h95 => ?_)
              · have hf : fOk f = true := by first | exact (wr_n (n := 0) (by decide) h9).1 | exact (wr_n (n := 1) (by decide) h25).1 | exact (wr_n (n := 2) (by decide) h42).1
                rw [if_pos hf]
                have hf3 := fNat_l f
                refine V_aload_n C dX4_write_100 rfl ?_
                refine gt_X4_value C fk_X4_44 dX4_write_101 ?_
                refine V_iload_n C dX4_write_104 rfl ?_
                refine V_iload_n C dX4_write_105 rfl ?_
                refine V_iload_n C dX4_write_106 rfl ?_
                refine V_iload C dX4_write_107 rfl ?_
                refine V_callf (R_S C (c_X4_cell hfl) mi_X4_cell mk_X4_103 rfl (by decide) rfl (Nat.le_of_ble_eq_true rfl) (by decide) dX4_write_109) ?_
                refine la_m_value C _ rfl (by omega) dX4_write_112 ?_
                refine V_topi (hR.th.vl (by omega) (by omega) (by omega) hf3) ?_
                refine V_istore_8 C dX4_write_113 (by decide) ?_
                refine V_aload_n C dX4_write_115 rfl ?_
                refine gt_X4_value C fk_X4_44 dX4_write_116 ?_
                refine V_iload_n C dX4_write_119 rfl ?_
                refine V_iload_n C dX4_write_120 rfl ?_
                refine V_iload_n C dX4_write_121 rfl ?_
                refine V_iload C dX4_write_122 rfl ?_
                refine V_callf (R_S C (c_X4_cell hfl) mi_X4_cell mk_X4_103 rfl (by decide) rfl (Nat.le_of_ble_eq_true rfl) (by decide) dX4_write_124) ?_
                refine V_iload C dX4_write_127 rfl ?_
                refine sa_m_value C _ rfl (by omega) dX4_write_129 ?_
                refine V_iload C dX4_write_130 rfl ?_
                have hg : gg = none := hG.trans (by
                  first
                    | exact nr_f h71
                    | exact absurd (h9.symm.trans h25) (by decide)
                    | exact absurd (h9.symm.trans h42) (by decide)
                    | exact absurd (h25.symm.trans h42) (by decide)
                    | (have w := wr_n (n := 0) (by decide) h9
                       have r : rngB (nI (fNat f)) v = _ := (congrArg (fun n => rngB (nI n) v) w.2).trans (show inR v 0 1 = _ from h19)
                       simp [g3_write, gS, gO, h1, h2, h3, w.1, r]; done)
                    | (have w := wr_n (n := 1) (by decide) h25
                       have r : rngB (nI (fNat f)) v = _ := (congrArg (fun n => rngB (nI n) v) w.2).trans (show inR v (-1) 100 = _ from h36)
                       simp [g3_write, gS, gO, h1, h2, h3, w.1, r]; done)
                    | (have w := wr_n (n := 2) (by decide) h42
                       have r : rngB (nI (fNat f)) v = _ := (congrArg (fun n => rngB (nI n) v) w.2).trans (show inR v 0 60 = _ from h53)
                       simp [g3_write, gS, gO, h1, h2, h3, w.1, r]; done)
                    | (have w := wr_no h9 h25 h42
                       simp [g3_write, gS, gO, h1, h2, h3, w]; done))
                exact V_ireti C hr dX4_write_132 ⟨by rw [hg]; exact rfl, rfl, by rw [hg]; exact (by first | exact up2_2 | exact up2_2.trans up2_2 | rfl)⟩
              · exact absurd h95 (by decide)
            · exact absurd h80 (by decide)
          · refine V_iconst (v := 1) C dX4_write_74 (by decide) ?_
            refine V_goto C 88 dX4_write_75 (by decide) ?_
            refine pt_X4_thrown C fk_X4_59 dX4_write_88 ?_
            refine V_aload_n C dX4_write_91 rfl ?_
            refine gt_X4_thrown C fk_X4_59 dX4_write_92 ?_
            refine V_topi (show _ = (1 : Int32) from rfl) ?_
            refine V_if_le C 100 dX4_write_95 (by decide) (fun h95 => ?_) (fun h95 => ?_)
            · exact absurd h95 (by decide)
            · refine V_iconst (v := 0) C dX4_write_98 (by decide) ?_
              have hg : gg = some eI := hG.trans (by
                first
                  | exact nr_f h71
                  | exact absurd (h9.symm.trans h25) (by decide)
                  | exact absurd (h9.symm.trans h42) (by decide)
                  | exact absurd (h25.symm.trans h42) (by decide)
                  | (have w := wr_n (n := 0) (by decide) h9
                     have r : rngB (nI (fNat f)) v = _ := (congrArg (fun n => rngB (nI n) v) w.2).trans (show inR v 0 1 = _ from h19)
                     simp [g3_write, gS, gO, h1, h2, h3, w.1, r]; done)
                  | (have w := wr_n (n := 1) (by decide) h25
                     have r : rngB (nI (fNat f)) v = _ := (congrArg (fun n => rngB (nI n) v) w.2).trans (show inR v (-1) 100 = _ from h36)
                     simp [g3_write, gS, gO, h1, h2, h3, w.1, r]; done)
                  | (have w := wr_n (n := 2) (by decide) h42
                     have r : rngB (nI (fNat f)) v = _ := (congrArg (fun n => rngB (nI n) v) w.2).trans (show inR v 0 60 = _ from h53)
                     simp [g3_write, gS, gO, h1, h2, h3, w.1, r]; done)
                  | (have w := wr_no h9 h25 h42
                     simp [g3_write, gS, gO, h1, h2, h3, w]; done))
              exact V_ireti C hr dX4_write_99 ⟨by rw [hg]; exact rfl, rfl, by rw [hg]; exact (by first | exact up2_2 | exact up2_2.trans up2_2 | rfl)⟩
        · refine V_iload C dX4_write_39 rfl ?_
          refine V_iconst (v := 2) C dX4_write_41 (by decide) ?_
          refine V_icmp_ne C 60 dX4_write_42 (by decide) (fun h42 => ?_) (fun h42 => ?_)
          · refine V_iconst (v := 0) C dX4_write_60 (by decide) ?_
            refine V_istore_7 C dX4_write_61 (by decide) ?_
            refine V_aload_n C dX4_write_63 rfl ?_
            refine V_aload_n C dX4_write_64 rfl ?_
            refine V_iload_n C dX4_write_65 rfl ?_
            refine V_iload_n C dX4_write_66 rfl ?_
            refine V_iload_n C dX4_write_67 rfl ?_
            refine V_callf (R_V C (c_X4_noRecord hfl hW hI hR) mi_X4_noRecord mk_X4_175 rfl (by omega) rfl (rfl : vwCl[6]? = some (RX4, TX4, 24)) (by decide) rfl (Nat.le_of_ble_eq_true rfl) (by decide) dX4_write_68) ?_
            refine V_ifb_eq C 78 dX4_write_71 (by decide) (fun h71 => ?_) (fun h71 => ?_)
            · obtain ⟨h1, h2, h3⟩ := nr_t h71
              obtain ⟨ut, hut, ute⟩ := ix_of (N := 3) (E := eI) (gO_n.mpr h1) rfl (by decide)
              subst ute
              have tut : tn (nI ut) = ut := tn_nI (by omega)
              try rw [tut]
              obtain ⟨jp, hjp, jpe⟩ := ix_of (E := eI) (gO_n.mpr h2) hW.pe (by omega)
              subst jpe
              have tjp : tn (nI jp) = jp := tn_nI (by omega)
              try rw [tjp]
              obtain ⟨ke, hke, kee⟩ := ix_of (E := eI) (gO_n.mpr h3) hW.ee (by omega)
              subst kee
              have tke : tn (nI ke) = ke := tn_nI (by omega)
              try rw [tke]
              refine V_iload C dX4_write_78 rfl ?_
              refine V_if_ne C 87 dX4_write_80 (by decide) (fun h80 => ?_) (fun h80 => ?_)
              · exact absurd h80 (by decide)
              · refine V_iconst (v := 2) C dX4_write_83 (by decide) ?_
                refine V_goto C 88 dX4_write_84 (by decide) ?_
                refine pt_X4_thrown C fk_X4_59 dX4_write_88 ?_
                refine V_aload_n C dX4_write_91 rfl ?_
                refine gt_X4_thrown C fk_X4_59 dX4_write_92 ?_
                refine V_topi (show _ = (2 : Int32) from rfl) ?_
                refine V_if_le C 100 dX4_write_95 (by decide) (fun h95 => ?_) (fun h95 => ?_)
                · exact absurd h95 (by decide)
                · refine V_iconst (v := 0) C dX4_write_98 (by decide) ?_
                  have hg : gg = some eA := hG.trans (by
                    first
                      | exact nr_f h71
                      | exact absurd (h9.symm.trans h25) (by decide)
                      | exact absurd (h9.symm.trans h42) (by decide)
                      | exact absurd (h25.symm.trans h42) (by decide)
                      | (have w := wr_n (n := 0) (by decide) h9
                         have r : rngB (nI (fNat f)) v = _ := (congrArg (fun n => rngB (nI n) v) w.2).trans (show inR v 0 1 = _ from h19)
                         simp [g3_write, gS, gO, h1, h2, h3, w.1, r]; done)
                      | (have w := wr_n (n := 1) (by decide) h25
                         have r : rngB (nI (fNat f)) v = _ := (congrArg (fun n => rngB (nI n) v) w.2).trans (show inR v (-1) 100 = _ from h36)
                         simp [g3_write, gS, gO, h1, h2, h3, w.1, r]; done)
                      | (have w := wr_n (n := 2) (by decide) h42
                         have r : rngB (nI (fNat f)) v = _ := (congrArg (fun n => rngB (nI n) v) w.2).trans (show inR v 0 60 = _ from h53)
                         simp [g3_write, gS, gO, h1, h2, h3, w.1, r]; done)
                      | (have w := wr_no h9 h25 h42
                         simp [g3_write, gS, gO, h1, h2, h3, w]; done))
                  exact V_ireti C hr dX4_write_99 ⟨by rw [hg]; exact rfl, rfl, by rw [hg]; exact (by first | exact up2_2 | exact up2_2.trans up2_2 | rfl)⟩
            · refine V_iconst (v := 1) C dX4_write_74 (by decide) ?_
              refine V_goto C 88 dX4_write_75 (by decide) ?_
              refine pt_X4_thrown C fk_X4_59 dX4_write_88 ?_
              refine V_aload_n C dX4_write_91 rfl ?_
              refine gt_X4_thrown C fk_X4_59 dX4_write_92 ?_
              refine V_topi (show _ = (1 : Int32) from rfl) ?_
              refine V_if_le C 100 dX4_write_95 (by decide) (fun h95 => ?_) (fun h95 => ?_)
              · exact absurd h95 (by decide)
              · refine V_iconst (v := 0) C dX4_write_98 (by decide) ?_
                have hg : gg = some eI := hG.trans (by
                  first
                    | exact nr_f h71
                    | exact absurd (h9.symm.trans h25) (by decide)
                    | exact absurd (h9.symm.trans h42) (by decide)
                    | exact absurd (h25.symm.trans h42) (by decide)
                    | (have w := wr_n (n := 0) (by decide) h9
                       have r : rngB (nI (fNat f)) v = _ := (congrArg (fun n => rngB (nI n) v) w.2).trans (show inR v 0 1 = _ from h19)
                       simp [g3_write, gS, gO, h1, h2, h3, w.1, r]; done)
                    | (have w := wr_n (n := 1) (by decide) h25
                       have r : rngB (nI (fNat f)) v = _ := (congrArg (fun n => rngB (nI n) v) w.2).trans (show inR v (-1) 100 = _ from h36)
                       simp [g3_write, gS, gO, h1, h2, h3, w.1, r]; done)
                    | (have w := wr_n (n := 2) (by decide) h42
                       have r : rngB (nI (fNat f)) v = _ := (congrArg (fun n => rngB (nI n) v) w.2).trans (show inR v 0 60 = _ from h53)
                       simp [g3_write, gS, gO, h1, h2, h3, w.1, r]; done)
                    | (have w := wr_no h9 h25 h42
                       simp [g3_write, gS, gO, h1, h2, h3, w]; done))
                exact V_ireti C hr dX4_write_99 ⟨by rw [hg]; exact rfl, rfl, by rw [hg]; exact (by first | exact up2_2 | exact up2_2.trans up2_2 | rfl)⟩
          · refine V_iload C dX4_write_45 rfl ?_
            refine V_iconst (v := 0) C dX4_write_47 (by decide) ?_
            refine V_bipush (v := 60) C dX4_write_48 (by decide) ?_
            refine V_callf (R_S C (c_X4_in hfl) mi_X4_in mk_X4_66 rfl (by decide) rfl (Nat.le_of_ble_eq_true rfl) (by decide) dX4_write_50) ?_
            refine V_ifb_eq C 60 dX4_write_53 (by decide) (fun h53 => ?_) (fun h53 => ?_)
            · refine V_iconst (v := 0) C dX4_write_60 (by decide) ?_
              refine V_istore_7 C dX4_write_61 (by decide) ?_
              refine V_aload_n C dX4_write_63 rfl ?_
              refine V_aload_n C dX4_write_64 rfl ?_
              refine V_iload_n C dX4_write_65 rfl ?_
              refine V_iload_n C dX4_write_66 rfl ?_
              refine V_iload_n C dX4_write_67 rfl ?_
              refine V_callf (R_V C (c_X4_noRecord hfl hW hI hR) mi_X4_noRecord mk_X4_175 rfl (by omega) rfl (rfl : vwCl[6]? = some (RX4, TX4, 24)) (by decide) rfl (Nat.le_of_ble_eq_true rfl) (by decide) dX4_write_68) ?_
              refine V_ifb_eq C 78 dX4_write_71 (by decide) (fun h71 => ?_) (fun h71 => ?_)
              · obtain ⟨h1, h2, h3⟩ := nr_t h71
                obtain ⟨ut, hut, ute⟩ := ix_of (N := 3) (E := eI) (gO_n.mpr h1) rfl (by decide)
                subst ute
                have tut : tn (nI ut) = ut := tn_nI (by omega)
                try rw [tut]
                obtain ⟨jp, hjp, jpe⟩ := ix_of (E := eI) (gO_n.mpr h2) hW.pe (by omega)
                subst jpe
                have tjp : tn (nI jp) = jp := tn_nI (by omega)
                try rw [tjp]
                obtain ⟨ke, hke, kee⟩ := ix_of (E := eI) (gO_n.mpr h3) hW.ee (by omega)
                subst kee
                have tke : tn (nI ke) = ke := tn_nI (by omega)
                try rw [tke]
                refine V_iload C dX4_write_78 rfl ?_
                refine V_if_ne C 87 dX4_write_80 (by decide) (fun h80 => ?_) (fun h80 => ?_)
                · exact absurd h80 (by decide)
                · refine V_iconst (v := 2) C dX4_write_83 (by decide) ?_
                  refine V_goto C 88 dX4_write_84 (by decide) ?_
                  refine pt_X4_thrown C fk_X4_59 dX4_write_88 ?_
                  refine V_aload_n C dX4_write_91 rfl ?_
                  refine gt_X4_thrown C fk_X4_59 dX4_write_92 ?_
                  refine V_topi (show _ = (2 : Int32) from rfl) ?_
                  refine V_if_le C 100 dX4_write_95 (by decide) (fun h95 => ?_) (fun h95 => ?_)
                  · exact absurd h95 (by decide)
                  · refine V_iconst (v := 0) C dX4_write_98 (by decide) ?_
                    have hg : gg = some eA := hG.trans (by
                      first
                        | exact nr_f h71
                        | exact absurd (h9.symm.trans h25) (by decide)
                        | exact absurd (h9.symm.trans h42) (by decide)
                        | exact absurd (h25.symm.trans h42) (by decide)
                        | (have w := wr_n (n := 0) (by decide) h9
                           have r : rngB (nI (fNat f)) v = _ := (congrArg (fun n => rngB (nI n) v) w.2).trans (show inR v 0 1 = _ from h19)
                           simp [g3_write, gS, gO, h1, h2, h3, w.1, r]; done)
                        | (have w := wr_n (n := 1) (by decide) h25
                           have r : rngB (nI (fNat f)) v = _ := (congrArg (fun n => rngB (nI n) v) w.2).trans (show inR v (-1) 100 = _ from h36)
                           simp [g3_write, gS, gO, h1, h2, h3, w.1, r]; done)
                        | (have w := wr_n (n := 2) (by decide) h42
                           have r : rngB (nI (fNat f)) v = _ := (congrArg (fun n => rngB (nI n) v) w.2).trans (show inR v 0 60 = _ from h53)
                           simp [g3_write, gS, gO, h1, h2, h3, w.1, r]; done)
                        | (have w := wr_no h9 h25 h42
                           simp [g3_write, gS, gO, h1, h2, h3, w]; done))
                    exact V_ireti C hr dX4_write_99 ⟨by rw [hg]; exact rfl, rfl, by rw [hg]; exact (by first | exact up2_2 | exact up2_2.trans up2_2 | rfl)⟩
              · refine V_iconst (v := 1) C dX4_write_74 (by decide) ?_
                refine V_goto C 88 dX4_write_75 (by decide) ?_
                refine pt_X4_thrown C fk_X4_59 dX4_write_88 ?_
                refine V_aload_n C dX4_write_91 rfl ?_
                refine gt_X4_thrown C fk_X4_59 dX4_write_92 ?_
                refine V_topi (show _ = (1 : Int32) from rfl) ?_
                refine V_if_le C 100 dX4_write_95 (by decide) (fun h95 => ?_) (fun h95 => ?_)
                · exact absurd h95 (by decide)
                · refine V_iconst (v := 0) C dX4_write_98 (by decide) ?_
                  have hg : gg = some eI := hG.trans (by
                    first
                      | exact nr_f h71
                      | exact absurd (h9.symm.trans h25) (by decide)
                      | exact absurd (h9.symm.trans h42) (by decide)
                      | exact absurd (h25.symm.trans h42) (by decide)
                      | (have w := wr_n (n := 0) (by decide) h9
                         have r : rngB (nI (fNat f)) v = _ := (congrArg (fun n => rngB (nI n) v) w.2).trans (show inR v 0 1 = _ from h19)
                         simp [g3_write, gS, gO, h1, h2, h3, w.1, r]; done)
                      | (have w := wr_n (n := 1) (by decide) h25
                         have r : rngB (nI (fNat f)) v = _ := (congrArg (fun n => rngB (nI n) v) w.2).trans (show inR v (-1) 100 = _ from h36)
                         simp [g3_write, gS, gO, h1, h2, h3, w.1, r]; done)
                      | (have w := wr_n (n := 2) (by decide) h42
                         have r : rngB (nI (fNat f)) v = _ := (congrArg (fun n => rngB (nI n) v) w.2).trans (show inR v 0 60 = _ from h53)
                         simp [g3_write, gS, gO, h1, h2, h3, w.1, r]; done)
                      | (have w := wr_no h9 h25 h42
                         simp [g3_write, gS, gO, h1, h2, h3, w]; done))
                  exact V_ireti C hr dX4_write_99 ⟨by rw [hg]; exact rfl, rfl, by rw [hg]; exact (by first | exact up2_2 | exact up2_2.trans up2_2 | rfl)⟩
            · refine V_iconst (v := 1) C dX4_write_56 (by decide) ?_
              refine V_goto C 61 dX4_write_57 (by decide) ?_
              refine V_istore_7 C dX4_write_61 (by decide) ?_
              refine V_aload_n C dX4_write_63 rfl ?_
              refine V_aload_n C dX4_write_64 rfl ?_
              refine V_iload_n C dX4_write_65 rfl ?_
              refine V_iload_n C dX4_write_66 rfl ?_
              refine V_iload_n C dX4_write_67 rfl ?_
              refine V_callf (R_V C (c_X4_noRecord hfl hW hI hR) mi_X4_noRecord mk_X4_175 rfl (by omega) rfl (rfl : vwCl[6]? = some (RX4, TX4, 24)) (by decide) rfl (Nat.le_of_ble_eq_true rfl) (by decide) dX4_write_68) ?_
              refine V_ifb_eq C 78 dX4_write_71 (by decide) (fun h71 => ?_) (fun h71 => ?_)
              · obtain ⟨h1, h2, h3⟩ := nr_t h71
                obtain ⟨ut, hut, ute⟩ := ix_of (N := 3) (E := eI) (gO_n.mpr h1) rfl (by decide)
                subst ute
                have tut : tn (nI ut) = ut := tn_nI (by omega)
                try rw [tut]
                obtain ⟨jp, hjp, jpe⟩ := ix_of (E := eI) (gO_n.mpr h2) hW.pe (by omega)
                subst jpe
                have tjp : tn (nI jp) = jp := tn_nI (by omega)
                try rw [tjp]
                obtain ⟨ke, hke, kee⟩ := ix_of (E := eI) (gO_n.mpr h3) hW.ee (by omega)
                subst kee
                have tke : tn (nI ke) = ke := tn_nI (by omega)
                try rw [tke]
                refine V_iload C dX4_write_78 rfl ?_
                refine V_if_ne C 87 dX4_write_80 (by decide) (fun h80 => ?_) (fun h80 => ?_)
                · refine V_iconst (v := 0) C dX4_write_87 (by decide) ?_
                  refine pt_X4_thrown C fk_X4_59 dX4_write_88 ?_
                  refine V_aload_n C dX4_write_91 rfl ?_
                  refine gt_X4_thrown C fk_X4_59 dX4_write_92 ?_
                  refine V_topi (show _ = (0 : Int32) from rfl) ?_
                  refine V_if_le C 100 dX4_write_95 (by decide) (fun h95 => ?_) (fun h95 => ?_)
                  · have hf : fOk f = true := by first | exact (wr_n (n := 0) (by decide) h9).1 | exact (wr_n (n := 1) (by decide) h25).1 | exact (wr_n (n := 2) (by decide) h42).1
                    rw [if_pos hf]
                    have hf3 := fNat_l f
                    refine V_aload_n C dX4_write_100 rfl ?_
                    refine gt_X4_value C fk_X4_44 dX4_write_101 ?_
                    refine V_iload_n C dX4_write_104 rfl ?_
                    refine V_iload_n C dX4_write_105 rfl ?_
                    refine V_iload_n C dX4_write_106 rfl ?_
                    refine V_iload C dX4_write_107 rfl ?_
                    refine V_callf (R_S C (c_X4_cell hfl) mi_X4_cell mk_X4_103 rfl (by decide) rfl (Nat.le_of_ble_eq_true rfl) (by decide) dX4_write_109) ?_
                    refine la_m_value C _ rfl (by omega) dX4_write_112 ?_
                    refine V_topi (hR.th.vl (by omega) (by omega) (by omega) hf3) ?_
                    refine V_istore_8 C dX4_write_113 (by decide) ?_
                    refine V_aload_n C dX4_write_115 rfl ?_
                    refine gt_X4_value C fk_X4_44 dX4_write_116 ?_
                    refine V_iload_n C dX4_write_119 rfl ?_
                    refine V_iload_n C dX4_write_120 rfl ?_
                    refine V_iload_n C dX4_write_121 rfl ?_
                    refine V_iload C dX4_write_122 rfl ?_
                    refine V_callf (R_S C (c_X4_cell hfl) mi_X4_cell mk_X4_103 rfl (by decide) rfl (Nat.le_of_ble_eq_true rfl) (by decide) dX4_write_124) ?_
                    refine V_iload C dX4_write_127 rfl ?_
                    refine sa_m_value C _ rfl (by omega) dX4_write_129 ?_
                    refine V_iload C dX4_write_130 rfl ?_
                    have hg : gg = none := hG.trans (by
                      first
                        | exact nr_f h71
                        | exact absurd (h9.symm.trans h25) (by decide)
                        | exact absurd (h9.symm.trans h42) (by decide)
                        | exact absurd (h25.symm.trans h42) (by decide)
                        | (have w := wr_n (n := 0) (by decide) h9
                           have r : rngB (nI (fNat f)) v = _ := (congrArg (fun n => rngB (nI n) v) w.2).trans (show inR v 0 1 = _ from h19)
                           simp [g3_write, gS, gO, h1, h2, h3, w.1, r]; done)
                        | (have w := wr_n (n := 1) (by decide) h25
                           have r : rngB (nI (fNat f)) v = _ := (congrArg (fun n => rngB (nI n) v) w.2).trans (show inR v (-1) 100 = _ from h36)
                           simp [g3_write, gS, gO, h1, h2, h3, w.1, r]; done)
                        | (have w := wr_n (n := 2) (by decide) h42
                           have r : rngB (nI (fNat f)) v = _ := (congrArg (fun n => rngB (nI n) v) w.2).trans (show inR v 0 60 = _ from h53)
                           simp [g3_write, gS, gO, h1, h2, h3, w.1, r]; done)
                        | (have w := wr_no h9 h25 h42
                           simp [g3_write, gS, gO, h1, h2, h3, w]; done))
                    exact V_ireti C hr dX4_write_132 ⟨by rw [hg]; exact rfl, rfl, by rw [hg]; exact (by first | exact up2_2 | exact up2_2.trans up2_2 | rfl)⟩
                  · exact absurd h95 (by decide)
                · exact absurd h80 (by decide)
              · refine V_iconst (v := 1) C dX4_write_74 (by decide) ?_
                refine V_goto C 88 dX4_write_75 (by decide) ?_
                refine pt_X4_thrown C fk_X4_59 dX4_write_88 ?_
                refine V_aload_n C dX4_write_91 rfl ?_
                refine gt_X4_thrown C fk_X4_59 dX4_write_92 ?_
                refine V_topi (show _ = (1 : Int32) from rfl) ?_
                refine V_if_le C 100 dX4_write_95 (by decide) (fun h95 => ?_) (fun h95 => ?_)
                · exact absurd h95 (by decide)
                · refine V_iconst (v := 0) C dX4_write_98 (by decide) ?_
                  have hg : gg = some eI := hG.trans (by
                    first
                      | exact nr_f h71
                      | exact absurd (h9.symm.trans h25) (by decide)
                      | exact absurd (h9.symm.trans h42) (by decide)
                      | exact absurd (h25.symm.trans h42) (by decide)
                      | (have w := wr_n (n := 0) (by decide) h9
                         have r : rngB (nI (fNat f)) v = _ := (congrArg (fun n => rngB (nI n) v) w.2).trans (show inR v 0 1 = _ from h19)
                         simp [g3_write, gS, gO, h1, h2, h3, w.1, r]; done)
                      | (have w := wr_n (n := 1) (by decide) h25
                         have r : rngB (nI (fNat f)) v = _ := (congrArg (fun n => rngB (nI n) v) w.2).trans (show inR v (-1) 100 = _ from h36)
                         simp [g3_write, gS, gO, h1, h2, h3, w.1, r]; done)
                      | (have w := wr_n (n := 2) (by decide) h42
                         have r : rngB (nI (fNat f)) v = _ := (congrArg (fun n => rngB (nI n) v) w.2).trans (show inR v 0 60 = _ from h53)
                         simp [g3_write, gS, gO, h1, h2, h3, w.1, r]; done)
                      | (have w := wr_no h9 h25 h42
                         simp [g3_write, gS, gO, h1, h2, h3, w]; done))
                  exact V_ireti C hr dX4_write_99 ⟨by rw [hg]; exact rfl, rfl, by rw [hg]; exact (by first | exact up2_2 | exact up2_2.trans up2_2 | rfl)⟩
set_option maxHeartbeats 4000000 in
set_option maxRecDepth 100000 in
theorem c_X4_owner {l : Launch} {x : Sh} {a b : Mem} {o : Out} (hfl : l.stackTraces = false) {q : Mem} (hW : WC q) (hI : IQ q) (hR : RR q b) {f : Int32} : MG l x yX4_owner cX4_owner 2 (some .int) 6 280 [.ref (x.2.1 70), .int f] a b o (QI x o (FI (rd (gF f) (q 12 (fNat f))) a (up2 b 70 0 (cd [eA] (gF f))))) := by
  refine MG.of (maxL := 2) (ret := (some .int)) hfl (by decide) [some (.ref (x.2.1 70)), some (.int f)] rfl rfl (Nat.le_of_ble_eq_true rfl) ?_
  intro pP eE sS mM argsA belowB methM cC C hr
  have ho12 := hW.ol
  have hp10 := hW.pl
  have he6 := hW.el
  obtain ⟨gg, hG⟩ : ∃ gg, gg = (gF f) := ⟨_, rfl⟩
  rw [← hG]
  refine V_aload_n C dX4_owner_0 rfl ?_
  refine V_iload_n C dX4_owner_1 rfl ?_
  refine V_callf (R_S C (c_X4_fieldOf hfl) mi_X4_fieldOf mk_X4_171 rfl (by decide) rfl (Nat.le_of_ble_eq_true rfl) (by decide) dX4_owner_2) ?_
  refine V_iconst (v := -1) C dX4_owner_5 (by decide) ?_
  refine V_icmp_ne C 13 dX4_owner_6 (by decide) (fun h6 => ?_) (fun h6 => ?_)
  · have hf := fo_t h6
    have hf3 := fNat_l f
    refine V_iconst (v := 0) C dX4_owner_13 (by decide) ?_
    refine pt_X4_thrown C fk_X4_59 dX4_owner_14 ?_
    refine V_aload_n C dX4_owner_17 rfl ?_
    refine gt_X4_thrown C fk_X4_59 dX4_owner_18 ?_
    refine V_topi (show _ = (0 : Int32) from rfl) ?_
    refine V_if_le C 28 dX4_owner_21 (by decide) (fun h21 => ?_) (fun h21 => ?_)
    · refine V_aload_n C dX4_owner_28 rfl ?_
      refine gt_X4_owner C fk_X4_47 dX4_owner_29 ?_
      refine V_iload_n C dX4_owner_32 rfl ?_
      refine V_callf (R_S C (c_X4_fieldOf hfl) mi_X4_fieldOf mk_X4_171 rfl (by decide) rfl (Nat.le_of_ble_eq_true rfl) (by decide) dX4_owner_33) ?_
      rw [if_pos hf]
      refine la_m_owner C _ rfl (by omega) dX4_owner_36 ?_
      refine V_topi (hR.th.ow hf3) ?_
      have hg : gg = none := hG.trans (by simp [gF, gO, hf])
      exact V_ireti C hr dX4_owner_37 ⟨by rw [hg]; exact rfl, rfl, by rw [hg]; exact (by first | exact up2_2 | exact up2_2.trans up2_2 | rfl)⟩
    · exact absurd h21 (by decide)
  · have hf := fo_f h6
    refine V_iconst (v := 1) C dX4_owner_9 (by decide) ?_
    refine V_goto C 14 dX4_owner_10 (by decide) ?_
    refine pt_X4_thrown C fk_X4_59 dX4_owner_14 ?_
    refine V_aload_n C dX4_owner_17 rfl ?_
    refine gt_X4_thrown C fk_X4_59 dX4_owner_18 ?_
    refine V_topi (show _ = (1 : Int32) from rfl) ?_
    refine V_if_le C 28 dX4_owner_21 (by decide) (fun h21 => ?_) (fun h21 => ?_)
    · exact absurd h21 (by decide)
    · refine V_iconst (v := 0) C dX4_owner_24 (by decide) ?_
      refine V_goto C 37 dX4_owner_25 (by decide) ?_
      have hg : gg = some eA := hG.trans (by simp [gF, gO, hf])
      exact V_ireti C hr dX4_owner_37 ⟨by rw [hg]; exact rfl, rfl, by rw [hg]; exact (by first | exact up2_2 | exact up2_2.trans up2_2 | rfl)⟩
set_option maxHeartbeats 4000000 in
set_option maxRecDepth 100000 in
theorem c_X4_setOwner {l : Launch} {x : Sh} {a b : Mem} {o : Out} (hfl : l.stackTraces = false) {q : Mem} (hW : WC q) (hI : IQ q) (hR : RR q b) {f t : Int32} : MG l x yX4_setOwner cX4_setOwner 6 (some .int) 6 280 [.ref (x.2.1 70), .int f, .int t] a b o (QI x o (FI (rd (g3_setOwner q f t) (q 12 (fNat f))) a (mm [eA, eI, eU] (g3_setOwner q f t) b (up2 (up2 b 70 0 0) 83 (fNat f) t)))) := by
  refine MG.of (maxL := 6) (ret := (some .int)) hfl (by decide) [some (.ref (x.2.1 70)), some (.int f), some (.int t), none, none, none] rfl rfl (Nat.le_of_ble_eq_true rfl) ?_
  intro pP eE sS mM argsA belowB methM cC C hr
  have ho12 := hW.ol
  have hp10 := hW.pl
  have he6 := hW.el
  obtain ⟨gg, hG⟩ : ∃ gg, gg = (g3_setOwner q f t) := ⟨_, rfl⟩
  rw [← hG]
  refine V_iload_n C dX4_setOwner_0 rfl ?_
  refine V_callf (R_S C (c_X4_fieldOf hfl) mi_X4_fieldOf mk_X4_171 rfl (by decide) rfl (Nat.le_of_ble_eq_true rfl) (by decide) dX4_setOwner_1) ?_
  refine V_istore_n3 C dX4_setOwner_4 (by decide) ?_
  refine V_aload_n C dX4_setOwner_5 rfl ?_
  refine V_iload_n C dX4_setOwner_6 rfl ?_
  refine V_iconst (v := -1) C dX4_setOwner_7 (by decide) ?_
  refine V_icmp_ne C 15 dX4_setOwner_8 (by decide) (fun h8 => ?_) (fun h8 => ?_)
  · have hf := fo_t h8
    rw [if_pos hf]
    have hf3 := fNat_l f
    have ho2 := hW.owl hf3
    refine V_iload_n C dX4_setOwner_15 rfl ?_
    refine V_callf (R_S C (c_X4_isStore hfl) mi_X4_isStore mk_X4_168 rfl (by decide) rfl (Nat.le_of_ble_eq_true rfl) (by decide) dX4_setOwner_16) ?_
    refine V_ifb_ne C 26 dX4_setOwner_19 (by decide) (fun h19 => ?_) (fun h19 => ?_)
    · obtain ⟨ut, hut, ute⟩ := ix_of (N := 3) (E := eI) (gO_n.mpr h19) rfl (by decide)
      subst ute
      have tut : tn (nI ut) = ut := tn_nI (by omega)
      try rw [tut]
      refine V_iconst (v := 0) C dX4_setOwner_26 (by decide) ?_
      refine pt_X4_thrown C fk_X4_59 dX4_setOwner_27 ?_
      refine V_iconst (v := nI 0) C dX4_setOwner_30 (by decide) ?_
      refine V_istore_4 C dX4_setOwner_31 (by decide) ?_
      have L33 : ∀ (fuel : Nat) (k : Nat), k ≤ nP q → (∀ c, c < k * 6 → dif q (ow q (fNat f) * 3 + fNat f) (ut * 3 + fNat f) c = false) → nP q - k < fuel → VV pP l eE ({ frames := 6, cells := 0, slots := 0, locals := 280 } : Room) sS mM argsA belowB methM cC (MQ belowB (QI x o (FI (rd gg (q 12 (fNat f))) a (mm [eA, eI, eU] gg b (up2 (up2 b 70 0 0) 83 (fNat f) (nI ut)))) sS.heap.size) argsA sS 0 0 (AW x sS.heap.size)) x 6 a (up2 b 70 0 0) o 0 0 33 [some (.ref (x.2.1 70)), some (.int f), some (.int (nI ut)), some (.int (nI (fNat f))), some (.int (nI k)), none] [] := by
        intro fuel
        induction fuel with
        | zero => intro k hk hc hm; exact absurd hm (Nat.not_lt_zero _)
        | succ fuel ih33 =>
          intro k hk hc hm
          refine V_iload C dX4_setOwner_33 rfl ?_
          refine V_aload_n C dX4_setOwner_35 rfl ?_
          refine gt_X4_pupils C fk_X4_63 dX4_setOwner_36 ?_
          refine V_topi (hR.th.c3.trans hW.pe) ?_
          refine V_lt C 125 dX4_setOwner_39 (by decide) (by omega) (by omega) (fun h39 => ?_) (fun h39 => ?_)
          · try (have e9 : k = nP q := by omega
                 subst e9
                 have q7 : anyN (dif q (ow q (fNat f) * 3 + fNat f) (ut * 3 + fNat f)) 60 = false := anyN_f.mpr (dif_all hI hf3 (by omega) (by omega) hc))
            refine V_aload_n C dX4_setOwner_125 rfl ?_
            refine gt_X4_thrown C fk_X4_59 dX4_setOwner_126 ?_
            refine V_topi (show _ = (0 : Int32) from rfl) ?_
            refine V_if_le C 134 dX4_setOwner_129 (by decide) (fun h129 => ?_) (fun h129 => ?_)
            · refine V_aload_n C dX4_setOwner_134 rfl ?_
              refine gt_X4_owner C fk_X4_47 dX4_setOwner_135 ?_
              refine V_iload_n C dX4_setOwner_138 rfl ?_
              refine la_m_owner C _ rfl (by omega) dX4_setOwner_139 ?_
              refine V_topi (hR.th.ow hf3) ?_
              refine V_istore_4 C dX4_setOwner_140 (by decide) ?_
              refine V_aload_n C dX4_setOwner_142 rfl ?_
              refine gt_X4_owner C fk_X4_47 dX4_setOwner_143 ?_
              refine V_iload_n C dX4_setOwner_146 rfl ?_
              refine V_iload_n C dX4_setOwner_147 rfl ?_
              refine sa_m_owner C _ rfl (by omega) dX4_setOwner_148 ?_
              refine V_iload C dX4_setOwner_149 rfl ?_
              have hg : gg = none := hG.trans (by first | (simp [g3_setOwner, gF, gS, gO, hf]; done) | (simp [g3_setOwner, gF, gT, gS, gO, hf, h19]; done) | (simp [g3_setOwner, gF, gT, gS, gO, hf, h19, tut, q7]; done))
              exact V_ireti C hr dX4_setOwner_151 ⟨by rw [hg]; exact rfl, rfl, by rw [hg]; exact (by first | exact up2_2 | exact up2_2.trans up2_2 | rfl)⟩
            · exact absurd h129 (by decide)
          · refine V_aload_n C dX4_setOwner_42 rfl ?_
            refine gt_X4_thrown C fk_X4_59 dX4_setOwner_43 ?_
            refine V_topi (show _ = (0 : Int32) from rfl) ?_
            refine V_if_ne C 125 dX4_setOwner_46 (by decide) (fun h46 => ?_) (fun h46 => ?_)
            · exact absurd h46 (by decide)
            · refine V_iconst (v := nI 0) C dX4_setOwner_49 (by decide) ?_
              refine V_istore_5 C dX4_setOwner_50 (by decide) ?_
              have L52 : ∀ (fuel : Nat) (e : Nat), e ≤ nE q → (∀ c, c < k * 6 + e → dif q (ow q (fNat f) * 3 + fNat f) (ut * 3 + fNat f) c = false) → nE q - e < fuel → VV pP l eE ({ frames := 6, cells := 0, slots := 0, locals := 280 } : Room) sS mM argsA belowB methM cC (MQ belowB (QI x o (FI (rd gg (q 12 (fNat f))) a (mm [eA, eI, eU] gg b (up2 (up2 b 70 0 0) 83 (fNat f) (nI ut)))) sS.heap.size) argsA sS 0 0 (AW x sS.heap.size)) x 6 a (up2 b 70 0 0) o 0 0 52 [some (.ref (x.2.1 70)), some (.int f), some (.int (nI ut)), some (.int (nI (fNat f))), some (.int (nI k)), some (.int (nI e))] [] := by
                intro fuel
                induction fuel with
                | zero => intro e he hce hm; exact absurd hm (Nat.not_lt_zero _)
                | succ fuel ih52 =>
                  intro e he hce hm
                  refine V_iload C dX4_setOwner_52 rfl ?_
                  refine V_aload_n C dX4_setOwner_54 rfl ?_
                  refine gt_X4_exams C fk_X4_70 dX4_setOwner_55 ?_
                  refine V_topi (hR.th.c2.trans hW.ee) ?_
                  refine V_lt C 119 dX4_setOwner_58 (by decide) (by omega) (by omega) (fun h58 => ?_) (fun h58 => ?_)
                  · try (have e8 : e = nE q := by omega
                         subst e8)
                    refine V_iinc_4 C _ dX4_setOwner_119 (nI_1 _) (by decide) ?_
                    refine V_goto C 33 dX4_setOwner_122 (by decide) ?_
                    refine V_forget (lvLe.same (lvLe.same (lvLe.same (lvLe.same (lvLe.same (lvLe.drop lvLe.nil)))))) ?_
                    exact ih33 (k + 1) (by omega) (dif_row hI (by omega) hf3 (by omega) (by omega) hce) (by omega)
                  · refine V_aload_n C dX4_setOwner_61 rfl ?_
                    refine gt_X4_thrown C fk_X4_59 dX4_setOwner_62 ?_
                    refine V_topi (show _ = (0 : Int32) from rfl) ?_
                    refine V_if_ne C 119 dX4_setOwner_65 (by decide) (fun h65 => ?_) (fun h65 => ?_)
                    · exact absurd h65 (by decide)
                    · refine V_aload_n C dX4_setOwner_68 rfl ?_
                      refine V_aload_n C dX4_setOwner_69 rfl ?_
                      refine gt_X4_value C fk_X4_44 dX4_setOwner_70 ?_
                      refine V_iload_n C dX4_setOwner_73 rfl ?_
                      refine V_iload C dX4_setOwner_74 rfl ?_
                      refine V_iload C dX4_setOwner_76 rfl ?_
                      refine V_iload_n C dX4_setOwner_78 rfl ?_
                      refine V_callf (R_S C (c_X4_cell hfl) mi_X4_cell mk_X4_103 rfl (by decide) rfl (Nat.le_of_ble_eq_true rfl) (by decide) dX4_setOwner_79) ?_
                      refine la_m_value C _ rfl (by omega) dX4_setOwner_82 ?_
                      refine V_topi (hR.th.vl (by omega) (by omega) (by omega) hf3) ?_
                      refine V_aload_n C dX4_setOwner_83 rfl ?_
                      refine gt_X4_value C fk_X4_44 dX4_setOwner_84 ?_
                      refine V_aload_n C dX4_setOwner_87 rfl ?_
                      refine gt_X4_owner C fk_X4_47 dX4_setOwner_88 ?_
                      refine V_iload_n C dX4_setOwner_91 rfl ?_
                      refine la_m_owner C _ rfl (by omega) dX4_setOwner_92 ?_
                      refine V_topi ((hR.th.ow hf3).trans (hW.owe hf3)) ?_
                      refine V_iload C dX4_setOwner_93 rfl ?_
                      refine V_iload C dX4_setOwner_95 rfl ?_
                      refine V_iload_n C dX4_setOwner_97 rfl ?_
                      refine V_callf (R_S C (c_X4_cell hfl) mi_X4_cell mk_X4_103 rfl (by decide) rfl (Nat.le_of_ble_eq_true rfl) (by decide) dX4_setOwner_98) ?_
                      refine la_m_value C _ rfl (by omega) dX4_setOwner_101 ?_
                      refine V_topi (hR.th.vl (by omega) (by omega) (by omega) hf3) ?_
                      refine V_icmp_ne C 109 dX4_setOwner_102 (by decide) (fun h102 => ?_) (fun h102 => ?_)
                      · have q7 : anyN (dif q (ow q (fNat f) * 3 + fNat f) (ut * 3 + fNat f)) 60 = true := anyN_t (i := k * 6 + e) (by omega) (decide_eq_true h102)
                        refine V_iconst (v := 3) C dX4_setOwner_109 (by decide) ?_
                        refine pt_X4_thrown C fk_X4_59 dX4_setOwner_110 ?_
                        refine V_iinc_5 C _ dX4_setOwner_113 (nI_1 _) (by decide) ?_
                        refine V_goto C 52 dX4_setOwner_116 (by decide) ?_
                        refine V_iload C dX4_setOwner_52 rfl ?_
                        refine V_aload_n C dX4_setOwner_54 rfl ?_
                        refine gt_X4_exams C fk_X4_70 dX4_setOwner_55 ?_
                        refine V_topi (hR.th.c2.trans hW.ee) ?_
                        refine V_lt C 119 dX4_setOwner_58 (by decide) (by omega) (by omega) (fun h58 => ?_) (fun h58 => ?_)
                        · try (have e8 : e = nE q := by omega
                               subst e8)
                          refine V_iinc_4 C _ dX4_setOwner_119 (nI_1 _) (by decide) ?_
                          refine V_goto C 33 dX4_setOwner_122 (by decide) ?_
                          refine V_iload C dX4_setOwner_33 rfl ?_
                          refine V_aload_n C dX4_setOwner_35 rfl ?_
                          refine gt_X4_pupils C fk_X4_63 dX4_setOwner_36 ?_
                          refine V_topi (hR.th.c3.trans hW.pe) ?_
                          refine V_lt C 125 dX4_setOwner_39 (by decide) (by omega) (by omega) (fun h39 => ?_) (fun h39 => ?_)
                          · try (have e9 : k = nP q := by omega
                                 subst e9
                                 have q7 : anyN (dif q (ow q (fNat f) * 3 + fNat f) (ut * 3 + fNat f)) 60 = false := anyN_f.mpr (dif_all hI hf3 (by omega) (by omega) hc))
                            refine V_aload_n C dX4_setOwner_125 rfl ?_
                            refine gt_X4_thrown C fk_X4_59 dX4_setOwner_126 ?_
                            refine V_topi (show _ = (3 : Int32) from rfl) ?_
                            refine V_if_le C 134 dX4_setOwner_129 (by decide) (fun h129 => ?_) (fun h129 => ?_)
                            · exact absurd h129 (by decide)
                            · refine V_iconst (v := 0) C dX4_setOwner_132 (by decide) ?_
                              have hg : gg = some eU := hG.trans (by first | (simp [g3_setOwner, gF, gS, gO, hf]; done) | (simp [g3_setOwner, gF, gT, gS, gO, hf, h19]; done) | (simp [g3_setOwner, gF, gT, gS, gO, hf, h19, tut, q7]; done))
                              exact V_ireti C hr dX4_setOwner_133 ⟨by rw [hg]; exact rfl, rfl, by rw [hg]; exact (by first | exact up2_2 | exact up2_2.trans up2_2 | rfl)⟩
                          · refine V_aload_n C dX4_setOwner_42 rfl ?_
                            refine gt_X4_thrown C fk_X4_59 dX4_setOwner_43 ?_
                            refine V_topi (show _ = (3 : Int32) from rfl) ?_
                            refine V_if_ne C 125 dX4_setOwner_46 (by decide) (fun h46 => ?_) (fun h46 => ?_)
                            · refine V_aload_n C dX4_setOwner_125 rfl ?_
                              refine gt_X4_thrown C fk_X4_59 dX4_setOwner_126 ?_
                              refine V_topi (show _ = (3 : Int32) from rfl) ?_
                              refine V_if_le C 134 dX4_setOwner_129 (by decide) (fun h129 => ?_) (fun h129 => ?_)
                              · exact absurd h129 (by decide)
                              · refine V_iconst (v := 0) C dX4_setOwner_132 (by decide) ?_
                                have hg : gg = some eU := hG.trans (by first | (simp [g3_setOwner, gF, gS, gO, hf]; done) | (simp [g3_setOwner, gF, gT, gS, gO, hf, h19]; done) | (simp [g3_setOwner, gF, gT, gS, gO, hf, h19, tut, q7]; done))
                                exact V_ireti C hr dX4_setOwner_133 ⟨by rw [hg]; exact rfl, rfl, by rw [hg]; exact (by first | exact up2_2 | exact up2_2.trans up2_2 | rfl)⟩
                            · exact absurd h46 (by decide)
                        · refine V_aload_n C dX4_setOwner_61 rfl ?_
                          refine gt_X4_thrown C fk_X4_59 dX4_setOwner_62 ?_
                          refine V_topi (show _ = (3 : Int32) from rfl) ?_
                          refine V_if_ne C 119 dX4_setOwner_65 (by decide) (fun h65 => ?_) (fun h65 => ?_)
                          · refine V_iinc_4 C _ dX4_setOwner_119 (nI_1 _) (by decide) ?_
                            refine V_goto C 33 dX4_setOwner_122 (by decide) ?_
                            refine V_iload C dX4_setOwner_33 rfl ?_
                            refine V_aload_n C dX4_setOwner_35 rfl ?_
                            refine gt_X4_pupils C fk_X4_63 dX4_setOwner_36 ?_
                            refine V_topi (hR.th.c3.trans hW.pe) ?_
                            refine V_lt C 125 dX4_setOwner_39 (by decide) (by omega) (by omega) (fun h39 => ?_) (fun h39 => ?_)
                            · try (have e9 : k = nP q := by omega
                                   subst e9
                                   have q7 : anyN (dif q (ow q (fNat f) * 3 + fNat f) (ut * 3 + fNat f)) 60 = false := anyN_f.mpr (dif_all hI hf3 (by omega) (by omega) hc))
                              refine V_aload_n C dX4_setOwner_125 rfl ?_
                              refine gt_X4_thrown C fk_X4_59 dX4_setOwner_126 ?_
                              refine V_topi (show _ = (3 : Int32) from rfl) ?_
                              refine V_if_le C 134 dX4_setOwner_129 (by decide) (fun h129 => ?_) (fun h129 => ?_)
                              · exact absurd h129 (by decide)
                              · refine V_iconst (v := 0) C dX4_setOwner_132 (by decide) ?_
                                have hg : gg = some eU := hG.trans (by first | (simp [g3_setOwner, gF, gS, gO, hf]; done) | (simp [g3_setOwner, gF, gT, gS, gO, hf, h19]; done) | (simp [g3_setOwner, gF, gT, gS, gO, hf, h19, tut, q7]; done))
                                exact V_ireti C hr dX4_setOwner_133 ⟨by rw [hg]; exact rfl, rfl, by rw [hg]; exact (by first | exact up2_2 | exact up2_2.trans up2_2 | rfl)⟩
                            · refine V_aload_n C dX4_setOwner_42 rfl ?_
                              refine gt_X4_thrown C fk_X4_59 dX4_setOwner_43 ?_
                              refine V_topi (show _ = (3 : Int32) from rfl) ?_
                              refine V_if_ne C 125 dX4_setOwner_46 (by decide) (fun h46 => ?_) (fun h46 => ?_)
                              · refine V_aload_n C dX4_setOwner_125 rfl ?_
                                refine gt_X4_thrown C fk_X4_59 dX4_setOwner_126 ?_
                                refine V_topi (show _ = (3 : Int32) from rfl) ?_
                                refine V_if_le C 134 dX4_setOwner_129 (by decide) (fun h129 => ?_) (fun h129 => ?_)
                                · exact absurd h129 (by decide)
                                · refine V_iconst (v := 0) C dX4_setOwner_132 (by decide) ?_
                                  have hg : gg = some eU := hG.trans (by first | (simp [g3_setOwner, gF, gS, gO, hf]; done) | (simp [g3_setOwner, gF, gT, gS, gO, hf, h19]; done) | (simp [g3_setOwner, gF, gT, gS, gO, hf, h19, tut, q7]; done))
                                  exact V_ireti C hr dX4_setOwner_133 ⟨by rw [hg]; exact rfl, rfl, by rw [hg]; exact (by first | exact up2_2 | exact up2_2.trans up2_2 | rfl)⟩
                              · exact absurd h46 (by decide)
                          · exact absurd h65 (by decide)
                      · refine V_iconst (v := 0) C dX4_setOwner_105 (by decide) ?_
                        refine V_goto C 110 dX4_setOwner_106 (by decide) ?_
                        refine pt_X4_thrown C fk_X4_59 dX4_setOwner_110 ?_
                        refine V_iinc_5 C _ dX4_setOwner_113 (nI_1 _) (by decide) ?_
                        refine V_goto C 52 dX4_setOwner_116 (by decide) ?_
                        refine V_eqa rfl up2_2 ?_
                        exact ih52 (e + 1) (by omega) (dif_s hce h102) (by omega)
              exact L52 _ 0 (Nat.zero_le _) hc (Nat.lt_succ_self _)
      exact L33 _ 0 (Nat.zero_le _) (fun c hc => absurd hc (by omega)) (Nat.lt_succ_self _)
    · refine V_iconst (v := 2) C dX4_setOwner_22 (by decide) ?_
      refine V_goto C 27 dX4_setOwner_23 (by decide) ?_
      refine pt_X4_thrown C fk_X4_59 dX4_setOwner_27 ?_
      refine V_iconst (v := nI 0) C dX4_setOwner_30 (by decide) ?_
      refine V_istore_4 C dX4_setOwner_31 (by decide) ?_
      refine V_iload C dX4_setOwner_33 rfl ?_
      refine V_aload_n C dX4_setOwner_35 rfl ?_
      refine gt_X4_pupils C fk_X4_63 dX4_setOwner_36 ?_
      refine V_topi (hR.th.c3.trans hW.pe) ?_
      refine V_lt C 125 dX4_setOwner_39 (by decide) (by omega) (by omega) (fun h39 => ?_) (fun h39 => ?_)
      · try (have e9 : k = nP q := by omega
             subst e9
             have q7 : anyN (dif q (ow q (fNat f) * 3 + fNat f) (ut * 3 + fNat f)) 60 = false := anyN_f.mpr (dif_all hI hf3 (by omega) (by omega) hc))
        refine V_aload_n C dX4_setOwner_125 rfl ?_
        refine gt_X4_thrown C fk_X4_59 dX4_setOwner_126 ?_
        refine V_topi (show _ = (2 : Int32) from rfl) ?_
        refine V_if_le C 134 dX4_setOwner_129 (by decide) (fun h129 => ?_) (fun h129 => ?_)
        · exact absurd h129 (by decide)
        · refine V_iconst (v := 0) C dX4_setOwner_132 (by decide) ?_
          have hg : gg = some eI := hG.trans (by first | (simp [g3_setOwner, gF, gS, gO, hf]; done) | (simp [g3_setOwner, gF, gT, gS, gO, hf, h19]; done) | (simp [g3_setOwner, gF, gT, gS, gO, hf, h19, tut, q7]; done))
          exact V_ireti C hr dX4_setOwner_133 ⟨by rw [hg]; exact rfl, rfl, by rw [hg]; exact (by first | exact up2_2 | exact up2_2.trans up2_2 | rfl)⟩
      · refine V_aload_n C dX4_setOwner_42 rfl ?_
        refine gt_X4_thrown C fk_X4_59 dX4_setOwner_43 ?_
        refine V_topi (show _ = (2 : Int32) from rfl) ?_
        refine V_if_ne C 125 dX4_setOwner_46 (by decide) (fun h46 => ?_) (fun h46 => ?_)
        · refine V_aload_n C dX4_setOwner_125 rfl ?_
          refine gt_X4_thrown C fk_X4_59 dX4_setOwner_126 ?_
          refine V_topi (show _ = (2 : Int32) from rfl) ?_
          refine V_if_le C 134 dX4_setOwner_129 (by decide) (fun h129 => ?_) (fun h129 => ?_)
          · exact absurd h129 (by decide)
          · refine V_iconst (v := 0) C dX4_setOwner_132 (by decide) ?_
            have hg : gg = some eI := hG.trans (by first | (simp [g3_setOwner, gF, gS, gO, hf]; done) | (simp [g3_setOwner, gF, gT, gS, gO, hf, h19]; done) | (simp [g3_setOwner, gF, gT, gS, gO, hf, h19, tut, q7]; done))
            exact V_ireti C hr dX4_setOwner_133 ⟨by rw [hg]; exact rfl, rfl, by rw [hg]; exact (by first | exact up2_2 | exact up2_2.trans up2_2 | rfl)⟩
        · exact absurd h46 (by decide)
  · have hf := fo_f h8
    refine V_iconst (v := 1) C dX4_setOwner_11 (by decide) ?_
    refine V_goto C 27 dX4_setOwner_12 (by decide) ?_
    refine pt_X4_thrown C fk_X4_59 dX4_setOwner_27 ?_
    refine V_iconst (v := nI 0) C dX4_setOwner_30 (by decide) ?_
    refine V_istore_4 C dX4_setOwner_31 (by decide) ?_
    refine V_iload C dX4_setOwner_33 rfl ?_
    refine V_aload_n C dX4_setOwner_35 rfl ?_
    refine gt_X4_pupils C fk_X4_63 dX4_setOwner_36 ?_
    refine V_topi (hR.th.c3.trans hW.pe) ?_
    refine V_lt C 125 dX4_setOwner_39 (by decide) (by omega) (by omega) (fun h39 => ?_) (fun h39 => ?_)
    · try (have e9 : k = nP q := by omega
           subst e9
           have q7 : anyN (dif q (ow q (fNat f) * 3 + fNat f) (ut * 3 + fNat f)) 60 = false := anyN_f.mpr (dif_all hI hf3 (by omega) (by omega) hc))
      refine V_aload_n C dX4_setOwner_125 rfl ?_
      refine gt_X4_thrown C fk_X4_59 dX4_setOwner_126 ?_
      refine V_topi (show _ = (1 : Int32) from rfl) ?_
      refine V_if_le C 134 dX4_setOwner_129 (by decide) (fun h129 => ?_) (fun h129 => ?_)
      · exact absurd h129 (by decide)
      · refine V_iconst (v := 0) C dX4_setOwner_132 (by decide) ?_
        have hg : gg = some eA := hG.trans (by first | (simp [g3_setOwner, gF, gS, gO, hf]; done) | (simp [g3_setOwner, gF, gT, gS, gO, hf, h19]; done) | (simp [g3_setOwner, gF, gT, gS, gO, hf, h19, tut, q7]; done))
        exact V_ireti C hr dX4_setOwner_133 ⟨by rw [hg]; exact rfl, rfl, by rw [hg]; exact (by first | exact up2_2 | exact up2_2.trans up2_2 | rfl)⟩
    · refine V_aload_n C dX4_setOwner_42 rfl ?_
      refine gt_X4_thrown C fk_X4_59 dX4_setOwner_43 ?_
      refine V_topi (show _ = (1 : Int32) from rfl) ?_
      refine V_if_ne C 125 dX4_setOwner_46 (by decide) (fun h46 => ?_) (fun h46 => ?_)
      · refine V_aload_n C dX4_setOwner_125 rfl ?_
        refine gt_X4_thrown C fk_X4_59 dX4_setOwner_126 ?_
        refine V_topi (show _ = (1 : Int32) from rfl) ?_
        refine V_if_le C 134 dX4_setOwner_129 (by decide) (fun h129 => ?_) (fun h129 => ?_)
        · exact absurd h129 (by decide)
        · refine V_iconst (v := 0) C dX4_setOwner_132 (by decide) ?_
          have hg : gg = some eA := hG.trans (by first | (simp [g3_setOwner, gF, gS, gO, hf]; done) | (simp [g3_setOwner, gF, gT, gS, gO, hf, h19]; done) | (simp [g3_setOwner, gF, gT, gS, gO, hf, h19, tut, q7]; done))
          exact V_ireti C hr dX4_setOwner_133 ⟨by rw [hg]; exact rfl, rfl, by rw [hg]; exact (by first | exact up2_2 | exact up2_2.trans up2_2 | rfl)⟩
      · exact absurd h46 (by decide)
set_option maxHeartbeats 4000000 in
set_option maxRecDepth 100000 in
theorem c_X4_apart {l : Launch} {x : Sh} {a b : Mem} {o : Out} (hfl : l.stackTraces = false) {q : Mem} (hW : WC q) (hI : IQ q) (hR : RR q b) {f : Int32} : MG l x yX4_apart cX4_apart 6 (some .int) 6 280 [.ref (x.2.1 70), .int f] a b o (QI x o (FI (rd (gF f) (nI (cntN (fun c => !agB q (fNat f) c) 60))) a (up2 b 70 0 (cd [eA] (gF f))))) := by
  refine MG.of (maxL := 6) (ret := (some .int)) hfl (by decide) [some (.ref (x.2.1 70)), some (.int f), none, none, none, none] rfl rfl (Nat.le_of_ble_eq_true rfl) ?_
  intro pP eE sS mM argsA belowB methM cC C hr
  have ho12 := hW.ol
  have hp10 := hW.pl
  have he6 := hW.el
  obtain ⟨gg, hG⟩ : ∃ gg, gg = (gF f) := ⟨_, rfl⟩
  rw [← hG]
  refine V_iload_n C dX4_apart_0 rfl ?_
  refine V_callf (R_S C (c_X4_fieldOf hfl) mi_X4_fieldOf mk_X4_171 rfl (by decide) rfl (Nat.le_of_ble_eq_true rfl) (by decide) dX4_apart_1) ?_
  refine V_istore_n2 C dX4_apart_4 (by decide) ?_
  refine V_aload_n C dX4_apart_5 rfl ?_
  refine V_iload_n C dX4_apart_6 rfl ?_
  refine V_iconst (v := -1) C dX4_apart_7 (by decide) ?_
  refine V_icmp_ne C 15 dX4_apart_8 (by decide) (fun h8 => ?_) (fun h8 => ?_)
  · have hf := fo_t h8
    rw [if_pos hf]
    have hf3 := fNat_l f
    refine V_iconst (v := 0) C dX4_apart_15 (by decide) ?_
    refine pt_X4_thrown C fk_X4_59 dX4_apart_16 ?_
    refine V_iconst (v := nI 0) C dX4_apart_19 (by decide) ?_
    refine V_istore_n3 C dX4_apart_20 (by decide) ?_
    refine V_iconst (v := nI 0) C dX4_apart_21 (by decide) ?_
    refine V_istore_4 C dX4_apart_22 (by decide) ?_
    have L24 : ∀ (fuel : Nat) (k : Nat), k ≤ nP q → nP q - k < fuel → VV pP l eE ({ frames := 6, cells := 0, slots := 0, locals := 280 } : Room) sS mM argsA belowB methM cC (MQ belowB (QI x o (FI (rd gg (nI (cntN (fun c => !agB q (fNat f) c) 60))) a (up2 b 70 0 (cd [eA] gg))) sS.heap.size) argsA sS 0 0 (AW x sS.heap.size)) x 6 a (up2 b 70 0 0) o 0 0 24 [some (.ref (x.2.1 70)), some (.int f), some (.int (nI (fNat f))), some (.int (nI (cntN (apB q (fNat f)) (k * 6)))), some (.int (nI k)), none] [] := by
      intro fuel
      induction fuel with
      | zero => intro k hk hm; exact absurd hm (Nat.not_lt_zero _)
      | succ fuel ih24 =>
        intro k hk hm
        refine V_iload C dX4_apart_24 rfl ?_
        refine V_aload_n C dX4_apart_26 rfl ?_
        refine gt_X4_pupils C fk_X4_63 dX4_apart_27 ?_
        refine V_topi (hR.th.c3.trans hW.pe) ?_
        refine V_lt C 84 dX4_apart_30 (by decide) (by omega) (by omega) (fun h30 => ?_) (fun h30 => ?_)
        · try (have e9 : k = nP q := by omega
               subst e9)
          refine V_iload_n C dX4_apart_84 rfl ?_
          have hg : gg = none := hG.trans (by simp [gF, gO, hf])
          exact V_ireti C hr dX4_apart_85 ⟨by rw [hg]; exact (congrArg nI (ap_all hW hI hf3).symm), rfl, by rw [hg]; exact (by first | exact up2_2 | exact up2_2.trans up2_2 | rfl)⟩
        · refine V_aload_n C dX4_apart_33 rfl ?_
          refine gt_X4_thrown C fk_X4_59 dX4_apart_34 ?_
          refine V_topi (show _ = (0 : Int32) from rfl) ?_
          refine V_if_ne C 84 dX4_apart_37 (by decide) (fun h37 => ?_) (fun h37 => ?_)
          · exact absurd h37 (by decide)
          · refine V_iconst (v := nI 0) C dX4_apart_40 (by decide) ?_
            refine V_istore_5 C dX4_apart_41 (by decide) ?_
            have L43 : ∀ (fuel : Nat) (e : Nat), e ≤ nE q → nE q - e < fuel → VV pP l eE ({ frames := 6, cells := 0, slots := 0, locals := 280 } : Room) sS mM argsA belowB methM cC (MQ belowB (QI x o (FI (rd gg (nI (cntN (fun c => !agB q (fNat f) c) 60))) a (up2 b 70 0 (cd [eA] gg))) sS.heap.size) argsA sS 0 0 (AW x sS.heap.size)) x 6 a (up2 b 70 0 0) o 0 0 43 [some (.ref (x.2.1 70)), some (.int f), some (.int (nI (fNat f))), some (.int (nI (cntN (apB q (fNat f)) (k * 6 + e)))), some (.int (nI k)), some (.int (nI e))] [] := by
              intro fuel
              induction fuel with
              | zero => intro e he hm; exact absurd hm (Nat.not_lt_zero _)
              | succ fuel ih43 =>
                intro e he hm
                refine V_iload C dX4_apart_43 rfl ?_
                refine V_aload_n C dX4_apart_45 rfl ?_
                refine gt_X4_exams C fk_X4_70 dX4_apart_46 ?_
                refine V_topi (hR.th.c2.trans hW.ee) ?_
                refine V_lt C 78 dX4_apart_49 (by decide) (by omega) (by omega) (fun h49 => ?_) (fun h49 => ?_)
                · have e8 : e = nE q := by omega
                  subst e8
                  refine V_iinc_4 C _ dX4_apart_78 (nI_1 _) (by decide) ?_
                  refine V_goto C 24 dX4_apart_81 (by decide) ?_
                  refine V_forget (lvLe.same (lvLe.same (lvLe.same (lvLe.same (lvLe.same (lvLe.drop lvLe.nil)))))) ?_
                  have ih := ih24 (k + 1) (by omega) (by omega)
                  rw [ap_row hW hI (by omega) hf3] at ih
                  exact ih
                · refine V_iload_n C dX4_apart_52 rfl ?_
                  refine V_aload_n C dX4_apart_53 rfl ?_
                  refine V_iload C dX4_apart_54 rfl ?_
                  refine V_iload C dX4_apart_56 rfl ?_
                  refine V_iload_n C dX4_apart_58 rfl ?_
                  refine V_callf (R_V C (c_X4_agree hfl hW hI hR.th (by omega) (by omega) hf3) mi_X4_agree mk_X4_107 rfl (by omega) rfl (rfl : vwCl[6]? = some (RX4, TX4, 24)) (by decide) rfl (Nat.le_of_ble_eq_true rfl) (by decide) dX4_apart_59) ?_
                  refine V_ifb_eq C 69 dX4_apart_62 (by decide) (fun h62 => ?_) (fun h62 => ?_)
                  · refine V_iconst (v := 1) C dX4_apart_69 (by decide) ?_
                    refine V_iadd C dX4_apart_70 ?_
                    first | refine V_topi (nI_1 _) ?_ | refine V_topi (Int32.add_zero _) ?_
                    refine V_istore_n3 C dX4_apart_71 (by decide) ?_
                    refine V_iinc_5 C _ dX4_apart_72 (nI_1 _) (by decide) ?_
                    refine V_goto C 43 dX4_apart_75 (by decide) ?_
                    have ih := ih43 (e + 1) (by omega) (by omega)
                    first
                      | (rw [show cntN (apB q (fNat f)) (k * 6 + (e + 1)) = cntN (apB q (fNat f)) (k * 6 + e) + 1 by (rw [← Nat.add_assoc, cntN]; simp [apB, h62]; done)] at ih; exact ih)
                      | (rw [show cntN (apB q (fNat f)) (k * 6 + (e + 1)) = cntN (apB q (fNat f)) (k * 6 + e) by (rw [← Nat.add_assoc, cntN]; simp [apB, h62]; done)] at ih; exact ih)
                  · refine V_iconst (v := 0) C dX4_apart_65 (by decide) ?_
                    refine V_goto C 70 dX4_apart_66 (by decide) ?_
                    refine V_iadd C dX4_apart_70 ?_
                    first | refine V_topi (nI_1 _) ?_ | refine V_topi (Int32.add_zero _) ?_
                    refine V_istore_n3 C dX4_apart_71 (by decide) ?_
                    refine V_iinc_5 C _ dX4_apart_72 (nI_1 _) (by decide) ?_
                    refine V_goto C 43 dX4_apart_75 (by decide) ?_
                    have ih := ih43 (e + 1) (by omega) (by omega)
                    first
                      | (rw [show cntN (apB q (fNat f)) (k * 6 + (e + 1)) = cntN (apB q (fNat f)) (k * 6 + e) + 1 by (rw [← Nat.add_assoc, cntN]; simp [apB, h62]; done)] at ih; exact ih)
                      | (rw [show cntN (apB q (fNat f)) (k * 6 + (e + 1)) = cntN (apB q (fNat f)) (k * 6 + e) by (rw [← Nat.add_assoc, cntN]; simp [apB, h62]; done)] at ih; exact ih)
            exact L43 _ 0 (Nat.zero_le _) (Nat.lt_succ_self _)
    exact L24 _ 0 (Nat.zero_le _) (Nat.lt_succ_self _)
  · have hf := fo_f h8
    refine V_iconst (v := 1) C dX4_apart_11 (by decide) ?_
    refine V_goto C 16 dX4_apart_12 (by decide) ?_
    refine pt_X4_thrown C fk_X4_59 dX4_apart_16 ?_
    refine V_iconst (v := nI 0) C dX4_apart_19 (by decide) ?_
    refine V_istore_n3 C dX4_apart_20 (by decide) ?_
    refine V_iconst (v := nI 0) C dX4_apart_21 (by decide) ?_
    refine V_istore_4 C dX4_apart_22 (by decide) ?_
    refine V_iload C dX4_apart_24 rfl ?_
    refine V_aload_n C dX4_apart_26 rfl ?_
    refine gt_X4_pupils C fk_X4_63 dX4_apart_27 ?_
    refine V_topi (hR.th.c3.trans hW.pe) ?_
    refine V_lt C 84 dX4_apart_30 (by decide) (by omega) (by omega) (fun h30 => ?_) (fun h30 => ?_)
    · try (have e9 : k = nP q := by omega
           subst e9)
      refine V_iload_n C dX4_apart_84 rfl ?_
      have hg : gg = some eA := hG.trans (by simp [gF, gO, hf])
      exact V_ireti C hr dX4_apart_85 ⟨by rw [hg]; exact rfl, rfl, by rw [hg]; exact (by first | exact up2_2 | exact up2_2.trans up2_2 | rfl)⟩
    · refine V_aload_n C dX4_apart_33 rfl ?_
      refine gt_X4_thrown C fk_X4_59 dX4_apart_34 ?_
      refine V_topi (show _ = (1 : Int32) from rfl) ?_
      refine V_if_ne C 84 dX4_apart_37 (by decide) (fun h37 => ?_) (fun h37 => ?_)
      · refine V_iload_n C dX4_apart_84 rfl ?_
        have hg : gg = some eA := hG.trans (by simp [gF, gO, hf])
        exact V_ireti C hr dX4_apart_85 ⟨by rw [hg]; exact rfl, rfl, by rw [hg]; exact (by first | exact up2_2 | exact up2_2.trans up2_2 | rfl)⟩
      · exact absurd h37 (by decide)
set_option maxHeartbeats 4000000 in
set_option maxRecDepth 100000 in
theorem c_X4_satCell {l : Launch} {x : Sh} {a b : Mem} {o : Out} (hfl : l.stackTraces = false) {p e : Nat} {z : Int32} : MG l x yX4_satCell cX4_satCell 3 (some .int) 0 40 [.int (nI p), .int (nI e), .int z] a b o (QI x o (FI (nI (2 * (p * 6 + e) + zNat z)) a b)) := by
  refine MG.of (maxL := 3) (ret := (some .int)) hfl (by decide) [some (.int (nI p)), some (.int (nI e)), some (.int z)] rfl rfl (Nat.le_of_ble_eq_true rfl) ?_
  intro pP eE sS mM argsA belowB methM cC C hr
  refine V_iconst (v := nI 2) C dX4_satCell_0 (by decide) ?_
  refine V_iload_n C dX4_satCell_1 rfl ?_
  refine V_bipush (v := nI 6) C dX4_satCell_2 (by decide) ?_
  refine V_imul C dX4_satCell_4 ?_
  refine V_topi (pk_mul _ _) ?_
  refine V_iload_n C dX4_satCell_5 rfl ?_
  refine V_iadd C dX4_satCell_6 ?_
  refine V_topi (nI_add _ _) ?_
  refine V_imul C dX4_satCell_7 ?_
  refine V_topi (pk_mul _ _) ?_
  refine V_iload_n C dX4_satCell_8 rfl ?_
  refine V_if_eq C 16 dX4_satCell_9 (by decide) (fun h9 => ?_) (fun h9 => ?_)
  · refine V_iconst (v := 0) C dX4_satCell_16 (by decide) ?_
    refine V_iadd C dX4_satCell_17 ?_
    first | refine V_topi (nI_1 _) ?_ | refine V_topi (Int32.add_zero _) ?_
    exact V_ireti C hr dX4_satCell_18 ⟨by simp [zNat, h9], rfl, rfl⟩
  · refine V_iconst (v := 1) C dX4_satCell_12 (by decide) ?_
    refine V_goto C 17 dX4_satCell_13 (by decide) ?_
    refine V_iadd C dX4_satCell_17 ?_
    first | refine V_topi (nI_1 _) ?_ | refine V_topi (Int32.add_zero _) ?_
    exact V_ireti C hr dX4_satCell_18 ⟨by simp [zNat, h9], rfl, rfl⟩
set_option maxHeartbeats 4000000 in
set_option maxRecDepth 100000 in
theorem c_X4_hasSat {l : Launch} {x : Sh} {a b : Mem} {o : Out} (hfl : l.stackTraces = false) {q : Mem} (hW : WC q) (hI : IQ q) (hR : RR q b) {p ex z : Int32} (hz : z = 0 ∨ z = 1) (hH : HH q b) : MG l x yX4_hasSat cX4_hasSat 4 (some .boolean) 6 280 [.ref (x.2.1 70), .int p, .int ex, .int z] a b o (QI x o (FI (rd (g3_maySit q p ex) (bI (hsB q p ex z))) a (up2 b 70 0 (cd [eI] (g3_maySit q p ex))))) := by
  refine MG.of (maxL := 4) (ret := (some .boolean)) hfl (by decide) [some (.ref (x.2.1 70)), some (.int p), some (.int ex), some (.int z)] rfl rfl (Nat.le_of_ble_eq_true rfl) ?_
  intro pP eE sS mM argsA belowB methM cC C hr
  have ho12 := hW.ol
  have hp10 := hW.pl
  have he6 := hW.el
  have hz2 : zNat z < 2 := by unfold zNat; split <;> omega
  have hz3 : nI (zNat z) = z := by rcases hz with rfl | rfl <;> rfl
  obtain ⟨gg, hG⟩ : ∃ gg, gg = (g3_maySit q p ex) := ⟨_, rfl⟩
  rw [← hG]
  refine V_aload_n C dX4_hasSat_0 rfl ?_
  refine V_aload_n C dX4_hasSat_1 rfl ?_
  refine V_iload_n C dX4_hasSat_2 rfl ?_
  refine V_callf (R_V C (c_X4_isPupil hfl hW hI hR) mi_X4_isPupil mk_X4_90 rfl (by omega) rfl (rfl : vwCl[6]? = some (RX4, TX4, 24)) (by decide) rfl (Nat.le_of_ble_eq_true rfl) (by decide) dX4_hasSat_3) ?_
  refine V_ifb_eq C 17 dX4_hasSat_6 (by decide) (fun h6 => ?_) (fun h6 => ?_)
  · refine V_iconst (v := 1) C dX4_hasSat_17 (by decide) ?_
    refine V_goto C 22 dX4_hasSat_18 (by decide) ?_
    refine pt_X4_thrown C fk_X4_59 dX4_hasSat_22 ?_
    refine V_aload_n C dX4_hasSat_25 rfl ?_
    refine gt_X4_thrown C fk_X4_59 dX4_hasSat_26 ?_
    refine V_topi (show _ = (1 : Int32) from rfl) ?_
    refine V_if_ne C 50 dX4_hasSat_29 (by decide) (fun h29 => ?_) (fun h29 => ?_)
    · refine V_iconst (v := 0) C dX4_hasSat_50 (by decide) ?_
      have hg : gg = some eI := hG.trans (by first | (simp [g3_maySit, gS, gO, h6, h29]; done))
      exact V_iretz C hr (by first | exact Or.inl rfl | exact Or.inr rfl | exact bI_or _) dX4_hasSat_51 ⟨by rw [hg]; exact rfl, rfl, by rw [hg]; exact (by first | exact up2_2 | exact up2_2.trans up2_2 | rfl)⟩
    · exact absurd h29 (by decide)
  · obtain ⟨jp, hjp, jpe⟩ := ix_of (E := eI) (gO_n.mpr h6) hW.pe (by omega)
    subst jpe
    have tjp : tn (nI jp) = jp := tn_nI (by omega)
    try rw [tjp]
    refine V_aload_n C dX4_hasSat_9 rfl ?_
    refine V_iload_n C dX4_hasSat_10 rfl ?_
    refine V_callf (R_V C (c_X4_isExam hfl hW hI hR) mi_X4_isExam mk_X4_79 rfl (by omega) rfl (rfl : vwCl[6]? = some (RX4, TX4, 24)) (by decide) rfl (Nat.le_of_ble_eq_true rfl) (by decide) dX4_hasSat_11) ?_
    refine V_ifb_ne C 21 dX4_hasSat_14 (by decide) (fun h14 => ?_) (fun h14 => ?_)
    · obtain ⟨ke, hke, kee⟩ := ix_of (E := eI) (gO_n.mpr h14) hW.ee (by omega)
      subst kee
      have tke : tn (nI ke) = ke := tn_nI (by omega)
      try rw [tke]
      refine V_iconst (v := 0) C dX4_hasSat_21 (by decide) ?_
      refine pt_X4_thrown C fk_X4_59 dX4_hasSat_22 ?_
      refine V_aload_n C dX4_hasSat_25 rfl ?_
      refine gt_X4_thrown C fk_X4_59 dX4_hasSat_26 ?_
      refine V_topi (show _ = (0 : Int32) from rfl) ?_
      refine V_if_ne C 50 dX4_hasSat_29 (by decide) (fun h29 => ?_) (fun h29 => ?_)
      · exact absurd h29 (by decide)
      · refine V_aload_n C dX4_hasSat_32 rfl ?_
        refine gt_X4_hasSat C fk_X4_56 dX4_hasSat_33 ?_
        refine V_iload_n C dX4_hasSat_36 rfl ?_
        refine V_iload_n C dX4_hasSat_37 rfl ?_
        refine V_iload_n C dX4_hasSat_38 rfl ?_
        refine V_callf (R_S C (c_X4_satCell hfl) mi_X4_satCell mk_X4_178 rfl (by decide) rfl (Nat.le_of_ble_eq_true rfl) (by decide) dX4_hasSat_39) ?_
        refine la_m_hasSat C _ rfl (by omega) dX4_hasSat_42 ?_
        refine V_topi (show _ = bI (hsE q jp (nI ke) z) from (hH jp ke (zNat z) (by omega) (by omega) hz2).trans (by rw [hz3])) ?_
        refine V_ifb_eq C 50 dX4_hasSat_43 (by decide) (fun h43 => ?_) (fun h43 => ?_)
        · refine V_iconst (v := 0) C dX4_hasSat_50 (by decide) ?_
          have hg : gg = none := hG.trans (by first | (simp [g3_maySit, gS, gO, h6, h14, h29, h43]; done))
          exact V_iretz C hr (by first | exact Or.inl rfl | exact Or.inr rfl | exact bI_or _) dX4_hasSat_51 ⟨by rw [hg]; exact (by rw [hsB_e hI (by omega), h43]; rfl), rfl, by rw [hg]; exact (by first | exact up2_2 | exact up2_2.trans up2_2 | rfl)⟩
        · refine V_iconst (v := 1) C dX4_hasSat_46 (by decide) ?_
          refine V_goto C 51 dX4_hasSat_47 (by decide) ?_
          have hg : gg = none := hG.trans (by first | (simp [g3_maySit, gS, gO, h6, h14, h29, h43]; done))
          exact V_iretz C hr (by first | exact Or.inl rfl | exact Or.inr rfl | exact bI_or _) dX4_hasSat_51 ⟨by rw [hg]; exact (by rw [hsB_e hI (by omega), h43]; rfl), rfl, by rw [hg]; exact (by first | exact up2_2 | exact up2_2.trans up2_2 | rfl)⟩
    · refine V_iconst (v := 1) C dX4_hasSat_17 (by decide) ?_
      refine V_goto C 22 dX4_hasSat_18 (by decide) ?_
      refine pt_X4_thrown C fk_X4_59 dX4_hasSat_22 ?_
      refine V_aload_n C dX4_hasSat_25 rfl ?_
      refine gt_X4_thrown C fk_X4_59 dX4_hasSat_26 ?_
      refine V_topi (show _ = (1 : Int32) from rfl) ?_
      refine V_if_ne C 50 dX4_hasSat_29 (by decide) (fun h29 => ?_) (fun h29 => ?_)
      · refine V_iconst (v := 0) C dX4_hasSat_50 (by decide) ?_
        have hg : gg = some eI := hG.trans (by first | (simp [g3_maySit, gS, gO, h6, h14, h29]; done))
        exact V_iretz C hr (by first | exact Or.inl rfl | exact Or.inr rfl | exact bI_or _) dX4_hasSat_51 ⟨by rw [hg]; exact rfl, rfl, by rw [hg]; exact (by first | exact up2_2 | exact up2_2.trans up2_2 | rfl)⟩
      · exact absurd h29 (by decide)
set_option maxHeartbeats 4000000 in
set_option maxRecDepth 100000 in
theorem c_X4_takenShare {l : Launch} {x : Sh} {a b : Mem} {o : Out} (hfl : l.stackTraces = false) {q : Mem} (hW : WC q) (hI : IQ q) (hR : RR q b)  : MG l x yX4_takenShare cX4_takenShare 4 (some .float) 6 280 [.ref (x.2.1 70)] a b o (QF x o (FF (rdF (gzero (q 0 10)) (shF (nI (sumK (nTaken q) (nO q))) (nI (sumK (stN q) (nO q))))) a (up2 b 70 0 (cd [eR] (gzero (q 0 10)))))) := by
  refine MG.of (maxL := 4) (ret := (some .float)) hfl (by decide) [some (.ref (x.2.1 70)), none, none, none] rfl rfl (Nat.le_of_ble_eq_true rfl) ?_
  intro pP eE sS mM argsA belowB methM cC C hr
  have ho12 := hW.ol
  have hp10 := hW.pl
  have he6 := hW.el
  have hr3 := hW.rl
  have hst := @WC.stl q hW
  obtain ⟨gg, hG⟩ : ∃ gg, gg = (gzero (q 0 10)) := ⟨_, rfl⟩
  rw [← hG]
  refine V_aload_n C dX4_takenShare_0 rfl ?_
  refine V_aload_n C dX4_takenShare_1 rfl ?_
  refine gt_X4_offers C fk_X4_73 dX4_takenShare_2 ?_
  refine V_topi hR.c4 ?_
  refine V_if_ne C 12 dX4_takenShare_5 (by decide) (fun h5 => ?_) (fun h5 => ?_)
  · refine V_iconst (v := 0) C dX4_takenShare_12 (by decide) ?_
    refine pt_X4_thrown C fk_X4_59 dX4_takenShare_13 ?_
    refine V_iconst (v := nI 0) C dX4_takenShare_16 (by decide) ?_
    refine V_istore_n1 C dX4_takenShare_17 (by decide) ?_
    refine V_iconst (v := nI 0) C dX4_takenShare_18 (by decide) ?_
    refine V_istore_n2 C dX4_takenShare_19 (by decide) ?_
    refine V_iconst (v := nI 0) C dX4_takenShare_20 (by decide) ?_
    refine V_istore_n3 C dX4_takenShare_21 (by decide) ?_
    have L22 : ∀ (fuel : Nat) (k : Nat), k ≤ nO q → nO q - k < fuel → VV pP l eE ({ frames := 6, cells := 0, slots := 0, locals := 280 } : Room) sS mM argsA belowB methM cC (MQ belowB (QF x o (FF (rdF gg (shF (nI (sumK (nTaken q) (nO q))) (nI (sumK (stN q) (nO q))))) a (up2 b 70 0 (cd [eR] gg))) sS.heap.size) argsA sS 0 0 (AW x sS.heap.size)) x 4 a (up2 b 70 0 0) o 0 0 22 [some (.ref (x.2.1 70)), some (.int (nI (sumK (nTaken q) k))), some (.int (nI (sumK (stN q) k))), some (.int (nI k))] [] := by
      intro fuel
      induction fuel with
      | zero => intro k hk hm; exact absurd hm (Nat.not_lt_zero _)
      | succ fuel ih22 =>
        intro k hk hm
        refine V_iload_n C dX4_takenShare_22 rfl ?_
        refine V_aload_n C dX4_takenShare_23 rfl ?_
        refine gt_X4_offers C fk_X4_73 dX4_takenShare_24 ?_
        refine V_topi (hR.th.c4.trans hW.oe) ?_
        refine V_lt C 58 dX4_takenShare_27 (by decide) (by omega) (by omega) (fun h27 => ?_) (fun h27 => ?_)
        · have e9 : k = nO q := by omega
          subst e9
          have h8 := sumK_le (f := stN q) (c := 6) (n := nO q) (fun i hi => hst (by omega))
          have h7 : nO q ≤ sumK (stN q) (nO q) := sumK_ge (fun i hi => hI.st1 hi)
          have hn0 : ¬ q 0 10 = 0 → nO q ≠ 0 := by
            intro hh z
            apply hh
            rw [hW.oe, z]
            rfl
          refine V_aload_n C dX4_takenShare_58 rfl ?_
          refine gt_X4_thrown C fk_X4_59 dX4_takenShare_59 ?_
          refine V_topi (show _ = (0 : Int32) from rfl) ?_
          refine V_if_le C 69 dX4_takenShare_62 (by decide) (fun h62 => ?_) (fun h62 => ?_)
          · refine V_iload_n C dX4_takenShare_69 rfl ?_
            refine V_i2f C dX4_takenShare_70 ?_
            refine V_iload_n C dX4_takenShare_71 rfl ?_
            refine V_i2f C dX4_takenShare_72 ?_
            refine V_fdiv C dX4_takenShare_73 (fdiv_nn _ (by omega) (by have := hn0 h5; omega)) ?_
            have hg : gg = none := hG.trans (by simp [gzero, h5])
            exact V_fret C hr dX4_takenShare_74 ⟨by rw [hg]; exact rfl, rfl, by rw [hg]; exact (by first | exact up2_2 | exact up2_2.trans up2_2 | rfl)⟩
          · exact absurd h62 (by decide)
        · have hk4 := (hI.rm k h27).2.1
          refine V_iload_n C dX4_takenShare_30 rfl ?_
          refine V_aload_n C dX4_takenShare_31 rfl ?_
          refine V_iload_n C dX4_takenShare_32 rfl ?_
          refine V_callf (R_V C (c_X4_held hfl hW hI hR.th (by omega)) mi_X4_held mk_X4_119 rfl (by omega) rfl (rfl : vwCl[6]? = some (RX4, TX4, 24)) (by decide) rfl (Nat.le_of_ble_eq_true rfl) (by decide) dX4_takenShare_33) ?_
          refine V_iadd C dX4_takenShare_36 ?_
          refine V_topi (nI_add _ _) ?_
          refine V_istore_n1 C dX4_takenShare_37 (by decide) ?_
          refine V_iload_n C dX4_takenShare_38 rfl ?_
          refine V_aload_n C dX4_takenShare_39 rfl ?_
          refine gt_X4_seats C fk_X4_7 dX4_takenShare_40 ?_
          refine V_aload_n C dX4_takenShare_43 rfl ?_
          refine gt_X4_room C fk_X4_19 dX4_takenShare_44 ?_
          refine V_iload_n C dX4_takenShare_47 rfl ?_
          refine la_m_room C _ rfl (by omega) dX4_takenShare_48 ?_
          refine V_topi ((hR.th.rm (by omega)).trans (hI.rm k h27).1) ?_
          refine la_m_seats C _ rfl (by omega) dX4_takenShare_49 ?_
          refine V_topi (((hR.th.st (by have := (hI.rm k h27).2.1; omega)).trans (hI.rm k h27).2.2.symm).trans (hW.ste (by omega))) ?_
          refine V_iadd C dX4_takenShare_50 ?_
          refine V_topi (nI_add _ _) ?_
          refine V_istore_n2 C dX4_takenShare_51 (by decide) ?_
          refine V_iinc_3 C _ dX4_takenShare_52 (nI_1 _) (by decide) ?_
          refine V_goto C 22 dX4_takenShare_55 (by decide) ?_
          exact ih22 (k + 1) (by omega) (by omega)
    exact L22 _ 0 (Nat.zero_le _) (Nat.lt_succ_self _)
  · refine V_iconst (v := 1) C dX4_takenShare_8 (by decide) ?_
    refine V_goto C 13 dX4_takenShare_9 (by decide) ?_
    refine pt_X4_thrown C fk_X4_59 dX4_takenShare_13 ?_
    refine V_iconst (v := nI 0) C dX4_takenShare_16 (by decide) ?_
    refine V_istore_n1 C dX4_takenShare_17 (by decide) ?_
    refine V_iconst (v := nI 0) C dX4_takenShare_18 (by decide) ?_
    refine V_istore_n2 C dX4_takenShare_19 (by decide) ?_
    refine V_iconst (v := nI 0) C dX4_takenShare_20 (by decide) ?_
    refine V_istore_n3 C dX4_takenShare_21 (by decide) ?_
    have L22 : ∀ (fuel : Nat) (k : Nat), k ≤ nO q → nO q - k < fuel → VV pP l eE ({ frames := 6, cells := 0, slots := 0, locals := 280 } : Room) sS mM argsA belowB methM cC (MQ belowB (QF x o (FF (rdF gg (shF (nI (sumK (nTaken q) (nO q))) (nI (sumK (stN q) (nO q))))) a (up2 b 70 0 (cd [eR] gg))) sS.heap.size) argsA sS 0 0 (AW x sS.heap.size)) x 4 a (up2 b 70 0 1) o 0 0 22 [some (.ref (x.2.1 70)), some (.int (nI (sumK (nTaken q) k))), some (.int (nI (sumK (stN q) k))), some (.int (nI k))] [] := by
      intro fuel
      induction fuel with
      | zero => intro k hk hm; exact absurd hm (Nat.not_lt_zero _)
      | succ fuel ih22 =>
        intro k hk hm
        refine V_iload_n C dX4_takenShare_22 rfl ?_
        refine V_aload_n C dX4_takenShare_23 rfl ?_
        refine gt_X4_offers C fk_X4_73 dX4_takenShare_24 ?_
        refine V_topi (hR.th.c4.trans hW.oe) ?_
        refine V_lt C 58 dX4_takenShare_27 (by decide) (by omega) (by omega) (fun h27 => ?_) (fun h27 => ?_)
        · have e9 : k = nO q := by omega
          subst e9
          have h8 := sumK_le (f := stN q) (c := 6) (n := nO q) (fun i hi => hst (by omega))
          have h7 : nO q ≤ sumK (stN q) (nO q) := sumK_ge (fun i hi => hI.st1 hi)
          have hn0 : ¬ q 0 10 = 0 → nO q ≠ 0 := by
            intro hh z
            apply hh
            rw [hW.oe, z]
            rfl
          refine V_aload_n C dX4_takenShare_58 rfl ?_
          refine gt_X4_thrown C fk_X4_59 dX4_takenShare_59 ?_
          refine V_topi (show _ = (1 : Int32) from rfl) ?_
          refine V_if_le C 69 dX4_takenShare_62 (by decide) (fun h62 => ?_) (fun h62 => ?_)
          · exact absurd h62 (by decide)
          · refine V_fconst0 C dX4_takenShare_65 ?_
            refine V_goto C 74 dX4_takenShare_66 (by decide) ?_
            have hg : gg = some eR := hG.trans (by simp [gzero, h5])
            exact V_fret C hr dX4_takenShare_74 ⟨by rw [hg]; exact rfl, rfl, by rw [hg]; exact (by first | exact up2_2 | exact up2_2.trans up2_2 | rfl)⟩
        · have hk4 := (hI.rm k h27).2.1
          refine V_iload_n C dX4_takenShare_30 rfl ?_
          refine V_aload_n C dX4_takenShare_31 rfl ?_
          refine V_iload_n C dX4_takenShare_32 rfl ?_
          refine V_callf (R_V C (c_X4_held hfl hW hI hR.th (by omega)) mi_X4_held mk_X4_119 rfl (by omega) rfl (rfl : vwCl[6]? = some (RX4, TX4, 24)) (by decide) rfl (Nat.le_of_ble_eq_true rfl) (by decide) dX4_takenShare_33) ?_
          refine V_iadd C dX4_takenShare_36 ?_
          refine V_topi (nI_add _ _) ?_
          refine V_istore_n1 C dX4_takenShare_37 (by decide) ?_
          refine V_iload_n C dX4_takenShare_38 rfl ?_
          refine V_aload_n C dX4_takenShare_39 rfl ?_
          refine gt_X4_seats C fk_X4_7 dX4_takenShare_40 ?_
          refine V_aload_n C dX4_takenShare_43 rfl ?_
          refine gt_X4_room C fk_X4_19 dX4_takenShare_44 ?_
          refine V_iload_n C dX4_takenShare_47 rfl ?_
          refine la_m_room C _ rfl (by omega) dX4_takenShare_48 ?_
          refine V_topi ((hR.th.rm (by omega)).trans (hI.rm k h27).1) ?_
          refine la_m_seats C _ rfl (by omega) dX4_takenShare_49 ?_
          refine V_topi (((hR.th.st (by have := (hI.rm k h27).2.1; omega)).trans (hI.rm k h27).2.2.symm).trans (hW.ste (by omega))) ?_
          refine V_iadd C dX4_takenShare_50 ?_
          refine V_topi (nI_add _ _) ?_
          refine V_istore_n2 C dX4_takenShare_51 (by decide) ?_
          refine V_iinc_3 C _ dX4_takenShare_52 (nI_1 _) (by decide) ?_
          refine V_goto C 22 dX4_takenShare_55 (by decide) ?_
          exact ih22 (k + 1) (by omega) (by omega)
    exact L22 _ 0 (Nat.zero_le _) (Nat.lt_succ_self _)
set_option maxHeartbeats 4000000 in
set_option maxRecDepth 100000 in
theorem c_X4_meanPoints {l : Launch} {x : Sh} {a b : Mem} {o : Out} (hfl : l.stackTraces = false) {q : Mem} (hW : WC q) (hI : IQ q) (hR : RR q b)  : MG l x yX4_meanPoints cX4_meanPoints 3 (some .double) 6 280 [.ref (x.2.1 70)] a b o (QDD x o (FD (rdD (gzero (q 0 9)) (mnF (sumN (q 67) (nP q)) (q 0 9))) a (up2 b 70 0 (cd [eR] (gzero (q 0 9)))))) := by
  refine MG.of (maxL := 3) (ret := (some .double)) hfl (by decide) [some (.ref (x.2.1 70)), none, none] rfl rfl (Nat.le_of_ble_eq_true rfl) ?_
  intro pP eE sS mM argsA belowB methM cC C hr
  have ho12 := hW.ol
  have hp10 := hW.pl
  have he6 := hW.el
  obtain ⟨gg, hG⟩ : ∃ gg, gg = (gzero (q 0 9)) := ⟨_, rfl⟩
  rw [← hG]
  refine V_aload_n C dX4_meanPoints_0 rfl ?_
  refine V_aload_n C dX4_meanPoints_1 rfl ?_
  refine gt_X4_pupils C fk_X4_63 dX4_meanPoints_2 ?_
  refine V_topi hR.c3 ?_
  refine V_if_ne C 12 dX4_meanPoints_5 (by decide) (fun h5 => ?_) (fun h5 => ?_)
  · refine V_iconst (v := 0) C dX4_meanPoints_12 (by decide) ?_
    refine pt_X4_thrown C fk_X4_59 dX4_meanPoints_13 ?_
    refine V_iconst (v := 0) C dX4_meanPoints_16 (by decide) ?_
    refine V_istore_n1 C dX4_meanPoints_17 (by decide) ?_
    refine V_iconst (v := nI 0) C dX4_meanPoints_18 (by decide) ?_
    refine V_istore_n2 C dX4_meanPoints_19 (by decide) ?_
    have L20 : ∀ (fuel : Nat) (k : Nat), k ≤ nP q → nP q - k < fuel → VV pP l eE ({ frames := 6, cells := 0, slots := 0, locals := 280 } : Room) sS mM argsA belowB methM cC (MQ belowB (QDD x o (FD (rdD gg (mnF (sumN (q 67) (nP q)) (q 0 9))) a (up2 b 70 0 (cd [eR] gg))) sS.heap.size) argsA sS 0 0 (AW x sS.heap.size)) x 3 a (up2 b 70 0 0) o 0 0 20 [some (.ref (x.2.1 70)), some (.int (sumN (q 67) k)), some (.int (nI k))] [] := by
      intro fuel
      induction fuel with
      | zero => intro k hk hm; exact absurd hm (Nat.not_lt_zero _)
      | succ fuel ih20 =>
        intro k hk hm
        refine V_iload_n C dX4_meanPoints_20 rfl ?_
        refine V_aload_n C dX4_meanPoints_21 rfl ?_
        refine gt_X4_pupils C fk_X4_63 dX4_meanPoints_22 ?_
        refine V_topi (hR.th.c3.trans hW.pe) ?_
        refine V_lt C 43 dX4_meanPoints_25 (by decide) (by omega) (by omega) (fun h25 => ?_) (fun h25 => ?_)
        · have e9 : k = nP q := by omega
          subst e9
          have hn0 : ¬ q 0 9 = 0 → nP q ≠ 0 := by
            intro hh z
            apply hh
            rw [hW.pe, z]
            rfl
          refine V_aload_n C dX4_meanPoints_43 rfl ?_
          refine gt_X4_thrown C fk_X4_59 dX4_meanPoints_44 ?_
          refine V_topi (show _ = (0 : Int32) from rfl) ?_
          refine V_if_le C 54 dX4_meanPoints_47 (by decide) (fun h47 => ?_) (fun h47 => ?_)
          · refine V_iload_n C dX4_meanPoints_54 rfl ?_
            refine V_i2d C dX4_meanPoints_55 ?_
            refine V_aload_n C dX4_meanPoints_56 rfl ?_
            refine gt_X4_pupils C fk_X4_63 dX4_meanPoints_57 ?_
            refine V_topi (hR.th.c3.trans hW.pe) ?_
            refine V_i2d C dX4_meanPoints_60 ?_
            refine V_ddiv C dX4_meanPoints_61 (ddiv_nn _ (by omega) (hn0 h5)) ?_
            have hg : gg = none := hG.trans (by simp [gzero, h5])
            exact V_dret C hr dX4_meanPoints_62 ⟨by rw [hg]; exact (by rw [hW.pe]; rfl), rfl, by rw [hg]; exact (by first | exact up2_2 | exact up2_2.trans up2_2 | rfl)⟩
          · exact absurd h47 (by decide)
        · refine V_iload_n C dX4_meanPoints_28 rfl ?_
          refine V_aload_n C dX4_meanPoints_29 rfl ?_
          refine gt_X4_points C fk_X4_50 dX4_meanPoints_30 ?_
          refine V_iload_n C dX4_meanPoints_33 rfl ?_
          refine la_m_points C _ rfl (by omega) dX4_meanPoints_34 ?_
          refine V_topi (hR.th.pt (by omega)) ?_
          refine V_iadd C dX4_meanPoints_35 ?_
          refine V_istore_n1 C dX4_meanPoints_36 (by decide) ?_
          refine V_iinc_2 C _ dX4_meanPoints_37 (nI_1 _) (by decide) ?_
          refine V_goto C 20 dX4_meanPoints_40 (by decide) ?_
          exact ih20 (k + 1) (by omega) (by omega)
    exact L20 _ 0 (Nat.zero_le _) (Nat.lt_succ_self _)
  · refine V_iconst (v := 1) C dX4_meanPoints_8 (by decide) ?_
    refine V_goto C 13 dX4_meanPoints_9 (by decide) ?_
    refine pt_X4_thrown C fk_X4_59 dX4_meanPoints_13 ?_
    refine V_iconst (v := 0) C dX4_meanPoints_16 (by decide) ?_
    refine V_istore_n1 C dX4_meanPoints_17 (by decide) ?_
    refine V_iconst (v := nI 0) C dX4_meanPoints_18 (by decide) ?_
    refine V_istore_n2 C dX4_meanPoints_19 (by decide) ?_
    have L20 : ∀ (fuel : Nat) (k : Nat), k ≤ nP q → nP q - k < fuel → VV pP l eE ({ frames := 6, cells := 0, slots := 0, locals := 280 } : Room) sS mM argsA belowB methM cC (MQ belowB (QDD x o (FD (rdD gg (mnF (sumN (q 67) (nP q)) (q 0 9))) a (up2 b 70 0 (cd [eR] gg))) sS.heap.size) argsA sS 0 0 (AW x sS.heap.size)) x 3 a (up2 b 70 0 1) o 0 0 20 [some (.ref (x.2.1 70)), some (.int (sumN (q 67) k)), some (.int (nI k))] [] := by
      intro fuel
      induction fuel with
      | zero => intro k hk hm; exact absurd hm (Nat.not_lt_zero _)
      | succ fuel ih20 =>
        intro k hk hm
        refine V_iload_n C dX4_meanPoints_20 rfl ?_
        refine V_aload_n C dX4_meanPoints_21 rfl ?_
        refine gt_X4_pupils C fk_X4_63 dX4_meanPoints_22 ?_
        refine V_topi (hR.th.c3.trans hW.pe) ?_
        refine V_lt C 43 dX4_meanPoints_25 (by decide) (by omega) (by omega) (fun h25 => ?_) (fun h25 => ?_)
        · have e9 : k = nP q := by omega
          subst e9
          have hn0 : ¬ q 0 9 = 0 → nP q ≠ 0 := by
            intro hh z
            apply hh
            rw [hW.pe, z]
            rfl
          refine V_aload_n C dX4_meanPoints_43 rfl ?_
          refine gt_X4_thrown C fk_X4_59 dX4_meanPoints_44 ?_
          refine V_topi (show _ = (1 : Int32) from rfl) ?_
          refine V_if_le C 54 dX4_meanPoints_47 (by decide) (fun h47 => ?_) (fun h47 => ?_)
          · exact absurd h47 (by decide)
          · refine V_dconst0 C dX4_meanPoints_50 ?_
            refine V_goto C 62 dX4_meanPoints_51 (by decide) ?_
            have hg : gg = some eR := hG.trans (by simp [gzero, h5])
            exact V_dret C hr dX4_meanPoints_62 ⟨by rw [hg]; exact rfl, rfl, by rw [hg]; exact (by first | exact up2_2 | exact up2_2.trans up2_2 | rfl)⟩
        · refine V_iload_n C dX4_meanPoints_28 rfl ?_
          refine V_aload_n C dX4_meanPoints_29 rfl ?_
          refine gt_X4_points C fk_X4_50 dX4_meanPoints_30 ?_
          refine V_iload_n C dX4_meanPoints_33 rfl ?_
          refine la_m_points C _ rfl (by omega) dX4_meanPoints_34 ?_
          refine V_topi (hR.th.pt (by omega)) ?_
          refine V_iadd C dX4_meanPoints_35 ?_
          refine V_istore_n1 C dX4_meanPoints_36 (by decide) ?_
          refine V_iinc_2 C _ dX4_meanPoints_37 (nI_1 _) (by decide) ?_
          refine V_goto C 20 dX4_meanPoints_40 (by decide) ?_
          exact ih20 (k + 1) (by omega) (by omega)
    exact L20 _ 0 (Nat.zero_le _) (Nat.lt_succ_self _)
