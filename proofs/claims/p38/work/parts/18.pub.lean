abbrev a3_room (a : Mem) (v : Int32) : Mem := up2 (up2 a 66 (nR a) v) 0 7 (nI (nR a + 1))
def g3_room (a : Mem) (v : Int32) : Option String := gS (gO (decide (¬ v < 1) && decide (v ≤ 6)) eA) (gO (decide (a 0 7 < 3)) eS)
def g3_exam (a : Mem) : Option String := gO (decide (a 0 8 < 6)) eS
def g3_pupil (a : Mem) : Option String := gO (decide (a 0 9 < 10)) eS
def g3_offer (a : Mem) (ex s r : Int32) : Option String := gS (gE a ex) (gS (gO (inB r (a 0 7)) eI) (gS (gL s) (gS (gO (decide (a 69 (tn s) = 0) && !anyN (rtB a r s) (nO a)) eU) (gO (decide (a 0 10 < 12)) eS))))
def a3_open (a : Mem) (i : Nat) (e1 e2 e3 e4 e5 : Int32) : Mem := up2 (up2 (up2 (up2 (up2 a (18 + 4 * i) 0 e1) (18 + 4 * i) 1 e2) (18 + 4 * i) 2 e3) (18 + 4 * i) 3 e4) (18 + 4 * i) 4 e5
def a3_offer (a : Mem) (ex s r z : Int32) : Mem := up2 (a3_open a (nO a) ex s r (a 66 (tn r)) z) 0 10 (nI (nO a + 1))
def s3_bid (a : Mem) (p q v : Int32) : Int32 := sumN (smB a p) (bW a) - ptB a p q (bW a) + v
def g3_bid (a : Mem) (p q v : Int32) : Option String := gS (gP a p) (gS (gQ a q) (gS (gO (decide (¬ v < 1) && decide (v ≤ 100)) eA) (gO (!clB a (tn q) && decide (s3_bid a p q v ≤ a 67 (tn p))) eU)))
def a3_bid (a : Mem) (p q v : Int32) : Mem := tellA (outA a p q (bW a)) p q v (bW (outA a p q (bW a)))
def g3_unbid (a : Mem) (p q : Int32) : Option String := gS (gP a p) (gS (gQ a q) (gO (decide (¬ ptB a p q (bW a) = 0)) eN))
def g3_seat (a : Mem) (p ex z : Int32) : Option String := gS (gP a p) (gS (gE a ex) (gO (anyN (hfB a (tn p) ex z) (nO a)) eN))
def g3_at (a : Mem) (p s : Int32) : Option String := gS (gP a p) (gS (gL s) (gO (anyN (haB a (tn p) s) (nO a)) eN))
def g3_holder (a : Mem) (q idx : Int32) : Option String := gS (gQ a q) (gO (anyN (nthS (hs a (tn q)) idx) 10) eN)
def g3_paid (a : Mem) (p q : Int32) : Option String := gS (gP a p) (gS (gQ a q) (gO (hs a (tn q) (tn p)) eN))
def g3_waiter (a : Mem) (q idx : Int32) : Option String := gS (gQ a q) (gO (inB idx (a (18 + 4 * tn q) 8)) eN)
def g3_giveUp (a : Mem) (p q : Int32) : Option String := gS (gP a p) (gS (gQ a q) (gO (!clB a (tn q) && hs a (tn q) (tn p)) eU))
/-- a seat given up, before anybody moves up -/
def guA (a : Mem) (p i : Nat) : Mem := up2 (payA (up2 a (18 + 4 * i + 1) p (-1)) p (a (18 + 4 * i + 1) p / 2)) 68 p (a 68 p + (a (18 + 4 * i + 1) p - a (18 + 4 * i + 1) p / 2))
def mvK (a : Mem) (i : Nat) (s : Int32) : Nat → Mem
  | 0 => a
  | p + 1 => if hs a i p = true then lostA (mvK a i s p) i p s else mvK a i s p
def mvC (a : Mem) (i : Nat) (s : Int32) : Nat → Nat
  | 0 => 0
  | p + 1 => mvC a i s p + (if (hs a i p && lostB (mvK a i s p) p s) = true then 1 else 0)
def g3_move (a : Mem) (q s : Int32) : Option String := gS (gQ a q) (gS (gL s) (gO (!clB a (tn q) && decide (a 69 (tn s) = 0) && !anyN (rtB a (a (18 + 4 * tn q) 2) s) (nO a)) eU))
def mvA (a : Mem) (i : Nat) (s : Int32) : Mem := up2 (mvK a i s (nP a)) (18 + 4 * i) 1 s
def a3_move (a : Mem) (i : Nat) (s : Int32) : Mem := maR i (stN (mvA a i s) i) (mvA a i s)
def g3_write (a : Mem) (t p e f v : Int32) : Option String := gS (gT t) (gS (gP a p) (gS (gE a e) (gS (gF f) (gO (rngB (nI (fNat f)) v) eA))))
def g3_read (a : Mem) (t p e f : Int32) : Option String := gS (gT t) (gS (gP a p) (gS (gE a e) (gF f)))
def g3_sync (t u : Int32) : Option String := gS (gT t) (gS (gT u) (gO (decide (¬ t = u)) eA))
def g3_setOwner (a : Mem) (f t : Int32) : Option String := gS (gF f) (gS (gT t) (gO (!anyN (dif a (ow a (fNat f) * 3 + fNat f) (tn t * 3 + fNat f)) 60) eU))
def g3_maySit (a : Mem) (p e : Int32) : Option String := gS (gP a p) (gE a e)
def siK (a : Mem) (s : Int32) : Nat → Mem
  | 0 => a
  | i + 1 => if a (18 + 4 * i) 1 = s then lsK (siK a s i) i (nP (siK a s i)) else siK a s i
def siC (a : Mem) (s : Int32) : Nat → Nat
  | 0 => 0
  | i + 1 => siC a s i + (if a (18 + 4 * i) 1 = s then cntN (satB (siK a s i) i) (nP (siK a s i)) else 0)
def g3_sit (a : Mem) (s : Int32) : Option String := gS (gL s) (gO (decide (a 69 (tn s) = 0)) eU)
def hsB (a : Mem) (p ex z : Int32) : Bool := anyN (hfB a (tn p) ex z) (nO a) && clB a (firN (hfB a (tn p) ex z) (nO a))
theorem outA_n {a : Mem} (hW : WC a) {P O : Int32} : isN (outA a P O (bW a) 13 3) 120 := by
  unfold outA
  split
  · rw [del3_n]
    exact isN.of rfl (by have := hW.bl; omega) (by decide)
  · exact hW.b
theorem lostA_s {a : Mem} {i p c k : Nat} {s : Int32} (h : c ≠ 67 ∧ (c ≠ 0 ∨ k ≠ 12) ∧ (c ≠ 18 + 4 * i + 1 ∨ k ≠ p)) : lostA a i p s c k = a c k := by
  unfold lostA payA
  split
  · rw [up2_o (by omega), up2_o (by omega), up2_o (by omega)]
  · rw [up2_o (by omega), up2_o (by omega), up2_o (by omega)]
theorem mvK_s {a : Mem} {i c k : Nat} {s : Int32} : ∀ n, c ≠ 67 → (c ≠ 0 ∨ k ≠ 12) → (c ≠ 18 + 4 * i + 1 ∨ n ≤ k) → mvK a i s n c k = a c k := by
  intro n
  induction n with
  | zero => intro _ _ _; rfl
  | succ n ih =>
    intro h1 h2 h3
    simp only [mvK]
    split
    · rw [lostA_s (by omega)]
      exact ih h1 h2 (by omega)
    · exact ih h1 h2 (by omega)
theorem WC.mv {a : Mem} (hW : WC a) {i : Nat} {s : Int32} (hi : i < 12) : ∀ n, WC (mvK a i s n) := by
  intro n
  induction n with
  | zero => exact hW
  | succ n ih =>
    simp only [mvK]
    split
    · exact ih.lost hi
    · exact ih
theorem WC.slot {a : Mem} (hW : WC a) {i n : Nat} (hi : i < 12) (hn : n < 6) : WC (up2 a (18 + 4 * i) 1 (nI n)) := by
  have e : ∀ c k, (c ≠ 18 + 4 * i ∨ k ≠ 1) → up2 a (18 + 4 * i) 1 (nI n) c k = a c k := fun c k h => up2_o (by omega)
  obtain ⟨h1, h2, h3, h4, h5, h6, h7, h8, h9⟩ := hW
  unfold WC bW
  rw [e 0 7 (by omega), e 0 8 (by omega), e 0 9 (by omega), e 0 10 (by omega), e 13 3 (by omega)]
  refine ⟨h1, h2, h3, h4, fun j hj => ?_, fun f hf => by rw [e 12 f (by omega)]; exact h6 f hf, h7, fun k hk => by rw [e 14 k (by omega), e 15 k (by omega)]; exact h8 k hk, fun s hs => by rw [e 69 s (by omega)]; exact h9 s hs⟩
  obtain ⟨g1, g2, g3, g4, g5, g6⟩ := h5 j hj
  unfold WO qW
  rw [e (18 + 4 * j) 0 (by omega), e (18 + 4 * j) 4 (by omega), e (18 + 4 * j) 8 (by omega), e (18 + 4 * j) 3 (by omega)]
  refine ⟨g1, ?_, g3, g4, g5, fun k hk => by rw [e (18 + 4 * j + 2) k (by omega)]; exact g6 k hk⟩
  by_cases hji : j = i
  · subst hji
    rw [up2_s]
    exact isN.of rfl (by omega) (by decide)
  · rw [e (18 + 4 * j) 1 (by omega)]
    exact g2
theorem WC.forf {a : Mem} (hw : WC a) {p : Nat} {v : Int32} : WC (up2 a 68 p v) := hw.congr (fun c k c1 c2 c3 c4 => up2_o (Or.inl c2))
theorem WC.gu {a : Mem} (hw : WC a) {p i : Nat} (hi : i < 12) : WC (guA a p i) := ((hw.paid hi).pay).forf
theorem siK_s {a : Mem} {s : Int32} {c k : Nat} : ∀ n, c ≠ 67 → (c ≠ 0 ∨ k ≠ 12) → (c < 18 ∨ 18 + 4 * n ≤ c ∨ (c - 18) % 4 ≠ 1) → siK a s n c k = a c k := by
  intro n
  induction n with
  | zero => intro _ _ _; rfl
  | succ n ih =>
    intro h1 h2 h3
    simp only [siK]
    split
    · rw [lsK_o _ h1 h2 (by omega)]
      exact ih h1 h2 (by omega)
    · exact ih h1 h2 (by omega)
theorem WC.si {a : Mem} (hW : WC a) {s : Int32} : ∀ n, n ≤ 12 → WC (siK a s n) := by
  intro n
  induction n with
  | zero => intro _; exact hW
  | succ n ih =>
    intro hn
    simp only [siK]
    split
    · exact (ih (by omega)).ls (by omega) _
    · exact ih (by omega)
set_option maxHeartbeats 4000000 in
set_option maxRecDepth 100000 in
theorem c_X3_room {l : Launch} {x : Sh} {a b : Mem} {o : Out} (hfl : l.stackTraces = false) (hW : WC a) {v : Int32} : XG l x yX3_room cX3_room 2 (some .int) 6 280 1 6 [.ref (x.2.1 0), .int v] a b o (QI x o (GI (g3_room a v) (nI (nR a)) (a3_room a v) b)) (GX (g3_room a v)) := by
  refine XG.of (maxL := 2) (ret := (some .int)) hfl (by decide) [some (.ref (x.2.1 0)), some (.int v)] rfl rfl (Nat.le_of_ble_eq_true rfl) ?_
  intro pP eE sS mM argsA belowB methM cC C hr ht
  have ho12 := hW.ol
  have hp10 := hW.pl
  have he6 := hW.el
  have hr3 := hW.rl
  refine V_iload_n C dX3_room_0 rfl ?_
  refine V_iconst (v := 1) C dX3_room_1 (by decide) ?_
  refine V_icmp_lt C 11 dX3_room_2 (by decide) (fun h2 => ?_) (fun h2 => ?_)
  · exact V_throwS (text := "seats out of range") C ht tw_X3_IllegalArgumentException (by decide +kernel) (by first | (simp [GX, g3_room, gS, gO, h2]; done) | (simp [GX, g3_room, gS, gO, h8]; done)) dX3_room_11 dX3_room_14 dX3_room_15 dX3_room_17 dX3_room_20 (by decide) (by decide)
  · refine V_iload_n C dX3_room_5 rfl ?_
    refine V_bipush (v := 6) C dX3_room_6 (by decide) ?_
    refine V_icmp_le C 21 dX3_room_8 (by decide) (fun h8 => ?_) (fun h8 => ?_)
    · refine V_aload_n C dX3_room_21 rfl ?_
      refine gt_X3_roomCount C fk_X3_51 dX3_room_22 ?_
      refine V_iconst (v := 3) C dX3_room_25 (by decide) ?_
      refine V_icmp_lt C 39 dX3_room_26 (by decide) (fun h26 => ?_) (fun h26 => ?_)
      · have q3 : nR a < 3 := by
          have := h26
          rw [hW.re] at this
          exact (nI_ltI (by omega) (by omega)).mp this
        refine V_aload_n C dX3_room_39 rfl ?_
        refine gt_X3_seatsOfRoom C fk_X3_30 dX3_room_40 ?_
        refine V_aload_n C dX3_room_43 rfl ?_
        refine gt_X3_roomCount C fk_X3_51 dX3_room_44 ?_
        refine V_topi hW.re ?_
        refine V_iload_n C dX3_room_47 rfl ?_
        refine sa_seatsOf C _ rfl (by omega) dX3_room_48 ?_
        refine V_aload_n C dX3_room_49 rfl ?_
        refine V_dup C dX3_room_50 rfl ?_
        refine gt_X3_roomCount C fk_X3_51 dX3_room_51 ?_
        refine V_topi ((up2_o (by omega)).trans hW.re) ?_
        refine V_iconst (v := 1) C dX3_room_54 (by decide) ?_
        refine V_iadd C dX3_room_55 ?_
        refine V_topi (nI_1 _) ?_
        refine pt_X3_roomCount C fk_X3_51 dX3_room_56 ?_
        refine V_aload_n C dX3_room_59 rfl ?_
        refine gt_X3_roomCount C fk_X3_51 dX3_room_60 ?_
        refine V_topi up2_s ?_
        refine V_iconst (v := 1) C dX3_room_63 (by decide) ?_
        refine V_isub C dX3_room_64 ?_
        refine V_topi (nI_pred _) ?_
        refine V_xret (by omega) (by omega) ?_
        exact V_ireti C hr dX3_room_65 ⟨by simp [g3_room, gS, gO, h2, h8, h26], rfl, rfl, rfl⟩
      · exact V_throwS (text := "no more rooms") C ht tw_X3_IllegalStateException (by decide +kernel) (by simp [GX, g3_room, gS, gO, h2, h8, h26]) dX3_room_29 dX3_room_32 dX3_room_33 dX3_room_35 dX3_room_38 (by decide) (by decide)
    · exact V_throwS (text := "seats out of range") C ht tw_X3_IllegalArgumentException (by decide +kernel) (by first | (simp [GX, g3_room, gS, gO, h2]; done) | (simp [GX, g3_room, gS, gO, h8]; done)) dX3_room_11 dX3_room_14 dX3_room_15 dX3_room_17 dX3_room_20 (by decide) (by decide)
set_option maxHeartbeats 4000000 in
set_option maxRecDepth 100000 in
theorem c_X3_exam {l : Launch} {x : Sh} {a b : Mem} {o : Out} (hfl : l.stackTraces = false) (hW : WC a)  : XG l x yX3_exam cX3_exam 1 (some .int) 6 280 1 6 [.ref (x.2.1 0)] a b o (QI x o (GI (g3_exam a) (nI (nE a)) (up2 a 0 8 (nI (nE a + 1))) b)) (GX (g3_exam a)) := by
  refine XG.of (maxL := 1) (ret := (some .int)) hfl (by decide) [some (.ref (x.2.1 0))] rfl rfl (Nat.le_of_ble_eq_true rfl) ?_
  intro pP eE sS mM argsA belowB methM cC C hr ht
  have ho12 := hW.ol
  have hp10 := hW.pl
  have he6 := hW.el
  refine V_aload_n C dX3_exam_0 rfl ?_
  refine gt_X3_examCount C fk_X3_60 dX3_exam_1 ?_
  refine V_bipush (v := 6) C dX3_exam_4 (by decide) ?_
  refine V_icmp_lt C 19 dX3_exam_6 (by decide) (fun h6 => ?_) (fun h6 => ?_)
  · refine V_aload_n C dX3_exam_19 rfl ?_
    refine V_dup C dX3_exam_20 rfl ?_
    refine gt_X3_examCount C fk_X3_60 dX3_exam_21 ?_
    refine V_topi hW.ee ?_
    refine V_iconst (v := 1) C dX3_exam_24 (by decide) ?_
    refine V_iadd C dX3_exam_25 ?_
    refine V_topi (nI_1 _) ?_
    refine pt_X3_examCount C fk_X3_60 dX3_exam_26 ?_
    refine V_aload_n C dX3_exam_29 rfl ?_
    refine gt_X3_examCount C fk_X3_60 dX3_exam_30 ?_
    refine V_topi up2_s ?_
    refine V_iconst (v := 1) C dX3_exam_33 (by decide) ?_
    refine V_isub C dX3_exam_34 ?_
    refine V_topi (nI_pred _) ?_
    refine V_xret (by omega) (by omega) ?_
    exact V_ireti C hr dX3_exam_35 ⟨by simp [g3_exam, gO, h6], rfl, rfl, rfl⟩
  · exact V_throwS (text := "no more exams") C ht tw_X3_IllegalStateException (by decide +kernel) (by simp [GX, g3_exam, gO, h6]) dX3_exam_9 dX3_exam_12 dX3_exam_13 dX3_exam_15 dX3_exam_18 (by decide) (by decide)
set_option maxHeartbeats 4000000 in
set_option maxRecDepth 100000 in
theorem c_X3_pupil {l : Launch} {x : Sh} {a b : Mem} {o : Out} (hfl : l.stackTraces = false) (hW : WC a)  : XG l x yX3_pupil cX3_pupil 1 (some .int) 6 280 1 6 [.ref (x.2.1 0)] a b o (QI x o (GI (g3_pupil a) (nI (nP a)) (up2 (up2 a 67 (nP a) 100) 0 9 (nI (nP a + 1))) b)) (GX (g3_pupil a)) := by
  refine XG.of (maxL := 1) (ret := (some .int)) hfl (by decide) [some (.ref (x.2.1 0))] rfl rfl (Nat.le_of_ble_eq_true rfl) ?_
  intro pP eE sS mM argsA belowB methM cC C hr ht
  have ho12 := hW.ol
  have hp10 := hW.pl
  have he6 := hW.el
  refine V_aload_n C dX3_pupil_0 rfl ?_
  refine gt_X3_pupilCount C fk_X3_65 dX3_pupil_1 ?_
  refine V_bipush (v := 10) C dX3_pupil_4 (by decide) ?_
  refine V_icmp_lt C 19 dX3_pupil_6 (by decide) (fun h6 => ?_) (fun h6 => ?_)
  · have q3 : nP a < 10 := by
      have := h6
      rw [hW.pe] at this
      exact (nI_ltI (by omega) (by omega)).mp this
    refine V_aload_n C dX3_pupil_19 rfl ?_
    refine gt_X3_pointsLeft C fk_X3_34 dX3_pupil_20 ?_
    refine V_aload_n C dX3_pupil_23 rfl ?_
    refine gt_X3_pupilCount C fk_X3_65 dX3_pupil_24 ?_
    refine V_topi hW.pe ?_
    refine V_bipush (v := 100) C dX3_pupil_27 (by decide) ?_
    refine sa_left C _ rfl (by omega) dX3_pupil_29 ?_
    refine V_aload_n C dX3_pupil_30 rfl ?_
    refine V_dup C dX3_pupil_31 rfl ?_
    refine gt_X3_pupilCount C fk_X3_65 dX3_pupil_32 ?_
    refine V_topi ((up2_o (by omega)).trans hW.pe) ?_
    refine V_iconst (v := 1) C dX3_pupil_35 (by decide) ?_
    refine V_iadd C dX3_pupil_36 ?_
    refine V_topi (nI_1 _) ?_
    refine pt_X3_pupilCount C fk_X3_65 dX3_pupil_37 ?_
    refine V_aload_n C dX3_pupil_40 rfl ?_
    refine gt_X3_pupilCount C fk_X3_65 dX3_pupil_41 ?_
    refine V_topi up2_s ?_
    refine V_iconst (v := 1) C dX3_pupil_44 (by decide) ?_
    refine V_isub C dX3_pupil_45 ?_
    refine V_topi (nI_pred _) ?_
    refine V_xret (by omega) (by omega) ?_
    exact V_ireti C hr dX3_pupil_46 ⟨by simp [g3_pupil, gO, h6], rfl, rfl, rfl⟩
  · exact V_throwS (text := "no more pupils") C ht tw_X3_IllegalStateException (by decide +kernel) (by simp [GX, g3_pupil, gO, h6]) dX3_pupil_9 dX3_pupil_12 dX3_pupil_13 dX3_pupil_15 dX3_pupil_18 (by decide) (by decide)
set_option maxHeartbeats 4000000 in
set_option maxRecDepth 100000 in
theorem c_X3_offer {l : Launch} {x : Sh} {a b : Mem} {o : Out} (hfl : l.stackTraces = false) (hW : WC a) {ex s r z : Int32} (hz : z = 0 ∨ z = 1) : XG l x yX3_offer cX3_offer 5 (some .int) 7 320 5 30 [.ref (x.2.1 0), .int ex, .int s, .int r, .int z] a b o (QI x o (GI (g3_offer a ex s r) (nI (nO a)) (a3_offer a ex s r z) b)) (GX (g3_offer a ex s r)) := by
  refine XG.of (maxL := 5) (ret := (some .int)) hfl (by decide) [some (.ref (x.2.1 0)), some (.int ex), some (.int s), some (.int r), some (.int z)] rfl rfl (Nat.le_of_ble_eq_true rfl) ?_
  intro pP eE sS mM argsA belowB methM cC C hr ht
  have ho12 := hW.ol
  have hp10 := hW.pl
  have he6 := hW.el
  have hr3 := hW.rl
  refine V_aload_n C dX3_offer_0 rfl ?_
  refine V_iload_n C dX3_offer_1 rfl ?_
  refine V_xcallg_v C ht (RX_V C (c_X3_needExam hfl) mi_X3_needExam mk_X3_70 rfl (by omega) rfl (rfl : vwCl[5]? = some (RX3, TX3, 13)) (by decide) rfl (Nat.le_of_ble_eq_true rfl) (by decide) dX3_offer_2) (by intro E hE; simp only [GX] at hE ⊢; simp [g3_offer, gS, gP, gE, gQ, gT, gL, gF, GX, gS, hE]) (by decide) (fun hg2 => ?_)
  have hb2 := gO_n.mp hg2
  obtain ⟨ke, hke, kee⟩ := ix_of hg2 hW.ee (by omega)
  subst kee
  have tke : tn (nI ke) = ke := tn_nI (by omega)
  try rw [tke]
  refine V_iload_n C dX3_offer_5 rfl ?_
  refine V_if_lt C 17 dX3_offer_6 (by decide) (fun h6 => ?_) (fun h6 => ?_)
  · have f6 : inB r (a 0 7) = false := by simp [inB, h6]
    exact V_throwS (text := "no such room") C ht tw_X3_IndexOutOfBoundsException (by decide +kernel) (by first | (simp [GX, g3_offer, gS, gO, hb2, f6]; done) | (simp [GX, g3_offer, gS, gO, hb2, tsy, h37]; done) | (simp [GX, g3_offer, gS, gO, hb2, tsy, h37, h46]; done) | (simp [GX, g3_offer, gS, gO, hb2, tsy, h37, h46, h65]; done)) dX3_offer_17 dX3_offer_20 dX3_offer_21 dX3_offer_23 dX3_offer_26 (by decide) (by decide)
  · refine V_iload_n C dX3_offer_9 rfl ?_
    refine V_aload_n C dX3_offer_10 rfl ?_
    refine gt_X3_roomCount C fk_X3_51 dX3_offer_11 ?_
    refine V_icmp_lt C 27 dX3_offer_14 (by decide) (fun h14 => ?_) (fun h14 => ?_)
    · have hgr : gO (inB r (a 0 7)) eI = none := gO_n.mpr (by simp [inB, h6, h14])
      have hbr := gO_n.mp hgr
      obtain ⟨wr, hwr, wre⟩ := ix_of hgr hW.re (by omega)
      subst wre
      have twr : tn (nI wr) = wr := tn_nI (by omega)
      try rw [twr]
      refine V_iload_n C dX3_offer_27 rfl ?_
      refine V_xcallg_v C ht (RX_S C (c_X3_needSlot hfl) mi_X3_needSlot mk_X3_79 rfl (by decide) rfl (Nat.le_of_ble_eq_true rfl) (by decide) dX3_offer_28) (by intro E hE; simp only [GX] at hE ⊢; simp [g3_offer, gS, gP, gE, gQ, gT, gL, gF, GX, gS, hE, hg2, hgr]) (by decide) (fun hg28 => ?_)
      have hb28 := gO_n.mp hg28
      obtain ⟨sy, hsy, sye⟩ := ix_of (N := 6) hg28 rfl (by decide)
      subst sye
      have tsy : tn (nI sy) = sy := tn_nI (by omega)
      try rw [tsy]
      refine V_aload_n C dX3_offer_31 rfl ?_
      refine gt_X3_slotWasSat C fk_X3_40 dX3_offer_32 ?_
      refine V_iload_n C dX3_offer_35 rfl ?_
      refine la_wasSat C _ rfl (by omega) dX3_offer_36 ?_
      refine V_if_ne C 49 dX3_offer_37 (by decide) (fun h37 => ?_) (fun h37 => ?_)
      · exact V_throwS (text := "room taken or slot sat") C ht tw_X3_UnsupportedOperationException (by decide +kernel) (by first | (simp [GX, g3_offer, gS, gO, hb2, hbr, hb28, f6]; done) | (simp [GX, g3_offer, gS, gO, hb2, hbr, hb28, tsy, h37]; done) | (simp [GX, g3_offer, gS, gO, hb2, hbr, hb28, tsy, h37, h46]; done) | (simp [GX, g3_offer, gS, gO, hb2, hbr, hb28, tsy, h37, h46, h65]; done)) dX3_offer_49 dX3_offer_52 dX3_offer_53 dX3_offer_55 dX3_offer_58 (by decide) (by decide)
      · have h37 : a 69 sy = 0 := by simpa using h37
        refine V_aload_n C dX3_offer_40 rfl ?_
        refine V_iload_n C dX3_offer_41 rfl ?_
        refine V_iload_n C dX3_offer_42 rfl ?_
        refine V_callf (R_V C (c_X3_isRoomTaken hfl hW) mi_X3_isRoomTaken mk_X3_82 rfl (by omega) rfl (rfl : vwCl[5]? = some (RX3, TX3, 13)) (by decide) rfl (Nat.le_of_ble_eq_true rfl) (by decide) dX3_offer_43) ?_
        refine V_ifb_eq C 59 dX3_offer_46 (by decide) (fun h46 => ?_) (fun h46 => ?_)
        · refine V_aload_n C dX3_offer_59 rfl ?_
          refine gt_X3_offerCount C fk_X3_91 dX3_offer_60 ?_
          refine V_bipush (v := 12) C dX3_offer_63 (by decide) ?_
          refine V_icmp_lt C 78 dX3_offer_65 (by decide) (fun h65 => ?_) (fun h65 => ?_)
          · have q3 : nO a < 12 := by
              have := h65
              rw [hW.oe] at this
              exact (nI_ltI (by omega) (by omega)).mp this
            refine V_aload_n C dX3_offer_78 rfl ?_
            refine gt_X3_offers C fk_X3_25 dX3_offer_79 ?_
            refine V_aload_n C dX3_offer_82 rfl ?_
            refine gt_X3_offerCount C fk_X3_91 dX3_offer_83 ?_
            refine V_topi hW.oe ?_
            refine la_offers C _ rfl (by omega) dX3_offer_86 ?_
            refine V_iload_n C dX3_offer_87 rfl ?_
            refine V_iload_n C dX3_offer_88 rfl ?_
            refine V_iload_n C dX3_offer_89 rfl ?_
            refine V_aload_n C dX3_offer_90 rfl ?_
            refine gt_X3_seatsOfRoom C fk_X3_30 dX3_offer_91 ?_
            refine V_iload_n C dX3_offer_94 rfl ?_
            refine la_seatsOf C _ rfl (by omega) dX3_offer_95 ?_
            refine V_iload C dX3_offer_96 rfl ?_
            refine V_callfv (R_VN C (c_X0_open hfl (i := nO a) (by omega) hz) mi_X0_open mk_X3_96 rfl (by omega) ((GE_C (by omega)).trans (GC_O (by omega))) (rfl : vwCl[2]? = some (RX0, TX0, 9)) (by decide) rfl (Nat.le_of_ble_eq_true rfl) (by decide) dX3_offer_98) ?_
            refine V_aload_n C dX3_offer_101 rfl ?_
            refine V_dup C dX3_offer_102 rfl ?_
            refine gt_X3_offerCount C fk_X3_91 dX3_offer_103 ?_
            refine V_topi ((up2_o (by omega)).trans ((up2_o (by omega)).trans ((up2_o (by omega)).trans ((up2_o (by omega)).trans ((up2_o (by omega)).trans hW.oe))))) ?_
            refine V_iconst (v := 1) C dX3_offer_106 (by decide) ?_
            refine V_iadd C dX3_offer_107 ?_
            refine V_topi (nI_1 _) ?_
            refine pt_X3_offerCount C fk_X3_91 dX3_offer_108 ?_
            refine V_aload_n C dX3_offer_111 rfl ?_
            refine gt_X3_offerCount C fk_X3_91 dX3_offer_112 ?_
            refine V_topi up2_s ?_
            refine V_iconst (v := 1) C dX3_offer_115 (by decide) ?_
            refine V_isub C dX3_offer_116 ?_
            refine V_topi (nI_pred _) ?_
            refine V_xret (by omega) (by omega) ?_
            exact V_ireti C hr dX3_offer_117 ⟨by simp [g3_offer, gS, gO, hb2, hbr, hb28, tsy, h37, h46, h65], rfl, by rw [a3_offer, twr]; rfl, rfl⟩
          · exact V_throwS (text := "no more offers") C ht tw_X3_IllegalStateException (by decide +kernel) (by first | (simp [GX, g3_offer, gS, gO, hb2, hbr, hb28, f6]; done) | (simp [GX, g3_offer, gS, gO, hb2, hbr, hb28, tsy, h37]; done) | (simp [GX, g3_offer, gS, gO, hb2, hbr, hb28, tsy, h37, h46]; done) | (simp [GX, g3_offer, gS, gO, hb2, hbr, hb28, tsy, h37, h46, h65]; done)) dX3_offer_68 dX3_offer_71 dX3_offer_72 dX3_offer_74 dX3_offer_77 (by decide) (by decide)
        · exact V_throwS (text := "room taken or slot sat") C ht tw_X3_UnsupportedOperationException (by decide +kernel) (by first | (simp [GX, g3_offer, gS, gO, hb2, hbr, hb28, f6]; done) | (simp [GX, g3_offer, gS, gO, hb2, hbr, hb28, tsy, h37]; done) | (simp [GX, g3_offer, gS, gO, hb2, hbr, hb28, tsy, h37, h46]; done) | (simp [GX, g3_offer, gS, gO, hb2, hbr, hb28, tsy, h37, h46, h65]; done)) dX3_offer_49 dX3_offer_52 dX3_offer_53 dX3_offer_55 dX3_offer_58 (by decide) (by decide)
    · have f6 : inB r (a 0 7) = false := by simp [inB, h6, h14]
      exact V_throwS (text := "no such room") C ht tw_X3_IndexOutOfBoundsException (by decide +kernel) (by first | (simp [GX, g3_offer, gS, gO, hb2, f6]; done) | (simp [GX, g3_offer, gS, gO, hb2, tsy, h37]; done) | (simp [GX, g3_offer, gS, gO, hb2, tsy, h37, h46]; done) | (simp [GX, g3_offer, gS, gO, hb2, tsy, h37, h46, h65]; done)) dX3_offer_17 dX3_offer_20 dX3_offer_21 dX3_offer_23 dX3_offer_26 (by decide) (by decide)
set_option maxHeartbeats 4000000 in
set_option maxRecDepth 100000 in
theorem c_X3_slotOf {l : Launch} {x : Sh} {a b : Mem} {o : Out} (hfl : l.stackTraces = false) (hW : WC a) {q : Int32} : XG l x yX3_slotOf cX3_slotOf 2 (some .int) 8 360 1 6 [.ref (x.2.1 0), .int q] a b o (QI x o (GI (gQ a q) (a (18 + 4 * tn q) 1) a b)) (GX (gQ a q)) := by
  refine XG.of (maxL := 2) (ret := (some .int)) hfl (by decide) [some (.ref (x.2.1 0)), some (.int q)] rfl rfl (Nat.le_of_ble_eq_true rfl) ?_
  intro pP eE sS mM argsA belowB methM cC C hr ht
  have ho12 := hW.ol
  have hp10 := hW.pl
  have he6 := hW.el
  refine V_aload_n C dX3_slotOf_0 rfl ?_
  refine V_iload_n C dX3_slotOf_1 rfl ?_
  refine V_xcallg_r C ht (RX_V C (c_X3_offerNumbered hfl hW) mi_X3_offerNumbered mk_X3_100 rfl (by omega) rfl (rfl : vwCl[5]? = some (RX3, TX3, 13)) (by decide) rfl (Nat.le_of_ble_eq_true rfl) (by decide) dX3_slotOf_2) (fun E hE => hE) (by decide) (fun hg2 => ?_)
  have hb2 := gO_n.mp hg2
  obtain ⟨iq, hiq, iqe⟩ := ix_of hg2 hW.oe (by omega)
  subst iqe
  have tiq : tn (nI iq) = iq := tn_nI (by omega)
  try rw [tiq]
  refine gt_X0_slot C (by omega) fk_X3_104 dX3_slotOf_5 ?_
  refine V_xret (by omega) (by omega) ?_
  exact V_ireti C hr dX3_slotOf_8 ⟨hg2, rfl, rfl, rfl⟩
set_option maxHeartbeats 4000000 in
set_option maxRecDepth 100000 in
theorem c_X3_bid {l : Launch} {x : Sh} {a b : Mem} {o : Out} (hfl : l.stackTraces = false) (hW : WC a) {p q v : Int32} : XG l x yX3_bid cX3_bid 6 (some .int) 8 360 3 18 [.ref (x.2.1 0), .int p, .int q, .int v] a b o (QI x o (GI (g3_bid a p q v) (s3_bid a p q v) (a3_bid a p q v) b)) (GX (g3_bid a p q v)) := by
  refine XG.of (maxL := 6) (ret := (some .int)) hfl (by decide) [some (.ref (x.2.1 0)), some (.int p), some (.int q), some (.int v), none, none] rfl rfl (Nat.le_of_ble_eq_true rfl) ?_
  intro pP eE sS mM argsA belowB methM cC C hr ht
  have ho12 := hW.ol
  have hp10 := hW.pl
  have he6 := hW.el
  have hb120 := hW.bl
  have ho1 := outA_n hW (P := p) (O := q)
  refine V_aload_n C dX3_bid_0 rfl ?_
  refine V_iload_n C dX3_bid_1 rfl ?_
  refine V_xcallg_v C ht (RX_V C (c_X3_needPupil hfl) mi_X3_needPupil mk_X3_107 rfl (by omega) rfl (rfl : vwCl[5]? = some (RX3, TX3, 13)) (by decide) rfl (Nat.le_of_ble_eq_true rfl) (by decide) dX3_bid_2) (by intro E hE; simp only [GX] at hE ⊢; simp [g3_bid, gS, gP, gE, gQ, gT, gL, gF, GX, gS, hE]) (by decide) (fun hg2 => ?_)
  have hb2 := gO_n.mp hg2
  obtain ⟨jp, hjp, jpe⟩ := ix_of hg2 hW.pe (by omega)
  subst jpe
  have tjp : tn (nI jp) = jp := tn_nI (by omega)
  try rw [tjp]
  refine V_aload_n C dX3_bid_5 rfl ?_
  refine V_iload_n C dX3_bid_6 rfl ?_
  refine V_xcallg_r C ht (RX_V C (c_X3_offerNumbered hfl hW) mi_X3_offerNumbered mk_X3_100 rfl (by omega) rfl (rfl : vwCl[5]? = some (RX3, TX3, 13)) (by decide) rfl (Nat.le_of_ble_eq_true rfl) (by decide) dX3_bid_7) (by intro E hE; simp only [GX] at hE ⊢; simp [g3_bid, gS, gP, gE, gQ, gT, gL, gF, GX, gS, hE, hg2]) (by decide) (fun hg7 => ?_)
  have hb7 := gO_n.mp hg7
  obtain ⟨iq, hiq, iqe⟩ := ix_of hg7 hW.oe (by omega)
  subst iqe
  have tiq : tn (nI iq) = iq := tn_nI (by omega)
  try rw [tiq]
  refine V_astore_4 C dX3_bid_10 (by decide) ?_
  refine V_iload_n C dX3_bid_12 rfl ?_
  refine V_iconst (v := 1) C dX3_bid_13 (by decide) ?_
  refine V_icmp_lt C 23 dX3_bid_14 (by decide) (fun h14 => ?_) (fun h14 => ?_)
  · exact V_throwS (text := "points out of range") C ht tw_X3_IllegalArgumentException (by decide +kernel) (by first | (simp [GX, g3_bid, gS, gO, hb2, hb7, h14]; done) | (simp [GX, g3_bid, gS, gO, hb2, hb7, h14, h20]; done) | (simp [GX, g3_bid, gS, gO, hb2, hb7, tjp, tiq, h14, h20, h61]; done) | (simp [GX, g3_bid, gS, gO, hb2, hb7, tjp, tiq, h14, h20, h61, show ¬ s3_bid a (nI jp) (nI iq) v ≤ a 67 jp from h72]; done)) dX3_bid_23 dX3_bid_26 dX3_bid_27 dX3_bid_29 dX3_bid_32 (by decide) (by decide)
  · refine V_iload_n C dX3_bid_17 rfl ?_
    refine V_bipush (v := 100) C dX3_bid_18 (by decide) ?_
    refine V_icmp_le C 33 dX3_bid_20 (by decide) (fun h20 => ?_) (fun h20 => ?_)
    · refine V_aload_n C dX3_bid_33 rfl ?_
      refine gt_X3_round C fk_X3_19 dX3_bid_34 ?_
      refine V_iload_n C dX3_bid_37 rfl ?_
      refine V_callf (R_VN C (c_X2_sumOf hfl hW.be hW.bl) mi_X2_sumOf mk_X3_112 rfl (by omega) rfl (rfl : vwCl[4]? = some (RX2, TX2, 4)) (by decide) rfl (Nat.le_of_ble_eq_true rfl) (by decide) dX3_bid_38) ?_
      refine V_aload_n C dX3_bid_41 rfl ?_
      refine gt_X3_round C fk_X3_19 dX3_bid_42 ?_
      refine V_iload_n C dX3_bid_45 rfl ?_
      refine V_iload_n C dX3_bid_46 rfl ?_
      refine V_callf (R_VN C (c_X2_pointsBid hfl hW.be hW.bl) mi_X2_pointsBid mk_X3_116 rfl (by omega) rfl (rfl : vwCl[4]? = some (RX2, TX2, 4)) (by decide) rfl (Nat.le_of_ble_eq_true rfl) (by decide) dX3_bid_47) ?_
      refine V_isub C dX3_bid_50 ?_
      refine V_iload_n C dX3_bid_51 rfl ?_
      refine V_iadd C dX3_bid_52 ?_
      refine V_istore_5 C dX3_bid_53 (by decide) ?_
      refine V_aload_n C dX3_bid_55 rfl ?_
      refine V_aload C dX3_bid_56 rfl ?_
      refine V_callf (R_V C (c_X3_isClosed hfl hW (by omega)) mi_X3_isClosed mk_X3_120 rfl (by omega) rfl (rfl : vwCl[5]? = some (RX3, TX3, 13)) (by decide) rfl (Nat.le_of_ble_eq_true rfl) (by decide) dX3_bid_58) ?_
      refine V_ifb_ne C 75 dX3_bid_61 (by decide) (fun h61 => ?_) (fun h61 => ?_)
      · exact V_throwS (text := "offer closed or too few points") C ht tw_X3_UnsupportedOperationException (by decide +kernel) (by first | (simp [GX, g3_bid, gS, gO, hb2, hb7, h14]; done) | (simp [GX, g3_bid, gS, gO, hb2, hb7, h14, h20]; done) | (simp [GX, g3_bid, gS, gO, hb2, hb7, tjp, tiq, h14, h20, h61]; done) | (simp [GX, g3_bid, gS, gO, hb2, hb7, tjp, tiq, h14, h20, h61, show ¬ s3_bid a (nI jp) (nI iq) v ≤ a 67 jp from h72]; done)) dX3_bid_75 dX3_bid_78 dX3_bid_79 dX3_bid_81 dX3_bid_84 (by decide) (by decide)
      · refine V_iload C dX3_bid_64 rfl ?_
        refine V_aload_n C dX3_bid_66 rfl ?_
        refine gt_X3_pointsLeft C fk_X3_34 dX3_bid_67 ?_
        refine V_iload_n C dX3_bid_70 rfl ?_
        refine la_left C _ rfl (by omega) dX3_bid_71 ?_
        refine V_icmp_le C 85 dX3_bid_72 (by decide) (fun h72 => ?_) (fun h72 => ?_)
        · refine V_aload_n C dX3_bid_85 rfl ?_
          refine gt_X3_round C fk_X3_19 dX3_bid_86 ?_
          refine V_iload_n C dX3_bid_89 rfl ?_
          refine V_iload_n C dX3_bid_90 rfl ?_
          refine V_callfv (R_VN C (c_X2_takeOut hfl hW.be hW.bl) mi_X2_takeOut mk_X3_126 rfl (by omega) rfl (rfl : vwCl[4]? = some (RX2, TX2, 4)) (by decide) rfl (Nat.le_of_ble_eq_true rfl) (by decide) dX3_bid_91) ?_
          refine V_aload_n C dX3_bid_94 rfl ?_
          refine gt_X3_round C fk_X3_19 dX3_bid_95 ?_
          refine V_iload_n C dX3_bid_98 rfl ?_
          refine V_iload_n C dX3_bid_99 rfl ?_
          refine V_iload_n C dX3_bid_100 rfl ?_
          refine V_callfv (R_VN C (c_X2_tell hfl ho1.1 ho1.2) mi_X2_tell mk_X3_130 rfl (by omega) rfl (rfl : vwCl[4]? = some (RX2, TX2, 4)) (by decide) rfl (Nat.le_of_ble_eq_true rfl) (by decide) dX3_bid_101) ?_
          refine V_iload C dX3_bid_104 rfl ?_
          refine V_xret (by omega) (by omega) ?_
          exact V_ireti C hr dX3_bid_106 ⟨by simp [g3_bid, gS, gO, hb2, hb7, tjp, tiq, h14, h20, h61, show s3_bid a (nI jp) (nI iq) v ≤ a 67 jp from h72], rfl, rfl, rfl⟩
        · exact V_throwS (text := "offer closed or too few points") C ht tw_X3_UnsupportedOperationException (by decide +kernel) (by first | (simp [GX, g3_bid, gS, gO, hb2, hb7, h14]; done) | (simp [GX, g3_bid, gS, gO, hb2, hb7, h14, h20]; done) | (simp [GX, g3_bid, gS, gO, hb2, hb7, tjp, tiq, h14, h20, h61]; done) | (simp [GX, g3_bid, gS, gO, hb2, hb7, tjp, tiq, h14, h20, h61, show ¬ s3_bid a (nI jp) (nI iq) v ≤ a 67 jp from h72]; done)) dX3_bid_75 dX3_bid_78 dX3_bid_79 dX3_bid_81 dX3_bid_84 (by decide) (by decide)
    · exact V_throwS (text := "points out of range") C ht tw_X3_IllegalArgumentException (by decide +kernel) (by first | (simp [GX, g3_bid, gS, gO, hb2, hb7, h14]; done) | (simp [GX, g3_bid, gS, gO, hb2, hb7, h14, h20]; done) | (simp [GX, g3_bid, gS, gO, hb2, hb7, tjp, tiq, h14, h20, h61]; done) | (simp [GX, g3_bid, gS, gO, hb2, hb7, tjp, tiq, h14, h20, h61, show ¬ s3_bid a (nI jp) (nI iq) v ≤ a 67 jp from h72]; done)) dX3_bid_23 dX3_bid_26 dX3_bid_27 dX3_bid_29 dX3_bid_32 (by decide) (by decide)
set_option maxHeartbeats 4000000 in
set_option maxRecDepth 100000 in
theorem c_X3_unbid {l : Launch} {x : Sh} {a b : Mem} {o : Out} (hfl : l.stackTraces = false) (hW : WC a) {p q : Int32} : XG l x yX3_unbid cX3_unbid 4 (some .int) 8 360 3 18 [.ref (x.2.1 0), .int p, .int q] a b o (QI x o (GI (g3_unbid a p q) (ptB a p q (bW a)) (outA a p q (bW a)) b)) (GX (g3_unbid a p q)) := by
  refine XG.of (maxL := 4) (ret := (some .int)) hfl (by decide) [some (.ref (x.2.1 0)), some (.int p), some (.int q), none] rfl rfl (Nat.le_of_ble_eq_true rfl) ?_
  intro pP eE sS mM argsA belowB methM cC C hr ht
  have ho12 := hW.ol
  have hp10 := hW.pl
  have he6 := hW.el
  have hb120 := hW.bl
  refine V_aload_n C dX3_unbid_0 rfl ?_
  refine V_iload_n C dX3_unbid_1 rfl ?_
  refine V_xcallg_v C ht (RX_V C (c_X3_needPupil hfl) mi_X3_needPupil mk_X3_107 rfl (by omega) rfl (rfl : vwCl[5]? = some (RX3, TX3, 13)) (by decide) rfl (Nat.le_of_ble_eq_true rfl) (by decide) dX3_unbid_2) (by intro E hE; simp only [GX] at hE ⊢; simp [g3_unbid, gS, gP, gE, gQ, gT, gL, gF, GX, gS, hE]) (by decide) (fun hg2 => ?_)
  have hb2 := gO_n.mp hg2
  refine V_aload_n C dX3_unbid_5 rfl ?_
  refine V_iload_n C dX3_unbid_6 rfl ?_
  refine V_xcallg_v C ht (RX_V C (c_X3_needOffer hfl) mi_X3_needOffer mk_X3_134 rfl (by omega) rfl (rfl : vwCl[5]? = some (RX3, TX3, 13)) (by decide) rfl (Nat.le_of_ble_eq_true rfl) (by decide) dX3_unbid_7) (by intro E hE; simp only [GX] at hE ⊢; simp [g3_unbid, gS, gP, gE, gQ, gT, gL, gF, GX, gS, hE, hg2]) (by decide) (fun hg7 => ?_)
  have hb7 := gO_n.mp hg7
  refine V_aload_n C dX3_unbid_10 rfl ?_
  refine gt_X3_round C fk_X3_19 dX3_unbid_11 ?_
  refine V_iload_n C dX3_unbid_14 rfl ?_
  refine V_iload_n C dX3_unbid_15 rfl ?_
  refine V_callf (R_VN C (c_X2_pointsBid hfl hW.be hW.bl) mi_X2_pointsBid mk_X3_116 rfl (by omega) rfl (rfl : vwCl[4]? = some (RX2, TX2, 4)) (by decide) rfl (Nat.le_of_ble_eq_true rfl) (by decide) dX3_unbid_16) ?_
  refine V_istore_n3 C dX3_unbid_19 (by decide) ?_
  refine V_iload_n C dX3_unbid_20 rfl ?_
  refine V_if_ne C 34 dX3_unbid_21 (by decide) (fun h21 => ?_) (fun h21 => ?_)
  · refine V_aload_n C dX3_unbid_34 rfl ?_
    refine gt_X3_round C fk_X3_19 dX3_unbid_35 ?_
    refine V_iload_n C dX3_unbid_38 rfl ?_
    refine V_iload_n C dX3_unbid_39 rfl ?_
    refine V_callfv (R_VN C (c_X2_takeOut hfl hW.be hW.bl) mi_X2_takeOut mk_X3_126 rfl (by omega) rfl (rfl : vwCl[4]? = some (RX2, TX2, 4)) (by decide) rfl (Nat.le_of_ble_eq_true rfl) (by decide) dX3_unbid_40) ?_
    refine V_iload_n C dX3_unbid_43 rfl ?_
    refine V_xret (by omega) (by omega) ?_
    exact V_ireti C hr dX3_unbid_44 ⟨by simp [g3_unbid, gS, gO, hb2, hb7, h21], rfl, rfl, rfl⟩
  · exact V_throwN (text := "no such bid") C ht twn (by decide +kernel) (by simp [GX, g3_unbid, gS, gO, hb2, hb7, h21]) dX3_unbid_24 dX3_unbid_27 dX3_unbid_28 dX3_unbid_30 dX3_unbid_33 (by decide) (by decide)
set_option maxHeartbeats 4000000 in
set_option maxRecDepth 100000 in
theorem c_X3_points {l : Launch} {x : Sh} {a b : Mem} {o : Out} (hfl : l.stackTraces = false) (hW : WC a) {p : Int32} : XG l x yX3_points cX3_points 2 (some .int) 8 360 1 6 [.ref (x.2.1 0), .int p] a b o (QI x o (GI (gP a p) (a 67 (tn p)) a b)) (GX (gP a p)) := by
  refine XG.of (maxL := 2) (ret := (some .int)) hfl (by decide) [some (.ref (x.2.1 0)), some (.int p)] rfl rfl (Nat.le_of_ble_eq_true rfl) ?_
  intro pP eE sS mM argsA belowB methM cC C hr ht
  have ho12 := hW.ol
  have hp10 := hW.pl
  have he6 := hW.el
  refine V_aload_n C dX3_points_0 rfl ?_
  refine V_iload_n C dX3_points_1 rfl ?_
  refine V_xcallg_v C ht (RX_V C (c_X3_needPupil hfl) mi_X3_needPupil mk_X3_107 rfl (by omega) rfl (rfl : vwCl[5]? = some (RX3, TX3, 13)) (by decide) rfl (Nat.le_of_ble_eq_true rfl) (by decide) dX3_points_2) (fun E hE => hE) (by decide) (fun hg2 => ?_)
  have hb2 := gO_n.mp hg2
  obtain ⟨jp, hjp, jpe⟩ := ix_of hg2 hW.pe (by omega)
  subst jpe
  have tjp : tn (nI jp) = jp := tn_nI (by omega)
  try rw [tjp]
  refine V_aload_n C dX3_points_5 rfl ?_
  refine gt_X3_pointsLeft C fk_X3_34 dX3_points_6 ?_
  refine V_iload_n C dX3_points_9 rfl ?_
  refine la_left C _ rfl (by omega) dX3_points_10 ?_
  refine V_xret (by omega) (by omega) ?_
  exact V_ireti C hr dX3_points_11 ⟨hg2, rfl, rfl, rfl⟩
set_option maxHeartbeats 4000000 in
set_option maxRecDepth 100000 in
theorem c_X3_seat {l : Launch} {x : Sh} {a b : Mem} {o : Out} (hfl : l.stackTraces = false) (hW : WC a) {p ex z : Int32} : XG l x yX3_seat cX3_seat 5 (some .int) 8 360 3 18 [.ref (x.2.1 0), .int p, .int ex, .int z] a b o (QI x o (GI (g3_seat a p ex z) (fI (hfB a (tn p) ex z) (nO a)) a b)) (GX (g3_seat a p ex z)) := by
  refine XG.of (maxL := 5) (ret := (some .int)) hfl (by decide) [some (.ref (x.2.1 0)), some (.int p), some (.int ex), some (.int z), none] rfl rfl (Nat.le_of_ble_eq_true rfl) ?_
  intro pP eE sS mM argsA belowB methM cC C hr ht
  have ho12 := hW.ol
  have hp10 := hW.pl
  have he6 := hW.el
  refine V_aload_n C dX3_seat_0 rfl ?_
  refine V_iload_n C dX3_seat_1 rfl ?_
  refine V_xcallg_v C ht (RX_V C (c_X3_needPupil hfl) mi_X3_needPupil mk_X3_107 rfl (by omega) rfl (rfl : vwCl[5]? = some (RX3, TX3, 13)) (by decide) rfl (Nat.le_of_ble_eq_true rfl) (by decide) dX3_seat_2) (by intro E hE; simp only [GX] at hE ⊢; simp [g3_seat, gS, gP, gE, gQ, gT, gL, gF, GX, gS, hE]) (by decide) (fun hg2 => ?_)
  have hb2 := gO_n.mp hg2
  obtain ⟨jp, hjp, jpe⟩ := ix_of hg2 hW.pe (by omega)
  subst jpe
  have tjp : tn (nI jp) = jp := tn_nI (by omega)
  try rw [tjp]
  refine V_aload_n C dX3_seat_5 rfl ?_
  refine V_iload_n C dX3_seat_6 rfl ?_
  refine V_xcallg_v C ht (RX_V C (c_X3_needExam hfl) mi_X3_needExam mk_X3_70 rfl (by omega) rfl (rfl : vwCl[5]? = some (RX3, TX3, 13)) (by decide) rfl (Nat.le_of_ble_eq_true rfl) (by decide) dX3_seat_7) (by intro E hE; simp only [GX] at hE ⊢; simp [g3_seat, gS, gP, gE, gQ, gT, gL, gF, GX, gS, hE, hg2]) (by decide) (fun hg7 => ?_)
  have hb7 := gO_n.mp hg7
  refine V_aload_n C dX3_seat_10 rfl ?_
  refine V_iload_n C dX3_seat_11 rfl ?_
  refine V_iload_n C dX3_seat_12 rfl ?_
  refine V_iload_n C dX3_seat_13 rfl ?_
  refine V_callf (R_V C (c_X3_offerHeldFor hfl hW (by omega)) mi_X3_offerHeldFor mk_X3_160 rfl (by omega) rfl (rfl : vwCl[5]? = some (RX3, TX3, 13)) (by decide) rfl (Nat.le_of_ble_eq_true rfl) (by decide) dX3_seat_14) ?_
  refine V_istore_4 C dX3_seat_17 (by decide) ?_
  refine V_iload C dX3_seat_19 rfl ?_
  refine V_iconst (v := -1) C dX3_seat_21 (by decide) ?_
  refine V_icmp_ne C 35 dX3_seat_22 (by decide) (fun h22 => ?_) (fun h22 => ?_)
  · have q7 : anyN (hfB a jp ex z) (nO a) = true := by
      cases hx : anyN (hfB a jp ex z) (nO a) with
      | true => rfl
      | false => exact absurd ((fI_any (n := nO a) (by omega)).mpr hx) h22
    refine V_iload C dX3_seat_35 rfl ?_
    refine V_xret (by omega) (by omega) ?_
    exact V_ireti C hr dX3_seat_37 ⟨by simp [g3_seat, gS, gO, hb2, hb7, tjp, q7], rfl, rfl, rfl⟩
  · have q7 : anyN (hfB a jp ex z) (nO a) = false := (fI_any (n := nO a) (by omega)).mp (by simpa using h22)
    exact V_throwN (text := "no seat of this exam") C ht twn (by decide +kernel) (by simp [GX, g3_seat, gS, gO, hb2, hb7, tjp, q7]) dX3_seat_25 dX3_seat_28 dX3_seat_29 dX3_seat_31 dX3_seat_34 (by decide) (by decide)
set_option maxHeartbeats 4000000 in
set_option maxRecDepth 100000 in
theorem c_X3_at {l : Launch} {x : Sh} {a b : Mem} {o : Out} (hfl : l.stackTraces = false) (hW : WC a) {p s : Int32} : XG l x yX3_at cX3_at 3 (some .int) 8 360 3 18 [.ref (x.2.1 0), .int p, .int s] a b o (QI x o (GI (g3_at a p s) (a (18 + 4 * firN (haB a (tn p) s) (nO a)) 0) a b)) (GX (g3_at a p s)) := by
  refine XG.of (maxL := 3) (ret := (some .int)) hfl (by decide) [some (.ref (x.2.1 0)), some (.int p), some (.int s)] rfl rfl (Nat.le_of_ble_eq_true rfl) ?_
  intro pP eE sS mM argsA belowB methM cC C hr ht
  have ho12 := hW.ol
  have hp10 := hW.pl
  have he6 := hW.el
  refine V_aload_n C dX3_at_0 rfl ?_
  refine V_iload_n C dX3_at_1 rfl ?_
  refine V_xcallg_v C ht (RX_V C (c_X3_needPupil hfl) mi_X3_needPupil mk_X3_107 rfl (by omega) rfl (rfl : vwCl[5]? = some (RX3, TX3, 13)) (by decide) rfl (Nat.le_of_ble_eq_true rfl) (by decide) dX3_at_2) (by intro E hE; simp only [GX] at hE ⊢; simp [g3_at, gS, gP, gE, gQ, gT, gL, gF, GX, gS, hE]) (by decide) (fun hg2 => ?_)
  have hb2 := gO_n.mp hg2
  obtain ⟨jp, hjp, jpe⟩ := ix_of hg2 hW.pe (by omega)
  subst jpe
  have tjp : tn (nI jp) = jp := tn_nI (by omega)
  try rw [tjp]
  refine V_iload_n C dX3_at_5 rfl ?_
  refine V_xcallg_v C ht (RX_S C (c_X3_needSlot hfl) mi_X3_needSlot mk_X3_79 rfl (by decide) rfl (Nat.le_of_ble_eq_true rfl) (by decide) dX3_at_6) (by intro E hE; simp only [GX] at hE ⊢; simp [g3_at, gS, gP, gE, gQ, gT, gL, gF, GX, gS, hE, hg2]) (by decide) (fun hg6 => ?_)
  have hb6 := gO_n.mp hg6
  refine V_aload_n C dX3_at_9 rfl ?_
  refine V_iload_n C dX3_at_10 rfl ?_
  refine V_iload_n C dX3_at_11 rfl ?_
  refine V_xcallg C ht (RX_V C (c_X3_examHeldAt hfl hW (by omega)) mi_X3_examHeldAt mk_X3_166 rfl (by omega) rfl (rfl : vwCl[5]? = some (RX3, TX3, 13)) (by decide) rfl (Nat.le_of_ble_eq_true rfl) (by decide) dX3_at_12) (by intro E hE; simp only [GX] at hE ⊢; simp [g3_at, gS, tjp, hg2, hg6, hE]) (by decide) (fun hg12 => ?_)
  have hb12 := gO_n.mp hg12
  refine V_xret (by omega) (by omega) ?_
  exact V_ireti C hr dX3_at_15 ⟨by simp [g3_at, gS, gO, hb2, hb6, hb12, tjp], rfl, rfl, rfl⟩
set_option maxHeartbeats 4000000 in
set_option maxRecDepth 100000 in
theorem c_X3_holders {l : Launch} {x : Sh} {a b : Mem} {o : Out} (hfl : l.stackTraces = false) (hW : WC a) {q : Int32} : XG l x yX3_holders cX3_holders 2 (some .int) 8 360 1 6 [.ref (x.2.1 0), .int q] a b o (QI x o (GI (gQ a q) (nI (nTaken a (tn q))) a b)) (GX (gQ a q)) := by
  refine XG.of (maxL := 2) (ret := (some .int)) hfl (by decide) [some (.ref (x.2.1 0)), some (.int q)] rfl rfl (Nat.le_of_ble_eq_true rfl) ?_
  intro pP eE sS mM argsA belowB methM cC C hr ht
  have ho12 := hW.ol
  have hp10 := hW.pl
  have he6 := hW.el
  refine V_aload_n C dX3_holders_0 rfl ?_
  refine V_iload_n C dX3_holders_1 rfl ?_
  refine V_xcallg_r C ht (RX_V C (c_X3_offerNumbered hfl hW) mi_X3_offerNumbered mk_X3_100 rfl (by omega) rfl (rfl : vwCl[5]? = some (RX3, TX3, 13)) (by decide) rfl (Nat.le_of_ble_eq_true rfl) (by decide) dX3_holders_2) (fun E hE => hE) (by decide) (fun hg2 => ?_)
  have hb2 := gO_n.mp hg2
  obtain ⟨iq, hiq, iqe⟩ := ix_of hg2 hW.oe (by omega)
  subst iqe
  have tiq : tn (nI iq) = iq := tn_nI (by omega)
  try rw [tiq]
  refine V_callf (R_VN C (c_X0_countTaken hfl (by omega)) mi_X0_countTaken mk_X3_169 rfl (by omega) ((GE_C (by omega)).trans (GC_O (by omega))) (rfl : vwCl[2]? = some (RX0, TX0, 9)) (by decide) rfl (Nat.le_of_ble_eq_true rfl) (by decide) dX3_holders_5) ?_
  refine V_xret (by omega) (by omega) ?_
  exact V_ireti C hr dX3_holders_8 ⟨hg2, rfl, rfl, rfl⟩
set_option maxHeartbeats 4000000 in
set_option maxRecDepth 100000 in
theorem c_X3_holder {l : Launch} {x : Sh} {a b : Mem} {o : Out} (hfl : l.stackTraces = false) (hW : WC a) {q idx : Int32} : XG l x yX3_holder cX3_holder 4 (some .int) 8 360 2 12 [.ref (x.2.1 0), .int q, .int idx] a b o (QI x o (GI (g3_holder a q idx) (fI (nthS (hs a (tn q)) idx) 10) a b)) (GX (g3_holder a q idx)) := by
  refine XG.of (maxL := 4) (ret := (some .int)) hfl (by decide) [some (.ref (x.2.1 0)), some (.int q), some (.int idx), none] rfl rfl (Nat.le_of_ble_eq_true rfl) ?_
  intro pP eE sS mM argsA belowB methM cC C hr ht
  have ho12 := hW.ol
  have hp10 := hW.pl
  have he6 := hW.el
  refine V_aload_n C dX3_holder_0 rfl ?_
  refine V_iload_n C dX3_holder_1 rfl ?_
  refine V_xcallg_r C ht (RX_V C (c_X3_offerNumbered hfl hW) mi_X3_offerNumbered mk_X3_100 rfl (by omega) rfl (rfl : vwCl[5]? = some (RX3, TX3, 13)) (by decide) rfl (Nat.le_of_ble_eq_true rfl) (by decide) dX3_holder_2) (by intro E hE; simp only [GX] at hE ⊢; simp [g3_holder, gS, gP, gE, gQ, gT, gL, gF, GX, gS, hE]) (by decide) (fun hg2 => ?_)
  have hb2 := gO_n.mp hg2
  obtain ⟨iq, hiq, iqe⟩ := ix_of hg2 hW.oe (by omega)
  subst iqe
  have tiq : tn (nI iq) = iq := tn_nI (by omega)
  try rw [tiq]
  refine V_iload_n C dX3_holder_5 rfl ?_
  refine V_callf (R_VN C (c_X0_pupilSeated hfl (by omega)) mi_X0_pupilSeated mk_X3_173 rfl (by omega) ((GE_C (by omega)).trans (GC_O (by omega))) (rfl : vwCl[2]? = some (RX0, TX0, 9)) (by decide) rfl (Nat.le_of_ble_eq_true rfl) (by decide) dX3_holder_6) ?_
  refine V_istore_n3 C dX3_holder_9 (by decide) ?_
  refine V_iload_n C dX3_holder_10 rfl ?_
  refine V_iconst (v := -1) C dX3_holder_11 (by decide) ?_
  refine V_icmp_ne C 25 dX3_holder_12 (by decide) (fun h12 => ?_) (fun h12 => ?_)
  · have q7 : anyN (nthS (hs a iq) idx) 10 = true := by
      cases hx : anyN (nthS (hs a iq) idx) 10 with
      | true => rfl
      | false => exact absurd ((fI_any (n := 10) (by decide)).mpr hx) h12
    refine V_iload_n C dX3_holder_25 rfl ?_
    refine V_xret (by omega) (by omega) ?_
    exact V_ireti C hr dX3_holder_26 ⟨by simp [g3_holder, gS, gO, hb2, tiq, q7], rfl, rfl, rfl⟩
  · have q7 : anyN (nthS (hs a iq) idx) 10 = false := (fI_any (n := 10) (by decide)).mp (by simpa using h12)
    exact V_throwN (text := "no such holder") C ht twn (by decide +kernel) (by simp [GX, g3_holder, gS, gO, hb2, tiq, q7]) dX3_holder_15 dX3_holder_18 dX3_holder_19 dX3_holder_21 dX3_holder_24 (by decide) (by decide)
set_option maxHeartbeats 4000000 in
set_option maxRecDepth 100000 in
theorem c_X3_paid {l : Launch} {x : Sh} {a b : Mem} {o : Out} (hfl : l.stackTraces = false) (hW : WC a) {p q : Int32} : XG l x yX3_paid cX3_paid 4 (some .int) 8 360 3 18 [.ref (x.2.1 0), .int p, .int q] a b o (QI x o (GI (g3_paid a p q) (a (18 + 4 * tn q + 1) (tn p)) a b)) (GX (g3_paid a p q)) := by
  refine XG.of (maxL := 4) (ret := (some .int)) hfl (by decide) [some (.ref (x.2.1 0)), some (.int p), some (.int q), none] rfl rfl (Nat.le_of_ble_eq_true rfl) ?_
  intro pP eE sS mM argsA belowB methM cC C hr ht
  have ho12 := hW.ol
  have hp10 := hW.pl
  have he6 := hW.el
  refine V_aload_n C dX3_paid_0 rfl ?_
  refine V_iload_n C dX3_paid_1 rfl ?_
  refine V_xcallg_v C ht (RX_V C (c_X3_needPupil hfl) mi_X3_needPupil mk_X3_107 rfl (by omega) rfl (rfl : vwCl[5]? = some (RX3, TX3, 13)) (by decide) rfl (Nat.le_of_ble_eq_true rfl) (by decide) dX3_paid_2) (by intro E hE; simp only [GX] at hE ⊢; simp [g3_paid, gS, gP, gE, gQ, gT, gL, gF, GX, gS, hE]) (by decide) (fun hg2 => ?_)
  have hb2 := gO_n.mp hg2
  obtain ⟨jp, hjp, jpe⟩ := ix_of hg2 hW.pe (by omega)
  subst jpe
  have tjp : tn (nI jp) = jp := tn_nI (by omega)
  try rw [tjp]
  refine V_aload_n C dX3_paid_5 rfl ?_
  refine V_iload_n C dX3_paid_6 rfl ?_
  refine V_xcallg_r C ht (RX_V C (c_X3_offerNumbered hfl hW) mi_X3_offerNumbered mk_X3_100 rfl (by omega) rfl (rfl : vwCl[5]? = some (RX3, TX3, 13)) (by decide) rfl (Nat.le_of_ble_eq_true rfl) (by decide) dX3_paid_7) (by intro E hE; simp only [GX] at hE ⊢; simp [g3_paid, gS, gP, gE, gQ, gT, gL, gF, GX, gS, hE, hg2]) (by decide) (fun hg7 => ?_)
  have hb7 := gO_n.mp hg7
  obtain ⟨iq, hiq, iqe⟩ := ix_of hg7 hW.oe (by omega)
  subst iqe
  have tiq : tn (nI iq) = iq := tn_nI (by omega)
  try rw [tiq]
  refine V_astore_n3 C dX3_paid_10 (by decide) ?_
  refine V_aload_n C dX3_paid_11 rfl ?_
  refine V_iload_n C dX3_paid_12 rfl ?_
  refine V_callf (R_VN C (c_X0_hasSeated hfl (by omega) (by omega)) mi_X0_hasSeated mk_X3_178 rfl (by omega) ((GE_C (by omega)).trans (GC_O (by omega))) (rfl : vwCl[2]? = some (RX0, TX0, 9)) (by decide) rfl (Nat.le_of_ble_eq_true rfl) (by decide) dX3_paid_13) ?_
  refine V_ifb_ne C 29 dX3_paid_16 (by decide) (fun h16 => ?_) (fun h16 => ?_)
  · refine V_aload_n C dX3_paid_29 rfl ?_
    refine gt_X0_paidBy C (by omega) fk_X3_184 dX3_paid_30 ?_
    refine V_iload_n C dX3_paid_33 rfl ?_
    refine la_paidBy C (by omega) _ rfl (by omega) dX3_paid_34 ?_
    refine V_xret (by omega) (by omega) ?_
    exact V_ireti C hr dX3_paid_35 ⟨by simp [g3_paid, gS, gO, hb2, hb7, tjp, tiq, h16], rfl, rfl, rfl⟩
  · exact V_throwN (text := "no seat of this offer") C ht twn (by decide +kernel) (by simp [GX, g3_paid, gS, gO, hb2, hb7, tjp, tiq, h16]) dX3_paid_19 dX3_paid_22 dX3_paid_23 dX3_paid_25 dX3_paid_28 (by decide) (by decide)
set_option maxHeartbeats 4000000 in
set_option maxRecDepth 100000 in
theorem c_X3_waiting {l : Launch} {x : Sh} {a b : Mem} {o : Out} (hfl : l.stackTraces = false) (hW : WC a) {q : Int32} : XG l x yX3_waiting cX3_waiting 2 (some .int) 8 360 1 6 [.ref (x.2.1 0), .int q] a b o (QI x o (GI (gQ a q) (a (18 + 4 * tn q) 8) a b)) (GX (gQ a q)) := by
  refine XG.of (maxL := 2) (ret := (some .int)) hfl (by decide) [some (.ref (x.2.1 0)), some (.int q)] rfl rfl (Nat.le_of_ble_eq_true rfl) ?_
  intro pP eE sS mM argsA belowB methM cC C hr ht
  have ho12 := hW.ol
  have hp10 := hW.pl
  have he6 := hW.el
  refine V_aload_n C dX3_waiting_0 rfl ?_
  refine V_iload_n C dX3_waiting_1 rfl ?_
  refine V_xcallg_r C ht (RX_V C (c_X3_offerNumbered hfl hW) mi_X3_offerNumbered mk_X3_100 rfl (by omega) rfl (rfl : vwCl[5]? = some (RX3, TX3, 13)) (by decide) rfl (Nat.le_of_ble_eq_true rfl) (by decide) dX3_waiting_2) (fun E hE => hE) (by decide) (fun hg2 => ?_)
  have hb2 := gO_n.mp hg2
  obtain ⟨iq, hiq, iqe⟩ := ix_of hg2 hW.oe (by omega)
  subst iqe
  have tiq : tn (nI iq) = iq := tn_nI (by omega)
  try rw [tiq]
  refine gt_X0_waiterCount C (by omega) fk_X3_187 dX3_waiting_5 ?_
  refine V_xret (by omega) (by omega) ?_
  exact V_ireti C hr dX3_waiting_8 ⟨hg2, rfl, rfl, rfl⟩
set_option maxHeartbeats 4000000 in
set_option maxRecDepth 100000 in
theorem c_X3_waiter {l : Launch} {x : Sh} {a b : Mem} {o : Out} (hfl : l.stackTraces = false) (hW : WC a) {q idx : Int32} : XG l x yX3_waiter cX3_waiter 4 (some .int) 8 360 2 12 [.ref (x.2.1 0), .int q, .int idx] a b o (QI x o (GI (g3_waiter a q idx) (a (18 + 4 * tn q + 2) (tn idx)) a b)) (GX (g3_waiter a q idx)) := by
  refine XG.of (maxL := 4) (ret := (some .int)) hfl (by decide) [some (.ref (x.2.1 0)), some (.int q), some (.int idx), none] rfl rfl (Nat.le_of_ble_eq_true rfl) ?_
  intro pP eE sS mM argsA belowB methM cC C hr ht
  have ho12 := hW.ol
  have hp10 := hW.pl
  have he6 := hW.el
  refine V_aload_n C dX3_waiter_0 rfl ?_
  refine V_iload_n C dX3_waiter_1 rfl ?_
  refine V_xcallg_r C ht (RX_V C (c_X3_offerNumbered hfl hW) mi_X3_offerNumbered mk_X3_100 rfl (by omega) rfl (rfl : vwCl[5]? = some (RX3, TX3, 13)) (by decide) rfl (Nat.le_of_ble_eq_true rfl) (by decide) dX3_waiter_2) (by intro E hE; simp only [GX] at hE ⊢; simp [g3_waiter, gS, gP, gE, gQ, gT, gL, gF, GX, gS, hE]) (by decide) (fun hg2 => ?_)
  have hb2 := gO_n.mp hg2
  obtain ⟨iq, hiq, iqe⟩ := ix_of hg2 hW.oe (by omega)
  subst iqe
  have tiq : tn (nI iq) = iq := tn_nI (by omega)
  try rw [tiq]
  refine V_astore_n3 C dX3_waiter_5 (by decide) ?_
  refine V_iload_n C dX3_waiter_6 rfl ?_
  refine V_if_lt C 18 dX3_waiter_7 (by decide) (fun h7 => ?_) (fun h7 => ?_)
  · have f6 : inB idx (a (18 + 4 * iq) 8) = false := by simp [inB, h7]
    exact V_throwN (text := "no such waiter") C ht twn (by decide +kernel) (by simp [GX, g3_waiter, gS, gO, hb2, tiq, f6]) dX3_waiter_18 dX3_waiter_21 dX3_waiter_22 dX3_waiter_24 dX3_waiter_27 (by decide) (by decide)
  · refine V_iload_n C dX3_waiter_10 rfl ?_
    refine V_aload_n C dX3_waiter_11 rfl ?_
    refine gt_X0_waiterCount C (by omega) fk_X3_187 dX3_waiter_12 ?_
    refine V_icmp_lt C 28 dX3_waiter_15 (by decide) (fun h15 => ?_) (fun h15 => ?_)
    · have hgi : gO (inB idx (a (18 + 4 * iq) 8)) eN = none := gO_n.mpr (by simp [inB, h7, h15])
      have hbi := gO_n.mp hgi
      have hq10 := hW.ql (i := iq) (by omega)
      obtain ⟨kk, hkk, kke⟩ := ix_of hgi (hW.qe (by omega)) (by omega)
      subst kke
      have tkk : tn (nI kk) = kk := tn_nI (by omega)
      try rw [tkk]
      refine V_aload_n C dX3_waiter_28 rfl ?_
      refine gt_X0_waiters C (by omega) fk_X3_192 dX3_waiter_29 ?_
      refine V_iload_n C dX3_waiter_32 rfl ?_
      refine la_waiters C (by omega) _ rfl (by omega) dX3_waiter_33 ?_
      refine V_xret (by omega) (by omega) ?_
      exact V_ireti C hr dX3_waiter_34 ⟨by simp [g3_waiter, gS, gO, hb2, hbi, tiq], rfl, rfl, rfl⟩
    · have f6 : inB idx (a (18 + 4 * iq) 8) = false := by simp [inB, h7, h15]
      exact V_throwN (text := "no such waiter") C ht twn (by decide +kernel) (by simp [GX, g3_waiter, gS, gO, hb2, tiq, f6]) dX3_waiter_18 dX3_waiter_21 dX3_waiter_22 dX3_waiter_24 dX3_waiter_27 (by decide) (by decide)
set_option maxHeartbeats 4000000 in
set_option maxRecDepth 100000 in
theorem c_X3_giveUp {l : Launch} {x : Sh} {a b : Mem} {o : Out} (hfl : l.stackTraces = false) (hW : WC a) {p q : Int32} : XG l x yX3_giveUp cX3_giveUp 6 (some .int) 8 360 3 18 [.ref (x.2.1 0), .int p, .int q] a b o (QI x o (GI (g3_giveUp a p q) (muF (guA a (tn p) (tn q)) (tn q)) (muA (guA a (tn p) (tn q)) (tn q)) b)) (GX (g3_giveUp a p q)) := by
  refine XG.of (maxL := 6) (ret := (some .int)) hfl (by decide) [some (.ref (x.2.1 0)), some (.int p), some (.int q), none, none, none] rfl rfl (Nat.le_of_ble_eq_true rfl) ?_
  intro pP eE sS mM argsA belowB methM cC C hr ht
  have ho12 := hW.ol
  have hp10 := hW.pl
  have he6 := hW.el
  refine V_aload_n C dX3_giveUp_0 rfl ?_
  refine V_iload_n C dX3_giveUp_1 rfl ?_
  refine V_xcallg_v C ht (RX_V C (c_X3_needPupil hfl) mi_X3_needPupil mk_X3_107 rfl (by omega) rfl (rfl : vwCl[5]? = some (RX3, TX3, 13)) (by decide) rfl (Nat.le_of_ble_eq_true rfl) (by decide) dX3_giveUp_2) (by intro E hE; simp only [GX] at hE ⊢; simp [g3_giveUp, gS, gP, gE, gQ, gT, gL, gF, GX, gS, hE]) (by decide) (fun hg2 => ?_)
  have hb2 := gO_n.mp hg2
  obtain ⟨jp, hjp, jpe⟩ := ix_of hg2 hW.pe (by omega)
  subst jpe
  have tjp : tn (nI jp) = jp := tn_nI (by omega)
  try rw [tjp]
  refine V_aload_n C dX3_giveUp_5 rfl ?_
  refine V_iload_n C dX3_giveUp_6 rfl ?_
  refine V_xcallg_r C ht (RX_V C (c_X3_offerNumbered hfl hW) mi_X3_offerNumbered mk_X3_100 rfl (by omega) rfl (rfl : vwCl[5]? = some (RX3, TX3, 13)) (by decide) rfl (Nat.le_of_ble_eq_true rfl) (by decide) dX3_giveUp_7) (by intro E hE; simp only [GX] at hE ⊢; simp [g3_giveUp, gS, gP, gE, gQ, gT, gL, gF, GX, gS, hE, hg2]) (by decide) (fun hg7 => ?_)
  have hb7 := gO_n.mp hg7
  obtain ⟨iq, hiq, iqe⟩ := ix_of hg7 hW.oe (by omega)
  subst iqe
  have tiq : tn (nI iq) = iq := tn_nI (by omega)
  try rw [tiq]
  refine V_astore_n3 C dX3_giveUp_10 (by decide) ?_
  refine V_aload_n C dX3_giveUp_11 rfl ?_
  refine V_aload_n C dX3_giveUp_12 rfl ?_
  refine V_callf (R_V C (c_X3_isClosed hfl hW (by omega)) mi_X3_isClosed mk_X3_120 rfl (by omega) rfl (rfl : vwCl[5]? = some (RX3, TX3, 13)) (by decide) rfl (Nat.le_of_ble_eq_true rfl) (by decide) dX3_giveUp_13) ?_
  refine V_ifb_ne C 27 dX3_giveUp_16 (by decide) (fun h16 => ?_) (fun h16 => ?_)
  · exact V_throwS (text := "offer closed or no seat of it") C ht tw_X3_UnsupportedOperationException (by decide +kernel) (by first | (simp [GX, g3_giveUp, gS, gO, hb2, hb7, tjp, tiq, h16]; done) | (simp [GX, g3_giveUp, gS, gO, hb2, hb7, tjp, tiq, h16, h24]; done)) dX3_giveUp_27 dX3_giveUp_30 dX3_giveUp_31 dX3_giveUp_33 dX3_giveUp_36 (by decide) (by decide)
  · refine V_aload_n C dX3_giveUp_19 rfl ?_
    refine V_iload_n C dX3_giveUp_20 rfl ?_
    refine V_callf (R_VN C (c_X0_hasSeated hfl (by omega) (by omega)) mi_X0_hasSeated mk_X3_178 rfl (by omega) ((GE_C (by omega)).trans (GC_O (by omega))) (rfl : vwCl[2]? = some (RX0, TX0, 9)) (by decide) rfl (Nat.le_of_ble_eq_true rfl) (by decide) dX3_giveUp_21) ?_
    refine V_ifb_ne C 37 dX3_giveUp_24 (by decide) (fun h24 => ?_) (fun h24 => ?_)
    · refine V_aload_n C dX3_giveUp_37 rfl ?_
      refine V_iload_n C dX3_giveUp_38 rfl ?_
      refine V_callf (R_VN C (c_X0_unseat hfl (by omega) (by omega)) mi_X0_unseat mk_X3_197 rfl (by omega) ((GE_C (by omega)).trans (GC_O (by omega))) (rfl : vwCl[2]? = some (RX0, TX0, 9)) (by decide) rfl (Nat.le_of_ble_eq_true rfl) (by decide) dX3_giveUp_39) ?_
      refine V_istore_4 C dX3_giveUp_42 (by decide) ?_
      refine V_iload C dX3_giveUp_44 rfl ?_
      refine V_iconst (v := 2) C dX3_giveUp_46 (by decide) ?_
      refine V_idiv C dX3_giveUp_47 (by decide) ?_
      refine V_istore_5 C dX3_giveUp_48 (by decide) ?_
      refine V_aload_n C dX3_giveUp_50 rfl ?_
      refine V_iload_n C dX3_giveUp_51 rfl ?_
      refine V_iload C dX3_giveUp_52 rfl ?_
      refine V_callfv (R_V C (c_X3_payBack hfl (by omega)) mi_X3_payBack mk_X3_200 rfl (by omega) rfl (rfl : vwCl[5]? = some (RX3, TX3, 13)) (by decide) rfl (Nat.le_of_ble_eq_true rfl) (by decide) dX3_giveUp_54) ?_
      refine V_aload_n C dX3_giveUp_57 rfl ?_
      refine gt_X3_forfeited C fk_X3_37 dX3_giveUp_58 ?_
      refine V_iload_n C dX3_giveUp_61 rfl ?_
      refine V_dup2 C dX3_giveUp_62 rfl rfl ?_
      refine la_forf C _ rfl (by omega) dX3_giveUp_63 ?_
      refine V_topi (show payA (up2 a (18 + 4 * iq + 1) jp (-1)) jp (a (18 + 4 * iq + 1) jp / 2) 68 jp = a 68 jp by rw [payA, up2_o (by omega), up2_o (by omega), up2_o (by omega)]) ?_
      refine V_iload C dX3_giveUp_64 rfl ?_
      refine V_iload C dX3_giveUp_66 rfl ?_
      refine V_isub C dX3_giveUp_68 ?_
      refine V_iadd C dX3_giveUp_69 ?_
      refine sa_forf C _ rfl (by omega) dX3_giveUp_70 ?_
      refine V_aload_n C dX3_giveUp_71 rfl ?_
      refine V_aload_n C dX3_giveUp_72 rfl ?_
      refine V_callf (R_V C (c_X3_moveOneUp hfl (hW.gu (by omega)) (by omega)) mi_X3_moveOneUp mk_X3_203 rfl (by omega) rfl (rfl : vwCl[5]? = some (RX3, TX3, 13)) (by decide) rfl (Nat.le_of_ble_eq_true rfl) (by decide) dX3_giveUp_73) ?_
      refine V_xret (by omega) (by omega) ?_
      exact V_ireti C hr dX3_giveUp_76 ⟨by simp [g3_giveUp, gS, gO, hb2, hb7, tjp, tiq, h16, h24], rfl, rfl, rfl⟩
    · exact V_throwS (text := "offer closed or no seat of it") C ht tw_X3_UnsupportedOperationException (by decide +kernel) (by first | (simp [GX, g3_giveUp, gS, gO, hb2, hb7, tjp, tiq, h16]; done) | (simp [GX, g3_giveUp, gS, gO, hb2, hb7, tjp, tiq, h16, h24]; done)) dX3_giveUp_27 dX3_giveUp_30 dX3_giveUp_31 dX3_giveUp_33 dX3_giveUp_36 (by decide) (by decide)
