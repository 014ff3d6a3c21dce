def LF (L : List String) (g : Option String) (v : Int64) (w : UInt64) (A' a b : Mem) (o : Out) : Int32 → Mem → Mem → Out → Prop := fun r a2 b2 o2 => r = cd L g ∧ b2 = b ∧ (g = none → a2 = A' ∧ o2 = (v, w)) ∧ (g ≠ none → a2 = a ∧ o2 = o)
def gIn (L : List String) (g : Option String) : Prop := ∀ E, g = some E → E ∈ L
theorem gIn_S {L : List String} {g1 g2 : Option String} (h1 : gIn L g1) (h2 : gIn L g2) : gIn L (gS g1 g2) := by
  intro E h
  cases g1 with
  | none => exact h2 E h
  | some X => exact h1 E h
theorem gIn_O {L : List String} {ok : Bool} {X : String} (h : X ∈ L) : gIn L (gO ok X) := by
  intro E hE
  unfold gO at hE
  split at hE
  · cases hE
  · cases hE; exact h
theorem gIn_z {L : List String} {v : Int32} (h : eR ∈ L) : gIn L (gzero v) := by
  intro E hE
  unfold gzero at hE
  split at hE
  · cases hE; exact h
  · cases hE
set_option maxRecDepth 100000 in
theorem lk_L_13 : Cond.classLink RL 13 "java/lang/IllegalArgumentException" ∈ nwL := nw_mem 341 rfl rfl
set_option maxRecDepth 100000 in
theorem lk_L_15 : Cond.classLink RL 15 "java/lang/IllegalStateException" ∈ nwL := nw_mem 342 rfl rfl
set_option maxRecDepth 100000 in
theorem lk_L_28 : Cond.classLink RL 28 "java/lang/IndexOutOfBoundsException" ∈ nwL := nw_mem 454 rfl rfl
set_option maxRecDepth 100000 in
theorem lk_L_30 : Cond.classLink RL 30 "java/lang/UnsupportedOperationException" ∈ nwL := nw_mem 478 rfl rfl
set_option maxRecDepth 100000 in
theorem lk_L_40 : Cond.classLink RL 40 "java/util/NoSuchElementException" ∈ nwL := nw_mem 576 rfl rfl
set_option maxRecDepth 100000 in
theorem lk_L_119 : Cond.classLink RL 119 "java/lang/ArithmeticException" ∈ nwL := nw_mem 824 rfl rfl
set_option maxRecDepth 100000 in
theorem cs_eA : Cond.castable eA eA ∈ nwL := nw_mem 349 rfl rfl
set_option maxRecDepth 100000 in
theorem cs_eS : Cond.castable eS eS ∈ nwL := nw_mem 421 rfl rfl
set_option maxRecDepth 100000 in
theorem cs_eI : Cond.castable eI eI ∈ nwL := nw_mem 489 rfl rfl
set_option maxRecDepth 100000 in
theorem cs_eU : Cond.castable eU eU ∈ nwL := nw_mem 511 rfl rfl
set_option maxRecDepth 100000 in
theorem cs_eN : Cond.castable eN eN ∈ nwL := nw_mem 583 rfl rfl
set_option maxRecDepth 100000 in
theorem cs_eR : Cond.castable eR eR ∈ nwL := nw_mem 836 rfl rfl

set_option maxHeartbeats 4000000 in
set_option maxRecDepth 100000 in
theorem c_L_room {l : Launch} {x : Sh} {a b : Mem} {o : Out} (hfl : l.stackTraces = false) (hW : WC a) {v : Int32} : LG l x yL_room cL_room 4 (some .int) [(0, 9, 12, 13), (0, 9, 15, 15)] 7 340 1 6 [.ref (x.2.1 0), .int v, .ref (x.2.1 87)] a b o (QL x (LF [eA, eS] (g3_room a v) ((nI (nR a))).toInt64 o.2 (a3_room a v) a b o)) := by
  refine LG.of (maxL := 4) (ret := (some .int)) hfl (by decide) [some (.ref (x.2.1 0)), some (.int v), some (.ref (x.2.1 87)), none] rfl rfl (Nat.le_of_ble_eq_true rfl) ?_
  intro pP eE sS mM argsA belowB methM cC C hr tab
  have hin : gIn [eA, eS] (g3_room a v) := by unfold g3_room; repeat (first | refine gIn_S ?_ ?_ | exact gIn_O (by decide) | exact gIn_z (by decide))
  refine V_aload_n C dL_room_0 rfl ?_
  refine V_iconst (v := 0) C dL_room_1 (by decide) ?_
  refine V_aload_n C dL_room_2 rfl ?_
  refine V_iload_n C dL_room_3 rfl ?_
  refine V_hcall (tgt := (fun E => if E = eA then 12 else if E = eS then 15 else 0)) C tab (RX_V C (c_X3_room hfl hW) mi_X3_room mk_L_7 rfl (by decide) rfl (rfl : vwCl[5]? = some (RX3, TX3, 13)) (by decide) rfl (Nat.le_of_ble_eq_true rfl) (by decide) dL_room_4) (fun E hE => ?_) (fun E q9 hE => ?_) (fun hg => ?_)
  · have hm := hin E hE
    simp only [List.mem_cons, List.not_mem_nil, or_false] at hm
    rcases hm with rfl | rfl
    · try dsimp only
      rw [if_pos rfl]
      exact ⟨[], (0, 9, 12, 13), [(0, 9, 15, 15)], rfl, (fun _ h => absurd h List.not_mem_nil), by decide, by decide, by decide, rfl, by decide, lk_L_13, cs_eA⟩
    · try dsimp only
      rw [if_neg (by decide), if_pos rfl]
      exact ⟨[(0, 9, 12, 13)], (0, 9, 15, 15), [], rfl, (List.forall_mem_cons.mpr ⟨⟨by decide, eA, by decide, by decide, lk_L_13⟩, (fun _ h => absurd h List.not_mem_nil)⟩), by decide, by decide, by decide, rfl, by decide, lk_L_15, cs_eS⟩
  · have hm := hin E hE
    simp only [List.mem_cons, List.not_mem_nil, or_false] at hm
    rcases hm with rfl | rfl
    · try dsimp only
      rw [if_pos rfl]
      refine V_astore_n3 C dL_room_12 (by decide) ?_
      refine V_iconst (v := 1) C dL_room_13 (by decide) ?_
      exact V_lret C hr dL_room_14 ⟨by rw [hE]; rfl, rfl, fun z => absurd (z.symm.trans hE) (by simp), fun _ => ⟨rfl, rfl⟩⟩ (by decide)
    · try dsimp only
      rw [if_neg (by decide), if_pos rfl]
      refine V_astore_n3 C dL_room_15 (by decide) ?_
      refine V_iconst (v := 2) C dL_room_16 (by decide) ?_
      exact V_lret C hr dL_room_17 ⟨by rw [hE]; rfl, rfl, fun z => absurd (z.symm.trans hE) (by simp), fun _ => ⟨rfl, rfl⟩⟩ (by decide)
  · skip
    refine V_i2l C dL_room_7 rfl ?_
    refine V_last C rfl dL_room_8 ?_
    refine V_goto C 18 dL_room_9 (by decide) ?_
    refine V_iconst (v := 0) C dL_room_18 (by decide) ?_
    exact V_lret C hr dL_room_19 ⟨by rw [hg]; rfl, rfl, fun _ => ⟨rfl, rfl⟩, fun z => absurd hg z⟩ (by decide)
set_option maxHeartbeats 4000000 in
set_option maxRecDepth 100000 in
theorem c_L_exam {l : Launch} {x : Sh} {a b : Mem} {o : Out} (hfl : l.stackTraces = false) (hW : WC a)  : LG l x yL_exam cL_exam 3 (some .int) [(0, 8, 11, 15)] 7 340 1 6 [.ref (x.2.1 0), .ref (x.2.1 87)] a b o (QL x (LF [eS] (g3_exam a) ((nI (nE a))).toInt64 o.2 (up2 a 0 8 (nI (nE a + 1))) a b o)) := by
  refine LG.of (maxL := 3) (ret := (some .int)) hfl (by decide) [some (.ref (x.2.1 0)), some (.ref (x.2.1 87)), none] rfl rfl (Nat.le_of_ble_eq_true rfl) ?_
  intro pP eE sS mM argsA belowB methM cC C hr tab
  have hin : gIn [eS] (g3_exam a) := by unfold g3_exam; repeat (first | refine gIn_S ?_ ?_ | exact gIn_O (by decide) | exact gIn_z (by decide))
  refine V_aload_n C dL_exam_0 rfl ?_
  refine V_iconst (v := 0) C dL_exam_1 (by decide) ?_
  refine V_aload_n C dL_exam_2 rfl ?_
  refine V_hcall (tgt := (fun E => if E = eS then 11 else 0)) C tab (RX_V C (c_X3_exam hfl hW) mi_X3_exam mk_L_17 rfl (by decide) rfl (rfl : vwCl[5]? = some (RX3, TX3, 13)) (by decide) rfl (Nat.le_of_ble_eq_true rfl) (by decide) dL_exam_3) (fun E hE => ?_) (fun E q9 hE => ?_) (fun hg => ?_)
  · have hm := hin E hE
    simp only [List.mem_cons, List.not_mem_nil, or_false] at hm
    subst hm
    · try dsimp only
      rw [if_pos rfl]
      exact ⟨[], (0, 8, 11, 15), [], rfl, (fun _ h => absurd h List.not_mem_nil), by decide, by decide, by decide, rfl, by decide, lk_L_15, cs_eS⟩
  · have hm := hin E hE
    simp only [List.mem_cons, List.not_mem_nil, or_false] at hm
    subst hm
    · try dsimp only
      rw [if_pos rfl]
      refine V_astore_n2 C dL_exam_11 (by decide) ?_
      refine V_iconst (v := 1) C dL_exam_12 (by decide) ?_
      exact V_lret C hr dL_exam_13 ⟨by rw [hE]; rfl, rfl, fun z => absurd (z.symm.trans hE) (by simp), fun _ => ⟨rfl, rfl⟩⟩ (by decide)
  · skip
    refine V_i2l C dL_exam_6 rfl ?_
    refine V_last C rfl dL_exam_7 ?_
    refine V_goto C 14 dL_exam_8 (by decide) ?_
    refine V_iconst (v := 0) C dL_exam_14 (by decide) ?_
    exact V_lret C hr dL_exam_15 ⟨by rw [hg]; rfl, rfl, fun _ => ⟨rfl, rfl⟩, fun z => absurd hg z⟩ (by decide)
set_option maxHeartbeats 4000000 in
set_option maxRecDepth 100000 in
theorem c_L_pupil {l : Launch} {x : Sh} {a b : Mem} {o : Out} (hfl : l.stackTraces = false) (hW : WC a)  : LG l x yL_pupil cL_pupil 3 (some .int) [(0, 8, 11, 15)] 7 340 1 6 [.ref (x.2.1 0), .ref (x.2.1 87)] a b o (QL x (LF [eS] (g3_pupil a) ((nI (nP a))).toInt64 o.2 (up2 (up2 a 67 (nP a) 100) 0 9 (nI (nP a + 1))) a b o)) := by
  refine LG.of (maxL := 3) (ret := (some .int)) hfl (by decide) [some (.ref (x.2.1 0)), some (.ref (x.2.1 87)), none] rfl rfl (Nat.le_of_ble_eq_true rfl) ?_
  intro pP eE sS mM argsA belowB methM cC C hr tab
  have hin : gIn [eS] (g3_pupil a) := by unfold g3_pupil; repeat (first | refine gIn_S ?_ ?_ | exact gIn_O (by decide) | exact gIn_z (by decide))
  refine V_aload_n C dL_pupil_0 rfl ?_
  refine V_iconst (v := 0) C dL_pupil_1 (by decide) ?_
  refine V_aload_n C dL_pupil_2 rfl ?_
  refine V_hcall (tgt := (fun E => if E = eS then 11 else 0)) C tab (RX_V C (c_X3_pupil hfl hW) mi_X3_pupil mk_L_21 rfl (by decide) rfl (rfl : vwCl[5]? = some (RX3, TX3, 13)) (by decide) rfl (Nat.le_of_ble_eq_true rfl) (by decide) dL_pupil_3) (fun E hE => ?_) (fun E q9 hE => ?_) (fun hg => ?_)
  · have hm := hin E hE
    simp only [List.mem_cons, List.not_mem_nil, or_false] at hm
    subst hm
    · try dsimp only
      rw [if_pos rfl]
      exact ⟨[], (0, 8, 11, 15), [], rfl, (fun _ h => absurd h List.not_mem_nil), by decide, by decide, by decide, rfl, by decide, lk_L_15, cs_eS⟩
  · have hm := hin E hE
    simp only [List.mem_cons, List.not_mem_nil, or_false] at hm
    subst hm
    · try dsimp only
      rw [if_pos rfl]
      refine V_astore_n2 C dL_pupil_11 (by decide) ?_
      refine V_iconst (v := 1) C dL_pupil_12 (by decide) ?_
      exact V_lret C hr dL_pupil_13 ⟨by rw [hE]; rfl, rfl, fun z => absurd (z.symm.trans hE) (by simp), fun _ => ⟨rfl, rfl⟩⟩ (by decide)
  · skip
    refine V_i2l C dL_pupil_6 rfl ?_
    refine V_last C rfl dL_pupil_7 ?_
    refine V_goto C 14 dL_pupil_8 (by decide) ?_
    refine V_iconst (v := 0) C dL_pupil_14 (by decide) ?_
    exact V_lret C hr dL_pupil_15 ⟨by rw [hg]; rfl, rfl, fun _ => ⟨rfl, rfl⟩, fun z => absurd hg z⟩ (by decide)
set_option maxHeartbeats 4000000 in
set_option maxRecDepth 100000 in
theorem c_L_offer {l : Launch} {x : Sh} {a b : Mem} {o : Out} (hfl : l.stackTraces = false) (hW : WC a) {ex s r z : Int32} (hz : z = 0 ∨ z = 1) : LG l x yL_offer cL_offer 7 (some .int) [(0, 14, 17, 28), (0, 14, 21, 13), (0, 14, 25, 30), (0, 14, 29, 15)] 8 380 5 30 [.ref (x.2.1 0), .int ex, .int s, .int r, .int z, .ref (x.2.1 87)] a b o (QL x (LF [eI, eA, eU, eS] (g3_offer a ex s r) ((nI (nO a))).toInt64 o.2 (a3_offer a ex s r z) a b o)) := by
  refine LG.of (maxL := 7) (ret := (some .int)) hfl (by decide) [some (.ref (x.2.1 0)), some (.int ex), some (.int s), some (.int r), some (.int z), some (.ref (x.2.1 87)), none] rfl rfl (Nat.le_of_ble_eq_true rfl) ?_
  intro pP eE sS mM argsA belowB methM cC C hr tab
  have hin : gIn [eI, eA, eU, eS] (g3_offer a ex s r) := by unfold g3_offer; repeat (first | refine gIn_S ?_ ?_ | exact gIn_O (by decide) | exact gIn_z (by decide))
  refine V_aload C dL_offer_0 rfl ?_
  refine V_iconst (v := 0) C dL_offer_2 (by decide) ?_
  refine V_aload_n C dL_offer_3 rfl ?_
  refine V_iload_n C dL_offer_4 rfl ?_
  refine V_iload_n C dL_offer_5 rfl ?_
  refine V_iload_n C dL_offer_6 rfl ?_
  refine V_iload C dL_offer_7 rfl ?_
  refine V_hcall (tgt := (fun E => if E = eI then 17 else if E = eA then 21 else if E = eU then 25 else if E = eS then 29 else 0)) C tab (RX_V C (c_X3_offer hfl hW hz) mi_X3_offer mk_L_24 rfl (by decide) rfl (rfl : vwCl[5]? = some (RX3, TX3, 13)) (by decide) rfl (Nat.le_of_ble_eq_true rfl) (by decide) dL_offer_9) (fun E hE => ?_) (fun E q9 hE => ?_) (fun hg => ?_)
  · have hm := hin E hE
    simp only [List.mem_cons, List.not_mem_nil, or_false] at hm
    rcases hm with rfl | rfl | rfl | rfl
    · try dsimp only
      rw [if_pos rfl]
      exact ⟨[], (0, 14, 17, 28), [(0, 14, 21, 13), (0, 14, 25, 30), (0, 14, 29, 15)], rfl, (fun _ h => absurd h List.not_mem_nil), by decide, by decide, by decide, rfl, by decide, lk_L_28, cs_eI⟩
    · try dsimp only
      rw [if_neg (by decide), if_pos rfl]
      exact ⟨[(0, 14, 17, 28)], (0, 14, 21, 13), [(0, 14, 25, 30), (0, 14, 29, 15)], rfl, (List.forall_mem_cons.mpr ⟨⟨by decide, eI, by decide, by decide, lk_L_28⟩, (fun _ h => absurd h List.not_mem_nil)⟩), by decide, by decide, by decide, rfl, by decide, lk_L_13, cs_eA⟩
    · try dsimp only
      rw [if_neg (by decide), if_neg (by decide), if_pos rfl]
      exact ⟨[(0, 14, 17, 28), (0, 14, 21, 13)], (0, 14, 25, 30), [(0, 14, 29, 15)], rfl, (List.forall_mem_cons.mpr ⟨⟨by decide, eI, by decide, by decide, lk_L_28⟩, (List.forall_mem_cons.mpr ⟨⟨by decide, eA, by decide, by decide, lk_L_13⟩, (fun _ h => absurd h List.not_mem_nil)⟩)⟩), by decide, by decide, by decide, rfl, by decide, lk_L_30, cs_eU⟩
    · try dsimp only
      rw [if_neg (by decide), if_neg (by decide), if_neg (by decide), if_pos rfl]
      exact ⟨[(0, 14, 17, 28), (0, 14, 21, 13), (0, 14, 25, 30)], (0, 14, 29, 15), [], rfl, (List.forall_mem_cons.mpr ⟨⟨by decide, eI, by decide, by decide, lk_L_28⟩, (List.forall_mem_cons.mpr ⟨⟨by decide, eA, by decide, by decide, lk_L_13⟩, (List.forall_mem_cons.mpr ⟨⟨by decide, eU, by decide, by decide, lk_L_30⟩, (fun _ h => absurd h List.not_mem_nil)⟩)⟩)⟩), by decide, by decide, by decide, rfl, by decide, lk_L_15, cs_eS⟩
  · have hm := hin E hE
    simp only [List.mem_cons, List.not_mem_nil, or_false] at hm
    rcases hm with rfl | rfl | rfl | rfl
    · try dsimp only
      rw [if_pos rfl]
      refine V_astore_6 C dL_offer_17 (by decide) ?_
      refine V_iconst (v := 1) C dL_offer_19 (by decide) ?_
      exact V_lret C hr dL_offer_20 ⟨by rw [hE]; rfl, rfl, fun z => absurd (z.symm.trans hE) (by simp), fun _ => ⟨rfl, rfl⟩⟩ (by decide)
    · try dsimp only
      rw [if_neg (by decide), if_pos rfl]
      refine V_astore_6 C dL_offer_21 (by decide) ?_
      refine V_iconst (v := 2) C dL_offer_23 (by decide) ?_
      exact V_lret C hr dL_offer_24 ⟨by rw [hE]; rfl, rfl, fun z => absurd (z.symm.trans hE) (by simp), fun _ => ⟨rfl, rfl⟩⟩ (by decide)
    · try dsimp only
      rw [if_neg (by decide), if_neg (by decide), if_pos rfl]
      refine V_astore_6 C dL_offer_25 (by decide) ?_
      refine V_iconst (v := 3) C dL_offer_27 (by decide) ?_
      exact V_lret C hr dL_offer_28 ⟨by rw [hE]; rfl, rfl, fun z => absurd (z.symm.trans hE) (by simp), fun _ => ⟨rfl, rfl⟩⟩ (by decide)
    · try dsimp only
      rw [if_neg (by decide), if_neg (by decide), if_neg (by decide), if_pos rfl]
      refine V_astore_6 C dL_offer_29 (by decide) ?_
      refine V_iconst (v := 4) C dL_offer_31 (by decide) ?_
      exact V_lret C hr dL_offer_32 ⟨by rw [hE]; rfl, rfl, fun z => absurd (z.symm.trans hE) (by simp), fun _ => ⟨rfl, rfl⟩⟩ (by decide)
  · skip
    refine V_i2l C dL_offer_12 rfl ?_
    refine V_last C rfl dL_offer_13 ?_
    refine V_goto C 33 dL_offer_14 (by decide) ?_
    refine V_iconst (v := 0) C dL_offer_33 (by decide) ?_
    exact V_lret C hr dL_offer_34 ⟨by rw [hg]; rfl, rfl, fun _ => ⟨rfl, rfl⟩, fun z => absurd hg z⟩ (by decide)
set_option maxHeartbeats 4000000 in
set_option maxRecDepth 100000 in
theorem c_L_bid {l : Launch} {x : Sh} {a b : Mem} {o : Out} (hfl : l.stackTraces = false) (hW : WC a) {p q v : Int32} : LG l x yL_bid cL_bid 6 (some .int) [(0, 12, 15, 28), (0, 12, 19, 13), (0, 12, 23, 30)] 9 420 3 18 [.ref (x.2.1 0), .int p, .int q, .int v, .ref (x.2.1 87)] a b o (QL x (LF [eI, eA, eU] (g3_bid a p q v) ((s3_bid a p q v)).toInt64 o.2 (a3_bid a p q v) a b o)) := by
  refine LG.of (maxL := 6) (ret := (some .int)) hfl (by decide) [some (.ref (x.2.1 0)), some (.int p), some (.int q), some (.int v), some (.ref (x.2.1 87)), none] rfl rfl (Nat.le_of_ble_eq_true rfl) ?_
  intro pP eE sS mM argsA belowB methM cC C hr tab
  have hin : gIn [eI, eA, eU] (g3_bid a p q v) := by unfold g3_bid; repeat (first | refine gIn_S ?_ ?_ | exact gIn_O (by decide) | exact gIn_z (by decide))
  refine V_aload C dL_bid_0 rfl ?_
  refine V_iconst (v := 0) C dL_bid_2 (by decide) ?_
  refine V_aload_n C dL_bid_3 rfl ?_
  refine V_iload_n C dL_bid_4 rfl ?_
  refine V_iload_n C dL_bid_5 rfl ?_
  refine V_iload_n C dL_bid_6 rfl ?_
  refine V_hcall (tgt := (fun E => if E = eI then 15 else if E = eA then 19 else if E = eU then 23 else 0)) C tab (RX_V C (c_X3_bid hfl hW) mi_X3_bid mk_L_32 rfl (by decide) rfl (rfl : vwCl[5]? = some (RX3, TX3, 13)) (by decide) rfl (Nat.le_of_ble_eq_true rfl) (by decide) dL_bid_7) (fun E hE => ?_) (fun E q9 hE => ?_) (fun hg => ?_)
  · have hm := hin E hE
    simp only [List.mem_cons, List.not_mem_nil, or_false] at hm
    rcases hm with rfl | rfl | rfl
    · try dsimp only
      rw [if_pos rfl]
      exact ⟨[], (0, 12, 15, 28), [(0, 12, 19, 13), (0, 12, 23, 30)], rfl, (fun _ h => absurd h List.not_mem_nil), by decide, by decide, by decide, rfl, by decide, lk_L_28, cs_eI⟩
    · try dsimp only
      rw [if_neg (by decide), if_pos rfl]
      exact ⟨[(0, 12, 15, 28)], (0, 12, 19, 13), [(0, 12, 23, 30)], rfl, (List.forall_mem_cons.mpr ⟨⟨by decide, eI, by decide, by decide, lk_L_28⟩, (fun _ h => absurd h List.not_mem_nil)⟩), by decide, by decide, by decide, rfl, by decide, lk_L_13, cs_eA⟩
    · try dsimp only
      rw [if_neg (by decide), if_neg (by decide), if_pos rfl]
      exact ⟨[(0, 12, 15, 28), (0, 12, 19, 13)], (0, 12, 23, 30), [], rfl, (List.forall_mem_cons.mpr ⟨⟨by decide, eI, by decide, by decide, lk_L_28⟩, (List.forall_mem_cons.mpr ⟨⟨by decide, eA, by decide, by decide, lk_L_13⟩, (fun _ h => absurd h List.not_mem_nil)⟩)⟩), by decide, by decide, by decide, rfl, by decide, lk_L_30, cs_eU⟩
  · have hm := hin E hE
    simp only [List.mem_cons, List.not_mem_nil, or_false] at hm
    rcases hm with rfl | rfl | rfl
    · try dsimp only
      rw [if_pos rfl]
      refine V_astore_5 C dL_bid_15 (by decide) ?_
      refine V_iconst (v := 1) C dL_bid_17 (by decide) ?_
      exact V_lret C hr dL_bid_18 ⟨by rw [hE]; rfl, rfl, fun z => absurd (z.symm.trans hE) (by simp), fun _ => ⟨rfl, rfl⟩⟩ (by decide)
    · try dsimp only
      rw [if_neg (by decide), if_pos rfl]
      refine V_astore_5 C dL_bid_19 (by decide) ?_
      refine V_iconst (v := 2) C dL_bid_21 (by decide) ?_
      exact V_lret C hr dL_bid_22 ⟨by rw [hE]; rfl, rfl, fun z => absurd (z.symm.trans hE) (by simp), fun _ => ⟨rfl, rfl⟩⟩ (by decide)
    · try dsimp only
      rw [if_neg (by decide), if_neg (by decide), if_pos rfl]
      refine V_astore_5 C dL_bid_23 (by decide) ?_
      refine V_iconst (v := 3) C dL_bid_25 (by decide) ?_
      exact V_lret C hr dL_bid_26 ⟨by rw [hE]; rfl, rfl, fun z => absurd (z.symm.trans hE) (by simp), fun _ => ⟨rfl, rfl⟩⟩ (by decide)
  · skip
    refine V_i2l C dL_bid_10 rfl ?_
    refine V_last C rfl dL_bid_11 ?_
    refine V_goto C 27 dL_bid_12 (by decide) ?_
    refine V_iconst (v := 0) C dL_bid_27 (by decide) ?_
    exact V_lret C hr dL_bid_28 ⟨by rw [hg]; rfl, rfl, fun _ => ⟨rfl, rfl⟩, fun z => absurd hg z⟩ (by decide)
set_option maxHeartbeats 4000000 in
set_option maxRecDepth 100000 in
theorem c_L_unbid {l : Launch} {x : Sh} {a b : Mem} {o : Out} (hfl : l.stackTraces = false) (hW : WC a) {p q : Int32} : LG l x yL_unbid cL_unbid 5 (some .int) [(0, 10, 13, 28), (0, 10, 17, 40)] 9 420 3 18 [.ref (x.2.1 0), .int p, .int q, .ref (x.2.1 87)] a b o (QL x (LF [eI, eN] (g3_unbid a p q) ((ptB a p q (bW a))).toInt64 o.2 (outA a p q (bW a)) a b o)) := by
  refine LG.of (maxL := 5) (ret := (some .int)) hfl (by decide) [some (.ref (x.2.1 0)), some (.int p), some (.int q), some (.ref (x.2.1 87)), none] rfl rfl (Nat.le_of_ble_eq_true rfl) ?_
  intro pP eE sS mM argsA belowB methM cC C hr tab
  have hin : gIn [eI, eN] (g3_unbid a p q) := by unfold g3_unbid; repeat (first | refine gIn_S ?_ ?_ | exact gIn_O (by decide) | exact gIn_z (by decide))
  refine V_aload_n C dL_unbid_0 rfl ?_
  refine V_iconst (v := 0) C dL_unbid_1 (by decide) ?_
  refine V_aload_n C dL_unbid_2 rfl ?_
  refine V_iload_n C dL_unbid_3 rfl ?_
  refine V_iload_n C dL_unbid_4 rfl ?_
  refine V_hcall (tgt := (fun E => if E = eI then 13 else if E = eN then 17 else 0)) C tab (RX_V C (c_X3_unbid hfl hW) mi_X3_unbid mk_L_36 rfl (by decide) rfl (rfl : vwCl[5]? = some (RX3, TX3, 13)) (by decide) rfl (Nat.le_of_ble_eq_true rfl) (by decide) dL_unbid_5) (fun E hE => ?_) (fun E q9 hE => ?_) (fun hg => ?_)
  · have hm := hin E hE
    simp only [List.mem_cons, List.not_mem_nil, or_false] at hm
    rcases hm with rfl | rfl
    · try dsimp only
      rw [if_pos rfl]
      exact ⟨[], (0, 10, 13, 28), [(0, 10, 17, 40)], rfl, (fun _ h => absurd h List.not_mem_nil), by decide, by decide, by decide, rfl, by decide, lk_L_28, cs_eI⟩
    · try dsimp only
      rw [if_neg (by decide), if_pos rfl]
      exact ⟨[(0, 10, 13, 28)], (0, 10, 17, 40), [], rfl, (List.forall_mem_cons.mpr ⟨⟨by decide, eI, by decide, by decide, lk_L_28⟩, (fun _ h => absurd h List.not_mem_nil)⟩), by decide, by decide, by decide, rfl, by decide, lk_L_40, cs_eN⟩
  · have hm := hin E hE
    simp only [List.mem_cons, List.not_mem_nil, or_false] at hm
    rcases hm with rfl | rfl
    · try dsimp only
      rw [if_pos rfl]
      refine V_astore_4 C dL_unbid_13 (by decide) ?_
      refine V_iconst (v := 1) C dL_unbid_15 (by decide) ?_
      exact V_lret C hr dL_unbid_16 ⟨by rw [hE]; rfl, rfl, fun z => absurd (z.symm.trans hE) (by simp), fun _ => ⟨rfl, rfl⟩⟩ (by decide)
    · try dsimp only
      rw [if_neg (by decide), if_pos rfl]
      refine V_astore_4 C dL_unbid_17 (by decide) ?_
      refine V_iconst (v := 2) C dL_unbid_19 (by decide) ?_
      exact V_lret C hr dL_unbid_20 ⟨by rw [hE]; rfl, rfl, fun z => absurd (z.symm.trans hE) (by simp), fun _ => ⟨rfl, rfl⟩⟩ (by decide)
  · skip
    refine V_i2l C dL_unbid_8 rfl ?_
    refine V_last C rfl dL_unbid_9 ?_
    refine V_goto C 21 dL_unbid_10 (by decide) ?_
    refine V_iconst (v := 0) C dL_unbid_21 (by decide) ?_
    exact V_lret C hr dL_unbid_22 ⟨by rw [hg]; rfl, rfl, fun _ => ⟨rfl, rfl⟩, fun z => absurd hg z⟩ (by decide)
set_option maxHeartbeats 4000000 in
set_option maxRecDepth 100000 in
theorem c_L_points {l : Launch} {x : Sh} {a b : Mem} {o : Out} (hfl : l.stackTraces = false) (hW : WC a) {p : Int32} : LG l x yL_points cL_points 4 (some .int) [(0, 9, 12, 28)] 9 420 1 6 [.ref (x.2.1 0), .int p, .ref (x.2.1 87)] a b o (QL x (LF [eI] (gP a p) ((a 67 (tn p))).toInt64 o.2 a a b o)) := by
  refine LG.of (maxL := 4) (ret := (some .int)) hfl (by decide) [some (.ref (x.2.1 0)), some (.int p), some (.ref (x.2.1 87)), none] rfl rfl (Nat.le_of_ble_eq_true rfl) ?_
  intro pP eE sS mM argsA belowB methM cC C hr tab
  have hin : gIn [eI] (gP a p) := by repeat (first | refine gIn_S ?_ ?_ | exact gIn_O (by decide) | exact gIn_z (by decide))
  refine V_aload_n C dL_points_0 rfl ?_
  refine V_iconst (v := 0) C dL_points_1 (by decide) ?_
  refine V_aload_n C dL_points_2 rfl ?_
  refine V_iload_n C dL_points_3 rfl ?_
  refine V_hcall (tgt := (fun E => if E = eI then 12 else 0)) C tab (RX_V C (c_X3_points hfl hW) mi_X3_points mk_L_42 rfl (by decide) rfl (rfl : vwCl[5]? = some (RX3, TX3, 13)) (by decide) rfl (Nat.le_of_ble_eq_true rfl) (by decide) dL_points_4) (fun E hE => ?_) (fun E q9 hE => ?_) (fun hg => ?_)
  · have hm := hin E hE
    simp only [List.mem_cons, List.not_mem_nil, or_false] at hm
    subst hm
    · try dsimp only
      rw [if_pos rfl]
      exact ⟨[], (0, 9, 12, 28), [], rfl, (fun _ h => absurd h List.not_mem_nil), by decide, by decide, by decide, rfl, by decide, lk_L_28, cs_eI⟩
  · have hm := hin E hE
    simp only [List.mem_cons, List.not_mem_nil, or_false] at hm
    subst hm
    · try dsimp only
      rw [if_pos rfl]
      refine V_astore_n3 C dL_points_12 (by decide) ?_
      refine V_iconst (v := 1) C dL_points_13 (by decide) ?_
      exact V_lret C hr dL_points_14 ⟨by rw [hE]; rfl, rfl, fun z => absurd (z.symm.trans hE) (by simp), fun _ => ⟨rfl, rfl⟩⟩ (by decide)
  · skip
    refine V_i2l C dL_points_7 rfl ?_
    refine V_last C rfl dL_points_8 ?_
    refine V_goto C 15 dL_points_9 (by decide) ?_
    refine V_iconst (v := 0) C dL_points_15 (by decide) ?_
    exact V_lret C hr dL_points_16 ⟨by rw [hg]; rfl, rfl, fun _ => ⟨rfl, rfl⟩, fun z => absurd hg z⟩ (by decide)
set_option maxHeartbeats 4000000 in
set_option maxRecDepth 100000 in
theorem c_L_seat {l : Launch} {x : Sh} {a b : Mem} {o : Out} (hfl : l.stackTraces = false) (hW : WC a) {p ex z : Int32} : LG l x yL_seat cL_seat 6 (some .int) [(0, 12, 15, 28), (0, 12, 19, 40)] 9 420 3 18 [.ref (x.2.1 0), .int p, .int ex, .int z, .ref (x.2.1 87)] a b o (QL x (LF [eI, eN] (g3_seat a p ex z) ((fI (hfB a (tn p) ex z) (nO a))).toInt64 o.2 a a b o)) := by
  refine LG.of (maxL := 6) (ret := (some .int)) hfl (by decide) [some (.ref (x.2.1 0)), some (.int p), some (.int ex), some (.int z), some (.ref (x.2.1 87)), none] rfl rfl (Nat.le_of_ble_eq_true rfl) ?_
  intro pP eE sS mM argsA belowB methM cC C hr tab
  have hin : gIn [eI, eN] (g3_seat a p ex z) := by unfold g3_seat; repeat (first | refine gIn_S ?_ ?_ | exact gIn_O (by decide) | exact gIn_z (by decide))
  refine V_aload C dL_seat_0 rfl ?_
  refine V_iconst (v := 0) C dL_seat_2 (by decide) ?_
  refine V_aload_n C dL_seat_3 rfl ?_
  refine V_iload_n C dL_seat_4 rfl ?_
  refine V_iload_n C dL_seat_5 rfl ?_
  refine V_iload_n C dL_seat_6 rfl ?_
  refine V_hcall (tgt := (fun E => if E = eI then 15 else if E = eN then 19 else 0)) C tab (RX_V C (c_X3_seat hfl hW) mi_X3_seat mk_L_45 rfl (by decide) rfl (rfl : vwCl[5]? = some (RX3, TX3, 13)) (by decide) rfl (Nat.le_of_ble_eq_true rfl) (by decide) dL_seat_7) (fun E hE => ?_) (fun E q9 hE => ?_) (fun hg => ?_)
  · have hm := hin E hE
    simp only [List.mem_cons, List.not_mem_nil, or_false] at hm
    rcases hm with rfl | rfl
    · try dsimp only
      rw [if_pos rfl]
      exact ⟨[], (0, 12, 15, 28), [(0, 12, 19, 40)], rfl, (fun _ h => absurd h List.not_mem_nil), by decide, by decide, by decide, rfl, by decide, lk_L_28, cs_eI⟩
    · try dsimp only
      rw [if_neg (by decide), if_pos rfl]
      exact ⟨[(0, 12, 15, 28)], (0, 12, 19, 40), [], rfl, (List.forall_mem_cons.mpr ⟨⟨by decide, eI, by decide, by decide, lk_L_28⟩, (fun _ h => absurd h List.not_mem_nil)⟩), by decide, by decide, by decide, rfl, by decide, lk_L_40, cs_eN⟩
  · have hm := hin E hE
    simp only [List.mem_cons, List.not_mem_nil, or_false] at hm
    rcases hm with rfl | rfl
    · try dsimp only
      rw [if_pos rfl]
      refine V_astore_5 C dL_seat_15 (by decide) ?_
      refine V_iconst (v := 1) C dL_seat_17 (by decide) ?_
      exact V_lret C hr dL_seat_18 ⟨by rw [hE]; rfl, rfl, fun z => absurd (z.symm.trans hE) (by simp), fun _ => ⟨rfl, rfl⟩⟩ (by decide)
    · try dsimp only
      rw [if_neg (by decide), if_pos rfl]
      refine V_astore_5 C dL_seat_19 (by decide) ?_
      refine V_iconst (v := 2) C dL_seat_21 (by decide) ?_
      exact V_lret C hr dL_seat_22 ⟨by rw [hE]; rfl, rfl, fun z => absurd (z.symm.trans hE) (by simp), fun _ => ⟨rfl, rfl⟩⟩ (by decide)
  · skip
    refine V_i2l C dL_seat_10 rfl ?_
    refine V_last C rfl dL_seat_11 ?_
    refine V_goto C 23 dL_seat_12 (by decide) ?_
    refine V_iconst (v := 0) C dL_seat_23 (by decide) ?_
    exact V_lret C hr dL_seat_24 ⟨by rw [hg]; rfl, rfl, fun _ => ⟨rfl, rfl⟩, fun z => absurd hg z⟩ (by decide)
set_option maxHeartbeats 4000000 in
set_option maxRecDepth 100000 in
theorem c_L_at {l : Launch} {x : Sh} {a b : Mem} {o : Out} (hfl : l.stackTraces = false) (hW : WC a) {p s : Int32} : LG l x yL_at cL_at 5 (some .int) [(0, 10, 13, 28), (0, 10, 17, 13), (0, 10, 21, 40)] 9 420 3 18 [.ref (x.2.1 0), .int p, .int s, .ref (x.2.1 87)] a b o (QL x (LF [eI, eA, eN] (g3_at a p s) ((a (18 + 4 * firN (haB a (tn p) s) (nO a)) 0)).toInt64 o.2 a a b o)) := by
  refine LG.of (maxL := 5) (ret := (some .int)) hfl (by decide) [some (.ref (x.2.1 0)), some (.int p), some (.int s), some (.ref (x.2.1 87)), none] rfl rfl (Nat.le_of_ble_eq_true rfl) ?_
  intro pP eE sS mM argsA belowB methM cC C hr tab
  have hin : gIn [eI, eA, eN] (g3_at a p s) := by unfold g3_at; repeat (first | refine gIn_S ?_ ?_ | exact gIn_O (by decide) | exact gIn_z (by decide))
  refine V_aload_n C dL_at_0 rfl ?_
  refine V_iconst (v := 0) C dL_at_1 (by decide) ?_
  refine V_aload_n C dL_at_2 rfl ?_
  refine V_iload_n C dL_at_3 rfl ?_
  refine V_iload_n C dL_at_4 rfl ?_
  refine V_hcall (tgt := (fun E => if E = eI then 13 else if E = eA then 17 else if E = eN then 21 else 0)) C tab (RX_V C (c_X3_at hfl hW) mi_X3_at mk_L_49 rfl (by decide) rfl (rfl : vwCl[5]? = some (RX3, TX3, 13)) (by decide) rfl (Nat.le_of_ble_eq_true rfl) (by decide) dL_at_5) (fun E hE => ?_) (fun E q9 hE => ?_) (fun hg => ?_)
  · have hm := hin E hE
    simp only [List.mem_cons, List.not_mem_nil, or_false] at hm
    rcases hm with rfl | rfl | rfl
    · try dsimp only
      rw [if_pos rfl]
      exact ⟨[], (0, 10, 13, 28), [(0, 10, 17, 13), (0, 10, 21, 40)], rfl, (fun _ h => absurd h List.not_mem_nil), by decide, by decide, by decide, rfl, by decide, lk_L_28, cs_eI⟩
    · try dsimp only
      rw [if_neg (by decide), if_pos rfl]
      exact ⟨[(0, 10, 13, 28)], (0, 10, 17, 13), [(0, 10, 21, 40)], rfl, (List.forall_mem_cons.mpr ⟨⟨by decide, eI, by decide, by decide, lk_L_28⟩, (fun _ h => absurd h List.not_mem_nil)⟩), by decide, by decide, by decide, rfl, by decide, lk_L_13, cs_eA⟩
    · try dsimp only
      rw [if_neg (by decide), if_neg (by decide), if_pos rfl]
      exact ⟨[(0, 10, 13, 28), (0, 10, 17, 13)], (0, 10, 21, 40), [], rfl, (List.forall_mem_cons.mpr ⟨⟨by decide, eI, by decide, by decide, lk_L_28⟩, (List.forall_mem_cons.mpr ⟨⟨by decide, eA, by decide, by decide, lk_L_13⟩, (fun _ h => absurd h List.not_mem_nil)⟩)⟩), by decide, by decide, by decide, rfl, by decide, lk_L_40, cs_eN⟩
  · have hm := hin E hE
    simp only [List.mem_cons, List.not_mem_nil, or_false] at hm
    rcases hm with rfl | rfl | rfl
    · try dsimp only
      rw [if_pos rfl]
      refine V_astore_4 C dL_at_13 (by decide) ?_
      refine V_iconst (v := 1) C dL_at_15 (by decide) ?_
      exact V_lret C hr dL_at_16 ⟨by rw [hE]; rfl, rfl, fun z => absurd (z.symm.trans hE) (by simp), fun _ => ⟨rfl, rfl⟩⟩ (by decide)
    · try dsimp only
      rw [if_neg (by decide), if_pos rfl]
      refine V_astore_4 C dL_at_17 (by decide) ?_
      refine V_iconst (v := 2) C dL_at_19 (by decide) ?_
      exact V_lret C hr dL_at_20 ⟨by rw [hE]; rfl, rfl, fun z => absurd (z.symm.trans hE) (by simp), fun _ => ⟨rfl, rfl⟩⟩ (by decide)
    · try dsimp only
      rw [if_neg (by decide), if_neg (by decide), if_pos rfl]
      refine V_astore_4 C dL_at_21 (by decide) ?_
      refine V_iconst (v := 3) C dL_at_23 (by decide) ?_
      exact V_lret C hr dL_at_24 ⟨by rw [hE]; rfl, rfl, fun z => absurd (z.symm.trans hE) (by simp), fun _ => ⟨rfl, rfl⟩⟩ (by decide)
  · skip
    refine V_i2l C dL_at_8 rfl ?_
    refine V_last C rfl dL_at_9 ?_
    refine V_goto C 25 dL_at_10 (by decide) ?_
    refine V_iconst (v := 0) C dL_at_25 (by decide) ?_
    exact V_lret C hr dL_at_26 ⟨by rw [hg]; rfl, rfl, fun _ => ⟨rfl, rfl⟩, fun z => absurd hg z⟩ (by decide)
set_option maxHeartbeats 4000000 in
set_option maxRecDepth 100000 in
theorem c_L_holders {l : Launch} {x : Sh} {a b : Mem} {o : Out} (hfl : l.stackTraces = false) (hW : WC a) {q : Int32} : LG l x yL_holders cL_holders 4 (some .int) [(0, 9, 12, 28)] 9 420 1 6 [.ref (x.2.1 0), .int q, .ref (x.2.1 87)] a b o (QL x (LF [eI] (gQ a q) ((nI (nTaken a (tn q)))).toInt64 o.2 a a b o)) := by
  refine LG.of (maxL := 4) (ret := (some .int)) hfl (by decide) [some (.ref (x.2.1 0)), some (.int q), some (.ref (x.2.1 87)), none] rfl rfl (Nat.le_of_ble_eq_true rfl) ?_
  intro pP eE sS mM argsA belowB methM cC C hr tab
  have hin : gIn [eI] (gQ a q) := by repeat (first | refine gIn_S ?_ ?_ | exact gIn_O (by decide) | exact gIn_z (by decide))
  refine V_aload_n C dL_holders_0 rfl ?_
  refine V_iconst (v := 0) C dL_holders_1 (by decide) ?_
  refine V_aload_n C dL_holders_2 rfl ?_
  refine V_iload_n C dL_holders_3 rfl ?_
  refine V_hcall (tgt := (fun E => if E = eI then 12 else 0)) C tab (RX_V C (c_X3_holders hfl hW) mi_X3_holders mk_L_52 rfl (by decide) rfl (rfl : vwCl[5]? = some (RX3, TX3, 13)) (by decide) rfl (Nat.le_of_ble_eq_true rfl) (by decide) dL_holders_4) (fun E hE => ?_) (fun E q9 hE => ?_) (fun hg => ?_)
  · have hm := hin E hE
    simp only [List.mem_cons, List.not_mem_nil, or_false] at hm
    subst hm
    · try dsimp only
      rw [if_pos rfl]
      exact ⟨[], (0, 9, 12, 28), [], rfl, (fun _ h => absurd h List.not_mem_nil), by decide, by decide, by decide, rfl, by decide, lk_L_28, cs_eI⟩
  · have hm := hin E hE
    simp only [List.mem_cons, List.not_mem_nil, or_false] at hm
    subst hm
    · try dsimp only
      rw [if_pos rfl]
      refine V_astore_n3 C dL_holders_12 (by decide) ?_
      refine V_iconst (v := 1) C dL_holders_13 (by decide) ?_
      exact V_lret C hr dL_holders_14 ⟨by rw [hE]; rfl, rfl, fun z => absurd (z.symm.trans hE) (by simp), fun _ => ⟨rfl, rfl⟩⟩ (by decide)
  · skip
    refine V_i2l C dL_holders_7 rfl ?_
    refine V_last C rfl dL_holders_8 ?_
    refine V_goto C 15 dL_holders_9 (by decide) ?_
    refine V_iconst (v := 0) C dL_holders_15 (by decide) ?_
    exact V_lret C hr dL_holders_16 ⟨by rw [hg]; rfl, rfl, fun _ => ⟨rfl, rfl⟩, fun z => absurd hg z⟩ (by decide)
set_option maxHeartbeats 4000000 in
set_option maxRecDepth 100000 in
theorem c_L_holder {l : Launch} {x : Sh} {a b : Mem} {o : Out} (hfl : l.stackTraces = false) (hW : WC a) {q idx : Int32} : LG l x yL_holder cL_holder 5 (some .int) [(0, 10, 13, 28), (0, 10, 17, 40)] 9 420 2 12 [.ref (x.2.1 0), .int q, .int idx, .ref (x.2.1 87)] a b o (QL x (LF [eI, eN] (g3_holder a q idx) ((fI (nthS (hs a (tn q)) idx) 10)).toInt64 o.2 a a b o)) := by
  refine LG.of (maxL := 5) (ret := (some .int)) hfl (by decide) [some (.ref (x.2.1 0)), some (.int q), some (.int idx), some (.ref (x.2.1 87)), none] rfl rfl (Nat.le_of_ble_eq_true rfl) ?_
  intro pP eE sS mM argsA belowB methM cC C hr tab
  have hin : gIn [eI, eN] (g3_holder a q idx) := by unfold g3_holder; repeat (first | refine gIn_S ?_ ?_ | exact gIn_O (by decide) | exact gIn_z (by decide))
  refine V_aload_n C dL_holder_0 rfl ?_
  refine V_iconst (v := 0) C dL_holder_1 (by decide) ?_
  refine V_aload_n C dL_holder_2 rfl ?_
  refine V_iload_n C dL_holder_3 rfl ?_
  refine V_iload_n C dL_holder_4 rfl ?_
  refine V_hcall (tgt := (fun E => if E = eI then 13 else if E = eN then 17 else 0)) C tab (RX_V C (c_X3_holder hfl hW) mi_X3_holder mk_L_55 rfl (by decide) rfl (rfl : vwCl[5]? = some (RX3, TX3, 13)) (by decide) rfl (Nat.le_of_ble_eq_true rfl) (by decide) dL_holder_5) (fun E hE => ?_) (fun E q9 hE => ?_) (fun hg => ?_)
  · have hm := hin E hE
    simp only [List.mem_cons, List.not_mem_nil, or_false] at hm
    rcases hm with rfl | rfl
    · try dsimp only
      rw [if_pos rfl]
      exact ⟨[], (0, 10, 13, 28), [(0, 10, 17, 40)], rfl, (fun _ h => absurd h List.not_mem_nil), by decide, by decide, by decide, rfl, by decide, lk_L_28, cs_eI⟩
    · try dsimp only
      rw [if_neg (by decide), if_pos rfl]
      exact ⟨[(0, 10, 13, 28)], (0, 10, 17, 40), [], rfl, (List.forall_mem_cons.mpr ⟨⟨by decide, eI, by decide, by decide, lk_L_28⟩, (fun _ h => absurd h List.not_mem_nil)⟩), by decide, by decide, by decide, rfl, by decide, lk_L_40, cs_eN⟩
  · have hm := hin E hE
    simp only [List.mem_cons, List.not_mem_nil, or_false] at hm
    rcases hm with rfl | rfl
    · try dsimp only
      rw [if_pos rfl]
      refine V_astore_4 C dL_holder_13 (by decide) ?_
      refine V_iconst (v := 1) C dL_holder_15 (by decide) ?_
      exact V_lret C hr dL_holder_16 ⟨by rw [hE]; rfl, rfl, fun z => absurd (z.symm.trans hE) (by simp), fun _ => ⟨rfl, rfl⟩⟩ (by decide)
    · try dsimp only
      rw [if_neg (by decide), if_pos rfl]
      refine V_astore_4 C dL_holder_17 (by decide) ?_
      refine V_iconst (v := 2) C dL_holder_19 (by decide) ?_
      exact V_lret C hr dL_holder_20 ⟨by rw [hE]; rfl, rfl, fun z => absurd (z.symm.trans hE) (by simp), fun _ => ⟨rfl, rfl⟩⟩ (by decide)
  · skip
    refine V_i2l C dL_holder_8 rfl ?_
    refine V_last C rfl dL_holder_9 ?_
    refine V_goto C 21 dL_holder_10 (by decide) ?_
    refine V_iconst (v := 0) C dL_holder_21 (by decide) ?_
    exact V_lret C hr dL_holder_22 ⟨by rw [hg]; rfl, rfl, fun _ => ⟨rfl, rfl⟩, fun z => absurd hg z⟩ (by decide)
set_option maxHeartbeats 4000000 in
set_option maxRecDepth 100000 in
theorem c_L_paid {l : Launch} {x : Sh} {a b : Mem} {o : Out} (hfl : l.stackTraces = false) (hW : WC a) {p q : Int32} : LG l x yL_paid cL_paid 5 (some .int) [(0, 10, 13, 28), (0, 10, 17, 40)] 9 420 3 18 [.ref (x.2.1 0), .int p, .int q, .ref (x.2.1 87)] a b o (QL x (LF [eI, eN] (g3_paid a p q) ((a (18 + 4 * tn q + 1) (tn p))).toInt64 o.2 a a b o)) := by
  refine LG.of (maxL := 5) (ret := (some .int)) hfl (by decide) [some (.ref (x.2.1 0)), some (.int p), some (.int q), some (.ref (x.2.1 87)), none] rfl rfl (Nat.le_of_ble_eq_true rfl) ?_
  intro pP eE sS mM argsA belowB methM cC C hr tab
  have hin : gIn [eI, eN] (g3_paid a p q) := by unfold g3_paid; repeat (first | refine gIn_S ?_ ?_ | exact gIn_O (by decide) | exact gIn_z (by decide))
  refine V_aload_n C dL_paid_0 rfl ?_
  refine V_iconst (v := 0) C dL_paid_1 (by decide) ?_
  refine V_aload_n C dL_paid_2 rfl ?_
  refine V_iload_n C dL_paid_3 rfl ?_
  refine V_iload_n C dL_paid_4 rfl ?_
  refine V_hcall (tgt := (fun E => if E = eI then 13 else if E = eN then 17 else 0)) C tab (RX_V C (c_X3_paid hfl hW) mi_X3_paid mk_L_58 rfl (by decide) rfl (rfl : vwCl[5]? = some (RX3, TX3, 13)) (by decide) rfl (Nat.le_of_ble_eq_true rfl) (by decide) dL_paid_5) (fun E hE => ?_) (fun E q9 hE => ?_) (fun hg => ?_)
  · have hm := hin E hE
    simp only [List.mem_cons, List.not_mem_nil, or_false] at hm
    rcases hm with rfl | rfl
    · try dsimp only
      rw [if_pos rfl]
      exact ⟨[], (0, 10, 13, 28), [(0, 10, 17, 40)], rfl, (fun _ h => absurd h List.not_mem_nil), by decide, by decide, by decide, rfl, by decide, lk_L_28, cs_eI⟩
    · try dsimp only
      rw [if_neg (by decide), if_pos rfl]
      exact ⟨[(0, 10, 13, 28)], (0, 10, 17, 40), [], rfl, (List.forall_mem_cons.mpr ⟨⟨by decide, eI, by decide, by decide, lk_L_28⟩, (fun _ h => absurd h List.not_mem_nil)⟩), by decide, by decide, by decide, rfl, by decide, lk_L_40, cs_eN⟩
  · have hm := hin E hE
    simp only [List.mem_cons, List.not_mem_nil, or_false] at hm
    rcases hm with rfl | rfl
    · try dsimp only
      rw [if_pos rfl]
      refine V_astore_4 C dL_paid_13 (by decide) ?_
      refine V_iconst (v := 1) C dL_paid_15 (by decide) ?_
      exact V_lret C hr dL_paid_16 ⟨by rw [hE]; rfl, rfl, fun z => absurd (z.symm.trans hE) (by simp), fun _ => ⟨rfl, rfl⟩⟩ (by decide)
    · try dsimp only
      rw [if_neg (by decide), if_pos rfl]
      refine V_astore_4 C dL_paid_17 (by decide) ?_
      refine V_iconst (v := 2) C dL_paid_19 (by decide) ?_
      exact V_lret C hr dL_paid_20 ⟨by rw [hE]; rfl, rfl, fun z => absurd (z.symm.trans hE) (by simp), fun _ => ⟨rfl, rfl⟩⟩ (by decide)
  · skip
    refine V_i2l C dL_paid_8 rfl ?_
    refine V_last C rfl dL_paid_9 ?_
    refine V_goto C 21 dL_paid_10 (by decide) ?_
    refine V_iconst (v := 0) C dL_paid_21 (by decide) ?_
    exact V_lret C hr dL_paid_22 ⟨by rw [hg]; rfl, rfl, fun _ => ⟨rfl, rfl⟩, fun z => absurd hg z⟩ (by decide)
set_option maxHeartbeats 4000000 in
set_option maxRecDepth 100000 in
theorem c_L_waiting {l : Launch} {x : Sh} {a b : Mem} {o : Out} (hfl : l.stackTraces = false) (hW : WC a) {q : Int32} : LG l x yL_waiting cL_waiting 4 (some .int) [(0, 9, 12, 28)] 9 420 1 6 [.ref (x.2.1 0), .int q, .ref (x.2.1 87)] a b o (QL x (LF [eI] (gQ a q) ((a (18 + 4 * tn q) 8)).toInt64 o.2 a a b o)) := by
  refine LG.of (maxL := 4) (ret := (some .int)) hfl (by decide) [some (.ref (x.2.1 0)), some (.int q), some (.ref (x.2.1 87)), none] rfl rfl (Nat.le_of_ble_eq_true rfl) ?_
  intro pP eE sS mM argsA belowB methM cC C hr tab
  have hin : gIn [eI] (gQ a q) := by repeat (first | refine gIn_S ?_ ?_ | exact gIn_O (by decide) | exact gIn_z (by decide))
  refine V_aload_n C dL_waiting_0 rfl ?_
  refine V_iconst (v := 0) C dL_waiting_1 (by decide) ?_
  refine V_aload_n C dL_waiting_2 rfl ?_
  refine V_iload_n C dL_waiting_3 rfl ?_
  refine V_hcall (tgt := (fun E => if E = eI then 12 else 0)) C tab (RX_V C (c_X3_waiting hfl hW) mi_X3_waiting mk_L_61 rfl (by decide) rfl (rfl : vwCl[5]? = some (RX3, TX3, 13)) (by decide) rfl (Nat.le_of_ble_eq_true rfl) (by decide) dL_waiting_4) (fun E hE => ?_) (fun E q9 hE => ?_) (fun hg => ?_)
  · have hm := hin E hE
    simp only [List.mem_cons, List.not_mem_nil, or_false] at hm
    subst hm
    · try dsimp only
      rw [if_pos rfl]
      exact ⟨[], (0, 9, 12, 28), [], rfl, (fun _ h => absurd h List.not_mem_nil), by decide, by decide, by decide, rfl, by decide, lk_L_28, cs_eI⟩
  · have hm := hin E hE
    simp only [List.mem_cons, List.not_mem_nil, or_false] at hm
    subst hm
    · try dsimp only
      rw [if_pos rfl]
      refine V_astore_n3 C dL_waiting_12 (by decide) ?_
      refine V_iconst (v := 1) C dL_waiting_13 (by decide) ?_
      exact V_lret C hr dL_waiting_14 ⟨by rw [hE]; rfl, rfl, fun z => absurd (z.symm.trans hE) (by simp), fun _ => ⟨rfl, rfl⟩⟩ (by decide)
  · skip
    refine V_i2l C dL_waiting_7 rfl ?_
    refine V_last C rfl dL_waiting_8 ?_
    refine V_goto C 15 dL_waiting_9 (by decide) ?_
    refine V_iconst (v := 0) C dL_waiting_15 (by decide) ?_
    exact V_lret C hr dL_waiting_16 ⟨by rw [hg]; rfl, rfl, fun _ => ⟨rfl, rfl⟩, fun z => absurd hg z⟩ (by decide)
set_option maxHeartbeats 4000000 in
set_option maxRecDepth 100000 in
theorem c_L_waiter {l : Launch} {x : Sh} {a b : Mem} {o : Out} (hfl : l.stackTraces = false) (hW : WC a) {q idx : Int32} : LG l x yL_waiter cL_waiter 5 (some .int) [(0, 10, 13, 28), (0, 10, 17, 40)] 9 420 2 12 [.ref (x.2.1 0), .int q, .int idx, .ref (x.2.1 87)] a b o (QL x (LF [eI, eN] (g3_waiter a q idx) ((a (18 + 4 * tn q + 2) (tn idx))).toInt64 o.2 a a b o)) := by
  refine LG.of (maxL := 5) (ret := (some .int)) hfl (by decide) [some (.ref (x.2.1 0)), some (.int q), some (.int idx), some (.ref (x.2.1 87)), none] rfl rfl (Nat.le_of_ble_eq_true rfl) ?_
  intro pP eE sS mM argsA belowB methM cC C hr tab
  have hin : gIn [eI, eN] (g3_waiter a q idx) := by unfold g3_waiter; repeat (first | refine gIn_S ?_ ?_ | exact gIn_O (by decide) | exact gIn_z (by decide))
  refine V_aload_n C dL_waiter_0 rfl ?_
  refine V_iconst (v := 0) C dL_waiter_1 (by decide) ?_
  refine V_aload_n C dL_waiter_2 rfl ?_
  refine V_iload_n C dL_waiter_3 rfl ?_
  refine V_iload_n C dL_waiter_4 rfl ?_
  refine V_hcall (tgt := (fun E => if E = eI then 13 else if E = eN then 17 else 0)) C tab (RX_V C (c_X3_waiter hfl hW) mi_X3_waiter mk_L_64 rfl (by decide) rfl (rfl : vwCl[5]? = some (RX3, TX3, 13)) (by decide) rfl (Nat.le_of_ble_eq_true rfl) (by decide) dL_waiter_5) (fun E hE => ?_) (fun E q9 hE => ?_) (fun hg => ?_)
  · have hm := hin E hE
    simp only [List.mem_cons, List.not_mem_nil, or_false] at hm
    rcases hm with rfl | rfl
    · try dsimp only
      rw [if_pos rfl]
      exact ⟨[], (0, 10, 13, 28), [(0, 10, 17, 40)], rfl, (fun _ h => absurd h List.not_mem_nil), by decide, by decide, by decide, rfl, by decide, lk_L_28, cs_eI⟩
    · try dsimp only
      rw [if_neg (by decide), if_pos rfl]
      exact ⟨[(0, 10, 13, 28)], (0, 10, 17, 40), [], rfl, (List.forall_mem_cons.mpr ⟨⟨by decide, eI, by decide, by decide, lk_L_28⟩, (fun _ h => absurd h List.not_mem_nil)⟩), by decide, by decide, by decide, rfl, by decide, lk_L_40, cs_eN⟩
  · have hm := hin E hE
    simp only [List.mem_cons, List.not_mem_nil, or_false] at hm
    rcases hm with rfl | rfl
    · try dsimp only
      rw [if_pos rfl]
      refine V_astore_4 C dL_waiter_13 (by decide) ?_
      refine V_iconst (v := 1) C dL_waiter_15 (by decide) ?_
      exact V_lret C hr dL_waiter_16 ⟨by rw [hE]; rfl, rfl, fun z => absurd (z.symm.trans hE) (by simp), fun _ => ⟨rfl, rfl⟩⟩ (by decide)
    · try dsimp only
      rw [if_neg (by decide), if_pos rfl]
      refine V_astore_4 C dL_waiter_17 (by decide) ?_
      refine V_iconst (v := 2) C dL_waiter_19 (by decide) ?_
      exact V_lret C hr dL_waiter_20 ⟨by rw [hE]; rfl, rfl, fun z => absurd (z.symm.trans hE) (by simp), fun _ => ⟨rfl, rfl⟩⟩ (by decide)
  · skip
    refine V_i2l C dL_waiter_8 rfl ?_
    refine V_last C rfl dL_waiter_9 ?_
    refine V_goto C 21 dL_waiter_10 (by decide) ?_
    refine V_iconst (v := 0) C dL_waiter_21 (by decide) ?_
    exact V_lret C hr dL_waiter_22 ⟨by rw [hg]; rfl, rfl, fun _ => ⟨rfl, rfl⟩, fun z => absurd hg z⟩ (by decide)
set_option maxHeartbeats 4000000 in
set_option maxRecDepth 100000 in
theorem c_L_giveUp {l : Launch} {x : Sh} {a b : Mem} {o : Out} (hfl : l.stackTraces = false) (hW : WC a) {p q : Int32} : LG l x yL_giveUp cL_giveUp 5 (some .int) [(0, 10, 13, 28), (0, 10, 17, 30)] 9 420 3 18 [.ref (x.2.1 0), .int p, .int q, .ref (x.2.1 87)] a b o (QL x (LF [eI, eU] (g3_giveUp a p q) ((muF (guA a (tn p) (tn q)) (tn q))).toInt64 o.2 (muA (guA a (tn p) (tn q)) (tn q)) a b o)) := by
  refine LG.of (maxL := 5) (ret := (some .int)) hfl (by decide) [some (.ref (x.2.1 0)), some (.int p), some (.int q), some (.ref (x.2.1 87)), none] rfl rfl (Nat.le_of_ble_eq_true rfl) ?_
  intro pP eE sS mM argsA belowB methM cC C hr tab
  have hin : gIn [eI, eU] (g3_giveUp a p q) := by unfold g3_giveUp; repeat (first | refine gIn_S ?_ ?_ | exact gIn_O (by decide) | exact gIn_z (by decide))
  refine V_aload_n C dL_giveUp_0 rfl ?_
  refine V_iconst (v := 0) C dL_giveUp_1 (by decide) ?_
  refine V_aload_n C dL_giveUp_2 rfl ?_
  refine V_iload_n C dL_giveUp_3 rfl ?_
  refine V_iload_n C dL_giveUp_4 rfl ?_
  refine V_hcall (tgt := (fun E => if E = eI then 13 else if E = eU then 17 else 0)) C tab (RX_V C (c_X3_giveUp hfl hW) mi_X3_giveUp mk_L_67 rfl (by decide) rfl (rfl : vwCl[5]? = some (RX3, TX3, 13)) (by decide) rfl (Nat.le_of_ble_eq_true rfl) (by decide) dL_giveUp_5) (fun E hE => ?_) (fun E q9 hE => ?_) (fun hg => ?_)
  · have hm := hin E hE
    simp only [List.mem_cons, List.not_mem_nil, or_false] at hm
    rcases hm with rfl | rfl
    · try dsimp only
      rw [if_pos rfl]
      exact ⟨[], (0, 10, 13, 28), [(0, 10, 17, 30)], rfl, (fun _ h => absurd h List.not_mem_nil), by decide, by decide, by decide, rfl, by decide, lk_L_28, cs_eI⟩
    · try dsimp only
      rw [if_neg (by decide), if_pos rfl]
      exact ⟨[(0, 10, 13, 28)], (0, 10, 17, 30), [], rfl, (List.forall_mem_cons.mpr ⟨⟨by decide, eI, by decide, by decide, lk_L_28⟩, (fun _ h => absurd h List.not_mem_nil)⟩), by decide, by decide, by decide, rfl, by decide, lk_L_30, cs_eU⟩
  · have hm := hin E hE
    simp only [List.mem_cons, List.not_mem_nil, or_false] at hm
    rcases hm with rfl | rfl
    · try dsimp only
      rw [if_pos rfl]
      refine V_astore_4 C dL_giveUp_13 (by decide) ?_
      refine V_iconst (v := 1) C dL_giveUp_15 (by decide) ?_
      exact V_lret C hr dL_giveUp_16 ⟨by rw [hE]; rfl, rfl, fun z => absurd (z.symm.trans hE) (by simp), fun _ => ⟨rfl, rfl⟩⟩ (by decide)
    · try dsimp only
      rw [if_neg (by decide), if_pos rfl]
      refine V_astore_4 C dL_giveUp_17 (by decide) ?_
      refine V_iconst (v := 2) C dL_giveUp_19 (by decide) ?_
      exact V_lret C hr dL_giveUp_20 ⟨by rw [hE]; rfl, rfl, fun z => absurd (z.symm.trans hE) (by simp), fun _ => ⟨rfl, rfl⟩⟩ (by decide)
  · skip
    refine V_i2l C dL_giveUp_8 rfl ?_
    refine V_last C rfl dL_giveUp_9 ?_
    refine V_goto C 21 dL_giveUp_10 (by decide) ?_
    refine V_iconst (v := 0) C dL_giveUp_21 (by decide) ?_
    exact V_lret C hr dL_giveUp_22 ⟨by rw [hg]; rfl, rfl, fun _ => ⟨rfl, rfl⟩, fun z => absurd hg z⟩ (by decide)
set_option maxHeartbeats 4000000 in
set_option maxRecDepth 100000 in
theorem c_L_move {l : Launch} {x : Sh} {a b : Mem} {o : Out} (hfl : l.stackTraces = false) (hW : WC a) {q s : Int32} : LG l x yL_move cL_move 5 (some .int) [(0, 10, 13, 28), (0, 10, 17, 13), (0, 10, 21, 30)] 10 460 3 18 [.ref (x.2.1 0), .int q, .int s, .ref (x.2.1 87)] a b o (QL x (LF [eI, eA, eU] (g3_move a q s) ((nI (mvC a (tn q) s (nP a)))).toInt64 o.2 (a3_move a (tn q) s) a b o)) := by
  refine LG.of (maxL := 5) (ret := (some .int)) hfl (by decide) [some (.ref (x.2.1 0)), some (.int q), some (.int s), some (.ref (x.2.1 87)), none] rfl rfl (Nat.le_of_ble_eq_true rfl) ?_
  intro pP eE sS mM argsA belowB methM cC C hr tab
  have hin : gIn [eI, eA, eU] (g3_move a q s) := by unfold g3_move; repeat (first | refine gIn_S ?_ ?_ | exact gIn_O (by decide) | exact gIn_z (by decide))
  refine V_aload_n C dL_move_0 rfl ?_
  refine V_iconst (v := 0) C dL_move_1 (by decide) ?_
  refine V_aload_n C dL_move_2 rfl ?_
  refine V_iload_n C dL_move_3 rfl ?_
  refine V_iload_n C dL_move_4 rfl ?_
  refine V_hcall (tgt := (fun E => if E = eI then 13 else if E = eA then 17 else if E = eU then 21 else 0)) C tab (RX_V C (c_X3_move hfl hW) mi_X3_move mk_L_70 rfl (by decide) rfl (rfl : vwCl[5]? = some (RX3, TX3, 13)) (by decide) rfl (Nat.le_of_ble_eq_true rfl) (by decide) dL_move_5) (fun E hE => ?_) (fun E q9 hE => ?_) (fun hg => ?_)
  · have hm := hin E hE
    simp only [List.mem_cons, List.not_mem_nil, or_false] at hm
    rcases hm with rfl | rfl | rfl
    · try dsimp only
      rw [if_pos rfl]
      exact ⟨[], (0, 10, 13, 28), [(0, 10, 17, 13), (0, 10, 21, 30)], rfl, (fun _ h => absurd h List.not_mem_nil), by decide, by decide, by decide, rfl, by decide, lk_L_28, cs_eI⟩
    · try dsimp only
      rw [if_neg (by decide), if_pos rfl]
      exact ⟨[(0, 10, 13, 28)], (0, 10, 17, 13), [(0, 10, 21, 30)], rfl, (List.forall_mem_cons.mpr ⟨⟨by decide, eI, by decide, by decide, lk_L_28⟩, (fun _ h => absurd h List.not_mem_nil)⟩), by decide, by decide, by decide, rfl, by decide, lk_L_13, cs_eA⟩
    · try dsimp only
      rw [if_neg (by decide), if_neg (by decide), if_pos rfl]
      exact ⟨[(0, 10, 13, 28), (0, 10, 17, 13)], (0, 10, 21, 30), [], rfl, (List.forall_mem_cons.mpr ⟨⟨by decide, eI, by decide, by decide, lk_L_28⟩, (List.forall_mem_cons.mpr ⟨⟨by decide, eA, by decide, by decide, lk_L_13⟩, (fun _ h => absurd h List.not_mem_nil)⟩)⟩), by decide, by decide, by decide, rfl, by decide, lk_L_30, cs_eU⟩
  · have hm := hin E hE
    simp only [List.mem_cons, List.not_mem_nil, or_false] at hm
    rcases hm with rfl | rfl | rfl
    · try dsimp only
      rw [if_pos rfl]
      refine V_astore_4 C dL_move_13 (by decide) ?_
      refine V_iconst (v := 1) C dL_move_15 (by decide) ?_
      exact V_lret C hr dL_move_16 ⟨by rw [hE]; rfl, rfl, fun z => absurd (z.symm.trans hE) (by simp), fun _ => ⟨rfl, rfl⟩⟩ (by decide)
    · try dsimp only
      rw [if_neg (by decide), if_pos rfl]
      refine V_astore_4 C dL_move_17 (by decide) ?_
      refine V_iconst (v := 2) C dL_move_19 (by decide) ?_
      exact V_lret C hr dL_move_20 ⟨by rw [hE]; rfl, rfl, fun z => absurd (z.symm.trans hE) (by simp), fun _ => ⟨rfl, rfl⟩⟩ (by decide)
    · try dsimp only
      rw [if_neg (by decide), if_neg (by decide), if_pos rfl]
      refine V_astore_4 C dL_move_21 (by decide) ?_
      refine V_iconst (v := 3) C dL_move_23 (by decide) ?_
      exact V_lret C hr dL_move_24 ⟨by rw [hE]; rfl, rfl, fun z => absurd (z.symm.trans hE) (by simp), fun _ => ⟨rfl, rfl⟩⟩ (by decide)
  · skip
    refine V_i2l C dL_move_8 rfl ?_
    refine V_last C rfl dL_move_9 ?_
    refine V_goto C 25 dL_move_10 (by decide) ?_
    refine V_iconst (v := 0) C dL_move_25 (by decide) ?_
    exact V_lret C hr dL_move_26 ⟨by rw [hg]; rfl, rfl, fun _ => ⟨rfl, rfl⟩, fun z => absurd hg z⟩ (by decide)
set_option maxHeartbeats 4000000 in
set_option maxRecDepth 100000 in
theorem c_L_slotOf {l : Launch} {x : Sh} {a b : Mem} {o : Out} (hfl : l.stackTraces = false) (hW : WC a) {q : Int32} : LG l x yL_slotOf cL_slotOf 4 (some .int) [(0, 9, 12, 28)] 9 420 1 6 [.ref (x.2.1 0), .int q, .ref (x.2.1 87)] a b o (QL x (LF [eI] (gQ a q) ((a (18 + 4 * tn q) 1)).toInt64 o.2 a a b o)) := by
  refine LG.of (maxL := 4) (ret := (some .int)) hfl (by decide) [some (.ref (x.2.1 0)), some (.int q), some (.ref (x.2.1 87)), none] rfl rfl (Nat.le_of_ble_eq_true rfl) ?_
  intro pP eE sS mM argsA belowB methM cC C hr tab
  have hin : gIn [eI] (gQ a q) := by repeat (first | refine gIn_S ?_ ?_ | exact gIn_O (by decide) | exact gIn_z (by decide))
  refine V_aload_n C dL_slotOf_0 rfl ?_
  refine V_iconst (v := 0) C dL_slotOf_1 (by decide) ?_
  refine V_aload_n C dL_slotOf_2 rfl ?_
  refine V_iload_n C dL_slotOf_3 rfl ?_
  refine V_hcall (tgt := (fun E => if E = eI then 12 else 0)) C tab (RX_V C (c_X3_slotOf hfl hW) mi_X3_slotOf mk_L_73 rfl (by decide) rfl (rfl : vwCl[5]? = some (RX3, TX3, 13)) (by decide) rfl (Nat.le_of_ble_eq_true rfl) (by decide) dL_slotOf_4) (fun E hE => ?_) (fun E q9 hE => ?_) (fun hg => ?_)
  · have hm := hin E hE
    simp only [List.mem_cons, List.not_mem_nil, or_false] at hm
    subst hm
    · try dsimp only
      rw [if_pos rfl]
      exact ⟨[], (0, 9, 12, 28), [], rfl, (fun _ h => absurd h List.not_mem_nil), by decide, by decide, by decide, rfl, by decide, lk_L_28, cs_eI⟩
  · have hm := hin E hE
    simp only [List.mem_cons, List.not_mem_nil, or_false] at hm
    subst hm
    · try dsimp only
      rw [if_pos rfl]
      refine V_astore_n3 C dL_slotOf_12 (by decide) ?_
      refine V_iconst (v := 1) C dL_slotOf_13 (by decide) ?_
      exact V_lret C hr dL_slotOf_14 ⟨by rw [hE]; rfl, rfl, fun z => absurd (z.symm.trans hE) (by simp), fun _ => ⟨rfl, rfl⟩⟩ (by decide)
  · skip
    refine V_i2l C dL_slotOf_7 rfl ?_
    refine V_last C rfl dL_slotOf_8 ?_
    refine V_goto C 15 dL_slotOf_9 (by decide) ?_
    refine V_iconst (v := 0) C dL_slotOf_15 (by decide) ?_
    exact V_lret C hr dL_slotOf_16 ⟨by rw [hg]; rfl, rfl, fun _ => ⟨rfl, rfl⟩, fun z => absurd hg z⟩ (by decide)
set_option maxHeartbeats 4000000 in
set_option maxRecDepth 100000 in
theorem c_L_write {l : Launch} {x : Sh} {a b : Mem} {o : Out} (hfl : l.stackTraces = false) (hW : WC a) {t p e f v : Int32} : LG l x yL_write cL_write 8 (some .int) [(0, 16, 19, 28), (0, 16, 23, 13)] 9 420 5 30 [.ref (x.2.1 0), .int t, .int p, .int e, .int f, .int v, .ref (x.2.1 87)] a b o (QL x (LF [eI, eA] (g3_write a t p e f v) ((a (3 + (tn t * 3 + fNat f)) (tn p * 6 + tn e))).toInt64 o.2 (up2 a (3 + (tn t * 3 + fNat f)) (tn p * 6 + tn e) v) a b o)) := by
  refine LG.of (maxL := 8) (ret := (some .int)) hfl (by decide) [some (.ref (x.2.1 0)), some (.int t), some (.int p), some (.int e), some (.int f), some (.int v), some (.ref (x.2.1 87)), none] rfl rfl (Nat.le_of_ble_eq_true rfl) ?_
  intro pP eE sS mM argsA belowB methM cC C hr tab
  have hin : gIn [eI, eA] (g3_write a t p e f v) := by unfold g3_write; repeat (first | refine gIn_S ?_ ?_ | exact gIn_O (by decide) | exact gIn_z (by decide))
  refine V_aload C dL_write_0 rfl ?_
  refine V_iconst (v := 0) C dL_write_2 (by decide) ?_
  refine V_aload_n C dL_write_3 rfl ?_
  refine V_iload_n C dL_write_4 rfl ?_
  refine V_iload_n C dL_write_5 rfl ?_
  refine V_iload_n C dL_write_6 rfl ?_
  refine V_iload C dL_write_7 rfl ?_
  refine V_iload C dL_write_9 rfl ?_
  refine V_hcall (tgt := (fun E => if E = eI then 19 else if E = eA then 23 else 0)) C tab (RX_V C (c_X3_write hfl hW) mi_X3_write mk_L_76 rfl (by decide) rfl (rfl : vwCl[5]? = some (RX3, TX3, 13)) (by decide) rfl (Nat.le_of_ble_eq_true rfl) (by decide) dL_write_11) (fun E hE => ?_) (fun E q9 hE => ?_) (fun hg => ?_)
  · have hm := hin E hE
    simp only [List.mem_cons, List.not_mem_nil, or_false] at hm
    rcases hm with rfl | rfl
    · try dsimp only
      rw [if_pos rfl]
      exact ⟨[], (0, 16, 19, 28), [(0, 16, 23, 13)], rfl, (fun _ h => absurd h List.not_mem_nil), by decide, by decide, by decide, rfl, by decide, lk_L_28, cs_eI⟩
    · try dsimp only
      rw [if_neg (by decide), if_pos rfl]
      exact ⟨[(0, 16, 19, 28)], (0, 16, 23, 13), [], rfl, (List.forall_mem_cons.mpr ⟨⟨by decide, eI, by decide, by decide, lk_L_28⟩, (fun _ h => absurd h List.not_mem_nil)⟩), by decide, by decide, by decide, rfl, by decide, lk_L_13, cs_eA⟩
  · have hm := hin E hE
    simp only [List.mem_cons, List.not_mem_nil, or_false] at hm
    rcases hm with rfl | rfl
    · try dsimp only
      rw [if_pos rfl]
      refine V_astore_7 C dL_write_19 (by decide) ?_
      refine V_iconst (v := 1) C dL_write_21 (by decide) ?_
      exact V_lret C hr dL_write_22 ⟨by rw [hE]; rfl, rfl, fun z => absurd (z.symm.trans hE) (by simp), fun _ => ⟨rfl, rfl⟩⟩ (by decide)
    · try dsimp only
      rw [if_neg (by decide), if_pos rfl]
      refine V_astore_7 C dL_write_23 (by decide) ?_
      refine V_iconst (v := 2) C dL_write_25 (by decide) ?_
      exact V_lret C hr dL_write_26 ⟨by rw [hE]; rfl, rfl, fun z => absurd (z.symm.trans hE) (by simp), fun _ => ⟨rfl, rfl⟩⟩ (by decide)
  · skip
    refine V_i2l C dL_write_14 rfl ?_
    refine V_last C rfl dL_write_15 ?_
    refine V_goto C 27 dL_write_16 (by decide) ?_
    refine V_iconst (v := 0) C dL_write_27 (by decide) ?_
    exact V_lret C hr dL_write_28 ⟨by rw [hg]; rfl, rfl, fun _ => ⟨rfl, rfl⟩, fun z => absurd hg z⟩ (by decide)
set_option maxHeartbeats 4000000 in
set_option maxRecDepth 100000 in
theorem c_L_read {l : Launch} {x : Sh} {a b : Mem} {o : Out} (hfl : l.stackTraces = false) (hW : WC a) {t p e f : Int32} : LG l x yL_read cL_read 7 (some .int) [(0, 14, 17, 28), (0, 14, 21, 13)] 9 420 4 24 [.ref (x.2.1 0), .int t, .int p, .int e, .int f, .ref (x.2.1 87)] a b o (QL x (LF [eI, eA] (g3_read a t p e f) ((a (3 + (tn t * 3 + fNat f)) (tn p * 6 + tn e))).toInt64 o.2 a a b o)) := by
  refine LG.of (maxL := 7) (ret := (some .int)) hfl (by decide) [some (.ref (x.2.1 0)), some (.int t), some (.int p), some (.int e), some (.int f), some (.ref (x.2.1 87)), none] rfl rfl (Nat.le_of_ble_eq_true rfl) ?_
  intro pP eE sS mM argsA belowB methM cC C hr tab
  have hin : gIn [eI, eA] (g3_read a t p e f) := by unfold g3_read; repeat (first | refine gIn_S ?_ ?_ | exact gIn_O (by decide) | exact gIn_z (by decide))
  refine V_aload C dL_read_0 rfl ?_
  refine V_iconst (v := 0) C dL_read_2 (by decide) ?_
  refine V_aload_n C dL_read_3 rfl ?_
  refine V_iload_n C dL_read_4 rfl ?_
  refine V_iload_n C dL_read_5 rfl ?_
  refine V_iload_n C dL_read_6 rfl ?_
  refine V_iload C dL_read_7 rfl ?_
  refine V_hcall (tgt := (fun E => if E = eI then 17 else if E = eA then 21 else 0)) C tab (RX_V C (c_X3_read hfl hW) mi_X3_read mk_L_80 rfl (by decide) rfl (rfl : vwCl[5]? = some (RX3, TX3, 13)) (by decide) rfl (Nat.le_of_ble_eq_true rfl) (by decide) dL_read_9) (fun E hE => ?_) (fun E q9 hE => ?_) (fun hg => ?_)
  · have hm := hin E hE
    simp only [List.mem_cons, List.not_mem_nil, or_false] at hm
    rcases hm with rfl | rfl
    · try dsimp only
      rw [if_pos rfl]
      exact ⟨[], (0, 14, 17, 28), [(0, 14, 21, 13)], rfl, (fun _ h => absurd h List.not_mem_nil), by decide, by decide, by decide, rfl, by decide, lk_L_28, cs_eI⟩
    · try dsimp only
      rw [if_neg (by decide), if_pos rfl]
      exact ⟨[(0, 14, 17, 28)], (0, 14, 21, 13), [], rfl, (List.forall_mem_cons.mpr ⟨⟨by decide, eI, by decide, by decide, lk_L_28⟩, (fun _ h => absurd h List.not_mem_nil)⟩), by decide, by decide, by decide, rfl, by decide, lk_L_13, cs_eA⟩
  · have hm := hin E hE
    simp only [List.mem_cons, List.not_mem_nil, or_false] at hm
    rcases hm with rfl | rfl
    · try dsimp only
      rw [if_pos rfl]
      refine V_astore_6 C dL_read_17 (by decide) ?_
      refine V_iconst (v := 1) C dL_read_19 (by decide) ?_
      exact V_lret C hr dL_read_20 ⟨by rw [hE]; rfl, rfl, fun z => absurd (z.symm.trans hE) (by simp), fun _ => ⟨rfl, rfl⟩⟩ (by decide)
    · try dsimp only
      rw [if_neg (by decide), if_pos rfl]
      refine V_astore_6 C dL_read_21 (by decide) ?_
      refine V_iconst (v := 2) C dL_read_23 (by decide) ?_
      exact V_lret C hr dL_read_24 ⟨by rw [hE]; rfl, rfl, fun z => absurd (z.symm.trans hE) (by simp), fun _ => ⟨rfl, rfl⟩⟩ (by decide)
  · skip
    refine V_i2l C dL_read_12 rfl ?_
    refine V_last C rfl dL_read_13 ?_
    refine V_goto C 25 dL_read_14 (by decide) ?_
    refine V_iconst (v := 0) C dL_read_25 (by decide) ?_
    exact V_lret C hr dL_read_26 ⟨by rw [hg]; rfl, rfl, fun _ => ⟨rfl, rfl⟩, fun z => absurd hg z⟩ (by decide)
set_option maxHeartbeats 4000000 in
set_option maxRecDepth 100000 in
theorem c_L_sync {l : Launch} {x : Sh} {a b : Mem} {o : Out} (hfl : l.stackTraces = false) (hW : WC a) {t u : Int32} : LG l x yL_sync cL_sync 5 (some .int) [(0, 10, 13, 28), (0, 10, 17, 13)] 9 420 3 18 [.ref (x.2.1 0), .int t, .int u, .ref (x.2.1 87)] a b o (QL x (LF [eI, eA] (g3_sync t u) ((nI (cnO a (tn t) (tn u) 3))).toInt64 o.2 (cpO a (tn t) (tn u) 3) a b o)) := by
  refine LG.of (maxL := 5) (ret := (some .int)) hfl (by decide) [some (.ref (x.2.1 0)), some (.int t), some (.int u), some (.ref (x.2.1 87)), none] rfl rfl (Nat.le_of_ble_eq_true rfl) ?_
  intro pP eE sS mM argsA belowB methM cC C hr tab
  have hin : gIn [eI, eA] (g3_sync t u) := by unfold g3_sync; repeat (first | refine gIn_S ?_ ?_ | exact gIn_O (by decide) | exact gIn_z (by decide))
  refine V_aload_n C dL_sync_0 rfl ?_
  refine V_iconst (v := 0) C dL_sync_1 (by decide) ?_
  refine V_aload_n C dL_sync_2 rfl ?_
  refine V_iload_n C dL_sync_3 rfl ?_
  refine V_iload_n C dL_sync_4 rfl ?_
  refine V_hcall (tgt := (fun E => if E = eI then 13 else if E = eA then 17 else 0)) C tab (RX_V C (c_X3_sync hfl hW) mi_X3_sync mk_L_84 rfl (by decide) rfl (rfl : vwCl[5]? = some (RX3, TX3, 13)) (by decide) rfl (Nat.le_of_ble_eq_true rfl) (by decide) dL_sync_5) (fun E hE => ?_) (fun E q9 hE => ?_) (fun hg => ?_)
  · have hm := hin E hE
    simp only [List.mem_cons, List.not_mem_nil, or_false] at hm
    rcases hm with rfl | rfl
    · try dsimp only
      rw [if_pos rfl]
      exact ⟨[], (0, 10, 13, 28), [(0, 10, 17, 13)], rfl, (fun _ h => absurd h List.not_mem_nil), by decide, by decide, by decide, rfl, by decide, lk_L_28, cs_eI⟩
    · try dsimp only
      rw [if_neg (by decide), if_pos rfl]
      exact ⟨[(0, 10, 13, 28)], (0, 10, 17, 13), [], rfl, (List.forall_mem_cons.mpr ⟨⟨by decide, eI, by decide, by decide, lk_L_28⟩, (fun _ h => absurd h List.not_mem_nil)⟩), by decide, by decide, by decide, rfl, by decide, lk_L_13, cs_eA⟩
  · have hm := hin E hE
    simp only [List.mem_cons, List.not_mem_nil, or_false] at hm
    rcases hm with rfl | rfl
    · try dsimp only
      rw [if_pos rfl]
      refine V_astore_4 C dL_sync_13 (by decide) ?_
      refine V_iconst (v := 1) C dL_sync_15 (by decide) ?_
      exact V_lret C hr dL_sync_16 ⟨by rw [hE]; rfl, rfl, fun z => absurd (z.symm.trans hE) (by simp), fun _ => ⟨rfl, rfl⟩⟩ (by decide)
    · try dsimp only
      rw [if_neg (by decide), if_pos rfl]
      refine V_astore_4 C dL_sync_17 (by decide) ?_
      refine V_iconst (v := 2) C dL_sync_19 (by decide) ?_
      exact V_lret C hr dL_sync_20 ⟨by rw [hE]; rfl, rfl, fun z => absurd (z.symm.trans hE) (by simp), fun _ => ⟨rfl, rfl⟩⟩ (by decide)
  · skip
    refine V_i2l C dL_sync_8 rfl ?_
    refine V_last C rfl dL_sync_9 ?_
    refine V_goto C 21 dL_sync_10 (by decide) ?_
    refine V_iconst (v := 0) C dL_sync_21 (by decide) ?_
    exact V_lret C hr dL_sync_22 ⟨by rw [hg]; rfl, rfl, fun _ => ⟨rfl, rfl⟩, fun z => absurd hg z⟩ (by decide)
set_option maxHeartbeats 4000000 in
set_option maxRecDepth 100000 in
theorem c_L_owner {l : Launch} {x : Sh} {a b : Mem} {o : Out} (hfl : l.stackTraces = false) (hW : WC a) {f : Int32} : LG l x yL_owner cL_owner 4 (some .int) [(0, 9, 12, 13)] 9 420 1 6 [.ref (x.2.1 0), .int f, .ref (x.2.1 87)] a b o (QL x (LF [eA] (gF f) ((a 12 (fNat f))).toInt64 o.2 a a b o)) := by
  refine LG.of (maxL := 4) (ret := (some .int)) hfl (by decide) [some (.ref (x.2.1 0)), some (.int f), some (.ref (x.2.1 87)), none] rfl rfl (Nat.le_of_ble_eq_true rfl) ?_
  intro pP eE sS mM argsA belowB methM cC C hr tab
  have hin : gIn [eA] (gF f) := by repeat (first | refine gIn_S ?_ ?_ | exact gIn_O (by decide) | exact gIn_z (by decide))
  refine V_aload_n C dL_owner_0 rfl ?_
  refine V_iconst (v := 0) C dL_owner_1 (by decide) ?_
  refine V_aload_n C dL_owner_2 rfl ?_
  refine V_iload_n C dL_owner_3 rfl ?_
  refine V_hcall (tgt := (fun E => if E = eA then 12 else 0)) C tab (RX_V C (c_X3_owner hfl hW) mi_X3_owner mk_L_87 rfl (by decide) rfl (rfl : vwCl[5]? = some (RX3, TX3, 13)) (by decide) rfl (Nat.le_of_ble_eq_true rfl) (by decide) dL_owner_4) (fun E hE => ?_) (fun E q9 hE => ?_) (fun hg => ?_)
  · have hm := hin E hE
    simp only [List.mem_cons, List.not_mem_nil, or_false] at hm
    subst hm
    · try dsimp only
      rw [if_pos rfl]
      exact ⟨[], (0, 9, 12, 13), [], rfl, (fun _ h => absurd h List.not_mem_nil), by decide, by decide, by decide, rfl, by decide, lk_L_13, cs_eA⟩
  · have hm := hin E hE
    simp only [List.mem_cons, List.not_mem_nil, or_false] at hm
    subst hm
    · try dsimp only
      rw [if_pos rfl]
      refine V_astore_n3 C dL_owner_12 (by decide) ?_
      refine V_iconst (v := 1) C dL_owner_13 (by decide) ?_
      exact V_lret C hr dL_owner_14 ⟨by rw [hE]; rfl, rfl, fun z => absurd (z.symm.trans hE) (by simp), fun _ => ⟨rfl, rfl⟩⟩ (by decide)
  · skip
    refine V_i2l C dL_owner_7 rfl ?_
    refine V_last C rfl dL_owner_8 ?_
    refine V_goto C 15 dL_owner_9 (by decide) ?_
    refine V_iconst (v := 0) C dL_owner_15 (by decide) ?_
    exact V_lret C hr dL_owner_16 ⟨by rw [hg]; rfl, rfl, fun _ => ⟨rfl, rfl⟩, fun z => absurd hg z⟩ (by decide)
set_option maxHeartbeats 4000000 in
set_option maxRecDepth 100000 in
theorem c_L_setOwner {l : Launch} {x : Sh} {a b : Mem} {o : Out} (hfl : l.stackTraces = false) (hW : WC a) {f t : Int32} : LG l x yL_setOwner cL_setOwner 5 (some .int) [(0, 10, 13, 13), (0, 10, 17, 28), (0, 10, 21, 30)] 9 420 3 18 [.ref (x.2.1 0), .int f, .int t, .ref (x.2.1 87)] a b o (QL x (LF [eA, eI, eU] (g3_setOwner a f t) ((a 12 (fNat f))).toInt64 o.2 (up2 a 12 (fNat f) t) a b o)) := by
  refine LG.of (maxL := 5) (ret := (some .int)) hfl (by decide) [some (.ref (x.2.1 0)), some (.int f), some (.int t), some (.ref (x.2.1 87)), none] rfl rfl (Nat.le_of_ble_eq_true rfl) ?_
  intro pP eE sS mM argsA belowB methM cC C hr tab
  have hin : gIn [eA, eI, eU] (g3_setOwner a f t) := by unfold g3_setOwner; repeat (first | refine gIn_S ?_ ?_ | exact gIn_O (by decide) | exact gIn_z (by decide))
  refine V_aload_n C dL_setOwner_0 rfl ?_
  refine V_iconst (v := 0) C dL_setOwner_1 (by decide) ?_
  refine V_aload_n C dL_setOwner_2 rfl ?_
  refine V_iload_n C dL_setOwner_3 rfl ?_
  refine V_iload_n C dL_setOwner_4 rfl ?_
  refine V_hcall (tgt := (fun E => if E = eA then 13 else if E = eI then 17 else if E = eU then 21 else 0)) C tab (RX_V C (c_X3_setOwner hfl hW) mi_X3_setOwner mk_L_91 rfl (by decide) rfl (rfl : vwCl[5]? = some (RX3, TX3, 13)) (by decide) rfl (Nat.le_of_ble_eq_true rfl) (by decide) dL_setOwner_5) (fun E hE => ?_) (fun E q9 hE => ?_) (fun hg => ?_)
  · have hm := hin E hE
    simp only [List.mem_cons, List.not_mem_nil, or_false] at hm
    rcases hm with rfl | rfl | rfl
    · try dsimp only
      rw [if_pos rfl]
      exact ⟨[], (0, 10, 13, 13), [(0, 10, 17, 28), (0, 10, 21, 30)], rfl, (fun _ h => absurd h List.not_mem_nil), by decide, by decide, by decide, rfl, by decide, lk_L_13, cs_eA⟩
    · try dsimp only
      rw [if_neg (by decide), if_pos rfl]
      exact ⟨[(0, 10, 13, 13)], (0, 10, 17, 28), [(0, 10, 21, 30)], rfl, (List.forall_mem_cons.mpr ⟨⟨by decide, eA, by decide, by decide, lk_L_13⟩, (fun _ h => absurd h List.not_mem_nil)⟩), by decide, by decide, by decide, rfl, by decide, lk_L_28, cs_eI⟩
    · try dsimp only
      rw [if_neg (by decide), if_neg (by decide), if_pos rfl]
      exact ⟨[(0, 10, 13, 13), (0, 10, 17, 28)], (0, 10, 21, 30), [], rfl, (List.forall_mem_cons.mpr ⟨⟨by decide, eA, by decide, by decide, lk_L_13⟩, (List.forall_mem_cons.mpr ⟨⟨by decide, eI, by decide, by decide, lk_L_28⟩, (fun _ h => absurd h List.not_mem_nil)⟩)⟩), by decide, by decide, by decide, rfl, by decide, lk_L_30, cs_eU⟩
  · have hm := hin E hE
    simp only [List.mem_cons, List.not_mem_nil, or_false] at hm
    rcases hm with rfl | rfl | rfl
    · try dsimp only
      rw [if_pos rfl]
      refine V_astore_4 C dL_setOwner_13 (by decide) ?_
      refine V_iconst (v := 1) C dL_setOwner_15 (by decide) ?_
      exact V_lret C hr dL_setOwner_16 ⟨by rw [hE]; rfl, rfl, fun z => absurd (z.symm.trans hE) (by simp), fun _ => ⟨rfl, rfl⟩⟩ (by decide)
    · try dsimp only
      rw [if_neg (by decide), if_pos rfl]
      refine V_astore_4 C dL_setOwner_17 (by decide) ?_
      refine V_iconst (v := 2) C dL_setOwner_19 (by decide) ?_
      exact V_lret C hr dL_setOwner_20 ⟨by rw [hE]; rfl, rfl, fun z => absurd (z.symm.trans hE) (by simp), fun _ => ⟨rfl, rfl⟩⟩ (by decide)
    · try dsimp only
      rw [if_neg (by decide), if_neg (by decide), if_pos rfl]
      refine V_astore_4 C dL_setOwner_21 (by decide) ?_
      refine V_iconst (v := 3) C dL_setOwner_23 (by decide) ?_
      exact V_lret C hr dL_setOwner_24 ⟨by rw [hE]; rfl, rfl, fun z => absurd (z.symm.trans hE) (by simp), fun _ => ⟨rfl, rfl⟩⟩ (by decide)
  · skip
    refine V_i2l C dL_setOwner_8 rfl ?_
    refine V_last C rfl dL_setOwner_9 ?_
    refine V_goto C 25 dL_setOwner_10 (by decide) ?_
    refine V_iconst (v := 0) C dL_setOwner_25 (by decide) ?_
    exact V_lret C hr dL_setOwner_26 ⟨by rw [hg]; rfl, rfl, fun _ => ⟨rfl, rfl⟩, fun z => absurd hg z⟩ (by decide)
set_option maxHeartbeats 4000000 in
set_option maxRecDepth 100000 in
theorem c_L_apart {l : Launch} {x : Sh} {a b : Mem} {o : Out} (hfl : l.stackTraces = false) (hW : WC a) {f : Int32} : LG l x yL_apart cL_apart 4 (some .int) [(0, 9, 12, 13)] 9 420 1 6 [.ref (x.2.1 0), .int f, .ref (x.2.1 87)] a b o (QL x (LF [eA] (gF f) ((nI (cntN (fun c => !agB a (fNat f) c) 60))).toInt64 o.2 a a b o)) := by
  refine LG.of (maxL := 4) (ret := (some .int)) hfl (by decide) [some (.ref (x.2.1 0)), some (.int f), some (.ref (x.2.1 87)), none] rfl rfl (Nat.le_of_ble_eq_true rfl) ?_
  intro pP eE sS mM argsA belowB methM cC C hr tab
  have hin : gIn [eA] (gF f) := by repeat (first | refine gIn_S ?_ ?_ | exact gIn_O (by decide) | exact gIn_z (by decide))
  refine V_aload_n C dL_apart_0 rfl ?_
  refine V_iconst (v := 0) C dL_apart_1 (by decide) ?_
  refine V_aload_n C dL_apart_2 rfl ?_
  refine V_iload_n C dL_apart_3 rfl ?_
  refine V_hcall (tgt := (fun E => if E = eA then 12 else 0)) C tab (RX_V C (c_X3_apart hfl hW) mi_X3_apart mk_L_95 rfl (by decide) rfl (rfl : vwCl[5]? = some (RX3, TX3, 13)) (by decide) rfl (Nat.le_of_ble_eq_true rfl) (by decide) dL_apart_4) (fun E hE => ?_) (fun E q9 hE => ?_) (fun hg => ?_)
  · have hm := hin E hE
    simp only [List.mem_cons, List.not_mem_nil, or_false] at hm
    subst hm
    · try dsimp only
      rw [if_pos rfl]
      exact ⟨[], (0, 9, 12, 13), [], rfl, (fun _ h => absurd h List.not_mem_nil), by decide, by decide, by decide, rfl, by decide, lk_L_13, cs_eA⟩
  · have hm := hin E hE
    simp only [List.mem_cons, List.not_mem_nil, or_false] at hm
    subst hm
    · try dsimp only
      rw [if_pos rfl]
      refine V_astore_n3 C dL_apart_12 (by decide) ?_
      refine V_iconst (v := 1) C dL_apart_13 (by decide) ?_
      exact V_lret C hr dL_apart_14 ⟨by rw [hE]; rfl, rfl, fun z => absurd (z.symm.trans hE) (by simp), fun _ => ⟨rfl, rfl⟩⟩ (by decide)
  · skip
    refine V_i2l C dL_apart_7 rfl ?_
    refine V_last C rfl dL_apart_8 ?_
    refine V_goto C 15 dL_apart_9 (by decide) ?_
    refine V_iconst (v := 0) C dL_apart_15 (by decide) ?_
    exact V_lret C hr dL_apart_16 ⟨by rw [hg]; rfl, rfl, fun _ => ⟨rfl, rfl⟩, fun z => absurd hg z⟩ (by decide)
set_option maxHeartbeats 4000000 in
set_option maxRecDepth 100000 in
theorem c_L_maySit {l : Launch} {x : Sh} {a b : Mem} {o : Out} (hfl : l.stackTraces = false) (hW : WC a) {p e : Int32} : LG l x yL_maySit cL_maySit 5 (some .int) [(0, 17, 20, 28)] 9 420 2 12 [.ref (x.2.1 0), .int p, .int e, .ref (x.2.1 87)] a b o (QL x (LF [eI] (g3_maySit a p e) ((bI (rgB a (tn p) (tn e)))).toInt64 o.2 a a b o)) := by
  refine LG.of (maxL := 5) (ret := (some .int)) hfl (by decide) [some (.ref (x.2.1 0)), some (.int p), some (.int e), some (.ref (x.2.1 87)), none] rfl rfl (Nat.le_of_ble_eq_true rfl) ?_
  intro pP eE sS mM argsA belowB methM cC C hr tab
  have hin : gIn [eI] (g3_maySit a p e) := by unfold g3_maySit; repeat (first | refine gIn_S ?_ ?_ | exact gIn_O (by decide) | exact gIn_z (by decide))
  refine V_aload_n C dL_maySit_0 rfl ?_
  refine V_iconst (v := 0) C dL_maySit_1 (by decide) ?_
  refine V_aload_n C dL_maySit_2 rfl ?_
  refine V_iload_n C dL_maySit_3 rfl ?_
  refine V_iload_n C dL_maySit_4 rfl ?_
  refine V_hcall (tgt := (fun E => if E = eI then 20 else 0)) C tab (RX_V C (c_X3_maySit hfl hW) mi_X3_maySit mk_L_98 rfl (by decide) rfl (rfl : vwCl[5]? = some (RX3, TX3, 13)) (by decide) rfl (Nat.le_of_ble_eq_true rfl) (by decide) dL_maySit_5) (fun E hE => ?_) (fun E q9 hE => ?_) (fun hg => ?_)
  · have hm := hin E hE
    simp only [List.mem_cons, List.not_mem_nil, or_false] at hm
    subst hm
    · try dsimp only
      rw [if_pos rfl]
      exact ⟨[], (0, 17, 20, 28), [], rfl, (fun _ h => absurd h List.not_mem_nil), by decide, by decide, by decide, rfl, by decide, lk_L_28, cs_eI⟩
  · have hm := hin E hE
    simp only [List.mem_cons, List.not_mem_nil, or_false] at hm
    subst hm
    · try dsimp only
      rw [if_pos rfl]
      refine V_astore_4 C dL_maySit_20 (by decide) ?_
      refine V_iconst (v := 1) C dL_maySit_22 (by decide) ?_
      exact V_lret C hr dL_maySit_23 ⟨by rw [hE]; rfl, rfl, fun z => absurd (z.symm.trans hE) (by simp), fun _ => ⟨rfl, rfl⟩⟩ (by decide)
  · skip
    refine V_ifb_eq C 15 dL_maySit_8 (by decide) (fun hb => ?_) (fun hb => ?_)
    · skip
      refine V_lconst C dL_maySit_15 rfl ?_
      refine V_last C rfl dL_maySit_16 ?_
      refine V_goto C 24 dL_maySit_17 (by decide) ?_
      refine V_iconst (v := 0) C dL_maySit_24 (by decide) ?_
      exact V_lret C hr dL_maySit_25 ⟨by rw [hg]; rfl, rfl, fun _ => ⟨rfl, (by rw [hb]; rfl)⟩, fun z => absurd hg z⟩ (by decide)
    · skip
      refine V_lconst C dL_maySit_11 rfl ?_
      refine V_goto C 16 dL_maySit_12 (by decide) ?_
      refine V_last C rfl dL_maySit_16 ?_
      refine V_goto C 24 dL_maySit_17 (by decide) ?_
      refine V_iconst (v := 0) C dL_maySit_24 (by decide) ?_
      exact V_lret C hr dL_maySit_25 ⟨by rw [hg]; rfl, rfl, fun _ => ⟨rfl, (by rw [hb]; rfl)⟩, fun z => absurd hg z⟩ (by decide)
set_option maxHeartbeats 4000000 in
set_option maxRecDepth 100000 in
theorem c_L_isOpen {l : Launch} {x : Sh} {a b : Mem} {o : Out} (hfl : l.stackTraces = false) (hW : WC a) {p e : Int32} : LG l x yL_isOpen cL_isOpen 5 (some .int) [(0, 17, 20, 28)] 9 420 2 12 [.ref (x.2.1 0), .int p, .int e, .ref (x.2.1 87)] a b o (QL x (LF [eI] (g3_maySit a p e) ((bI (roB a (tn p) (tn e)))).toInt64 o.2 a a b o)) := by
  refine LG.of (maxL := 5) (ret := (some .int)) hfl (by decide) [some (.ref (x.2.1 0)), some (.int p), some (.int e), some (.ref (x.2.1 87)), none] rfl rfl (Nat.le_of_ble_eq_true rfl) ?_
  intro pP eE sS mM argsA belowB methM cC C hr tab
  have hin : gIn [eI] (g3_maySit a p e) := by unfold g3_maySit; repeat (first | refine gIn_S ?_ ?_ | exact gIn_O (by decide) | exact gIn_z (by decide))
  refine V_aload_n C dL_isOpen_0 rfl ?_
  refine V_iconst (v := 0) C dL_isOpen_1 (by decide) ?_
  refine V_aload_n C dL_isOpen_2 rfl ?_
  refine V_iload_n C dL_isOpen_3 rfl ?_
  refine V_iload_n C dL_isOpen_4 rfl ?_
  refine V_hcall (tgt := (fun E => if E = eI then 20 else 0)) C tab (RX_V C (c_X3_isOpen hfl hW) mi_X3_isOpen mk_L_102 rfl (by decide) rfl (rfl : vwCl[5]? = some (RX3, TX3, 13)) (by decide) rfl (Nat.le_of_ble_eq_true rfl) (by decide) dL_isOpen_5) (fun E hE => ?_) (fun E q9 hE => ?_) (fun hg => ?_)
  · have hm := hin E hE
    simp only [List.mem_cons, List.not_mem_nil, or_false] at hm
    subst hm
    · try dsimp only
      rw [if_pos rfl]
      exact ⟨[], (0, 17, 20, 28), [], rfl, (fun _ h => absurd h List.not_mem_nil), by decide, by decide, by decide, rfl, by decide, lk_L_28, cs_eI⟩
  · have hm := hin E hE
    simp only [List.mem_cons, List.not_mem_nil, or_false] at hm
    subst hm
    · try dsimp only
      rw [if_pos rfl]
      refine V_astore_4 C dL_isOpen_20 (by decide) ?_
      refine V_iconst (v := 1) C dL_isOpen_22 (by decide) ?_
      exact V_lret C hr dL_isOpen_23 ⟨by rw [hE]; rfl, rfl, fun z => absurd (z.symm.trans hE) (by simp), fun _ => ⟨rfl, rfl⟩⟩ (by decide)
  · skip
    refine V_ifb_eq C 15 dL_isOpen_8 (by decide) (fun hb => ?_) (fun hb => ?_)
    · skip
      refine V_lconst C dL_isOpen_15 rfl ?_
      refine V_last C rfl dL_isOpen_16 ?_
      refine V_goto C 24 dL_isOpen_17 (by decide) ?_
      refine V_iconst (v := 0) C dL_isOpen_24 (by decide) ?_
      exact V_lret C hr dL_isOpen_25 ⟨by rw [hg]; rfl, rfl, fun _ => ⟨rfl, (by rw [hb]; rfl)⟩, fun z => absurd hg z⟩ (by decide)
    · skip
      refine V_lconst C dL_isOpen_11 rfl ?_
      refine V_goto C 16 dL_isOpen_12 (by decide) ?_
      refine V_last C rfl dL_isOpen_16 ?_
      refine V_goto C 24 dL_isOpen_17 (by decide) ?_
      refine V_iconst (v := 0) C dL_isOpen_24 (by decide) ?_
      exact V_lret C hr dL_isOpen_25 ⟨by rw [hg]; rfl, rfl, fun _ => ⟨rfl, (by rw [hb]; rfl)⟩, fun z => absurd hg z⟩ (by decide)
set_option maxHeartbeats 4000000 in
set_option maxRecDepth 100000 in
theorem c_L_sit {l : Launch} {x : Sh} {a b : Mem} {o : Out} (hfl : l.stackTraces = false) (hW : WC a) {s : Int32} : LG l x yL_sit cL_sit 4 (some .int) [(0, 9, 12, 13), (0, 9, 15, 30)] 9 420 2 12 [.ref (x.2.1 0), .int s, .ref (x.2.1 87)] a b o (QL x (LF [eA, eU] (g3_sit a s) ((nI (siC a s (nO a)))).toInt64 o.2 (up2 (siK a s (nO a)) 69 (tn s) 1) a b o)) := by
  refine LG.of (maxL := 4) (ret := (some .int)) hfl (by decide) [some (.ref (x.2.1 0)), some (.int s), some (.ref (x.2.1 87)), none] rfl rfl (Nat.le_of_ble_eq_true rfl) ?_
  intro pP eE sS mM argsA belowB methM cC C hr tab
  have hin : gIn [eA, eU] (g3_sit a s) := by unfold g3_sit; repeat (first | refine gIn_S ?_ ?_ | exact gIn_O (by decide) | exact gIn_z (by decide))
  refine V_aload_n C dL_sit_0 rfl ?_
  refine V_iconst (v := 0) C dL_sit_1 (by decide) ?_
  refine V_aload_n C dL_sit_2 rfl ?_
  refine V_iload_n C dL_sit_3 rfl ?_
  refine V_hcall (tgt := (fun E => if E = eA then 12 else if E = eU then 15 else 0)) C tab (RX_V C (c_X3_sit hfl hW) mi_X3_sit mk_L_105 rfl (by decide) rfl (rfl : vwCl[5]? = some (RX3, TX3, 13)) (by decide) rfl (Nat.le_of_ble_eq_true rfl) (by decide) dL_sit_4) (fun E hE => ?_) (fun E q9 hE => ?_) (fun hg => ?_)
  · have hm := hin E hE
    simp only [List.mem_cons, List.not_mem_nil, or_false] at hm
    rcases hm with rfl | rfl
    · try dsimp only
      rw [if_pos rfl]
      exact ⟨[], (0, 9, 12, 13), [(0, 9, 15, 30)], rfl, (fun _ h => absurd h List.not_mem_nil), by decide, by decide, by decide, rfl, by decide, lk_L_13, cs_eA⟩
    · try dsimp only
      rw [if_neg (by decide), if_pos rfl]
      exact ⟨[(0, 9, 12, 13)], (0, 9, 15, 30), [], rfl, (List.forall_mem_cons.mpr ⟨⟨by decide, eA, by decide, by decide, lk_L_13⟩, (fun _ h => absurd h List.not_mem_nil)⟩), by decide, by decide, by decide, rfl, by decide, lk_L_30, cs_eU⟩
  · have hm := hin E hE
    simp only [List.mem_cons, List.not_mem_nil, or_false] at hm
    rcases hm with rfl | rfl
    · try dsimp only
      rw [if_pos rfl]
      refine V_astore_n3 C dL_sit_12 (by decide) ?_
      refine V_iconst (v := 1) C dL_sit_13 (by decide) ?_
      exact V_lret C hr dL_sit_14 ⟨by rw [hE]; rfl, rfl, fun z => absurd (z.symm.trans hE) (by simp), fun _ => ⟨rfl, rfl⟩⟩ (by decide)
    · try dsimp only
      rw [if_neg (by decide), if_pos rfl]
      refine V_astore_n3 C dL_sit_15 (by decide) ?_
      refine V_iconst (v := 2) C dL_sit_16 (by decide) ?_
      exact V_lret C hr dL_sit_17 ⟨by rw [hE]; rfl, rfl, fun z => absurd (z.symm.trans hE) (by simp), fun _ => ⟨rfl, rfl⟩⟩ (by decide)
  · skip
    refine V_i2l C dL_sit_7 rfl ?_
    refine V_last C rfl dL_sit_8 ?_
    refine V_goto C 18 dL_sit_9 (by decide) ?_
    refine V_iconst (v := 0) C dL_sit_18 (by decide) ?_
    exact V_lret C hr dL_sit_19 ⟨by rw [hg]; rfl, rfl, fun _ => ⟨rfl, rfl⟩, fun z => absurd hg z⟩ (by decide)
set_option maxHeartbeats 4000000 in
set_option maxRecDepth 100000 in
theorem c_L_hasSat {l : Launch} {x : Sh} {a b : Mem} {o : Out} (hfl : l.stackTraces = false) (hW : WC a) {p ex z : Int32} : LG l x yL_hasSat cL_hasSat 6 (some .int) [(0, 19, 22, 28)] 9 420 2 12 [.ref (x.2.1 0), .int p, .int ex, .int z, .ref (x.2.1 87)] a b o (QL x (LF [eI] (g3_maySit a p ex) ((bI (hsB a p ex z))).toInt64 o.2 a a b o)) := by
  refine LG.of (maxL := 6) (ret := (some .int)) hfl (by decide) [some (.ref (x.2.1 0)), some (.int p), some (.int ex), some (.int z), some (.ref (x.2.1 87)), none] rfl rfl (Nat.le_of_ble_eq_true rfl) ?_
  intro pP eE sS mM argsA belowB methM cC C hr tab
  have hin : gIn [eI] (g3_maySit a p ex) := by unfold g3_maySit; repeat (first | refine gIn_S ?_ ?_ | exact gIn_O (by decide) | exact gIn_z (by decide))
  refine V_aload C dL_hasSat_0 rfl ?_
  refine V_iconst (v := 0) C dL_hasSat_2 (by decide) ?_
  refine V_aload_n C dL_hasSat_3 rfl ?_
  refine V_iload_n C dL_hasSat_4 rfl ?_
  refine V_iload_n C dL_hasSat_5 rfl ?_
  refine V_iload_n C dL_hasSat_6 rfl ?_
  refine V_hcall (tgt := (fun E => if E = eI then 22 else 0)) C tab (RX_V C (c_X3_hasSat hfl hW) mi_X3_hasSat mk_L_108 rfl (by decide) rfl (rfl : vwCl[5]? = some (RX3, TX3, 13)) (by decide) rfl (Nat.le_of_ble_eq_true rfl) (by decide) dL_hasSat_7) (fun E hE => ?_) (fun E q9 hE => ?_) (fun hg => ?_)
  · have hm := hin E hE
    simp only [List.mem_cons, List.not_mem_nil, or_false] at hm
    subst hm
    · try dsimp only
      rw [if_pos rfl]
      exact ⟨[], (0, 19, 22, 28), [], rfl, (fun _ h => absurd h List.not_mem_nil), by decide, by decide, by decide, rfl, by decide, lk_L_28, cs_eI⟩
  · have hm := hin E hE
    simp only [List.mem_cons, List.not_mem_nil, or_false] at hm
    subst hm
    · try dsimp only
      rw [if_pos rfl]
      refine V_astore_5 C dL_hasSat_22 (by decide) ?_
      refine V_iconst (v := 1) C dL_hasSat_24 (by decide) ?_
      exact V_lret C hr dL_hasSat_25 ⟨by rw [hE]; rfl, rfl, fun z => absurd (z.symm.trans hE) (by simp), fun _ => ⟨rfl, rfl⟩⟩ (by decide)
  · skip
    refine V_ifb_eq C 17 dL_hasSat_10 (by decide) (fun hb => ?_) (fun hb => ?_)
    · skip
      refine V_lconst C dL_hasSat_17 rfl ?_
      refine V_last C rfl dL_hasSat_18 ?_
      refine V_goto C 26 dL_hasSat_19 (by decide) ?_
      refine V_iconst (v := 0) C dL_hasSat_26 (by decide) ?_
      exact V_lret C hr dL_hasSat_27 ⟨by rw [hg]; rfl, rfl, fun _ => ⟨rfl, (by rw [hb]; rfl)⟩, fun z => absurd hg z⟩ (by decide)
    · skip
      refine V_lconst C dL_hasSat_13 rfl ?_
      refine V_goto C 18 dL_hasSat_14 (by decide) ?_
      refine V_last C rfl dL_hasSat_18 ?_
      refine V_goto C 26 dL_hasSat_19 (by decide) ?_
      refine V_iconst (v := 0) C dL_hasSat_26 (by decide) ?_
      exact V_lret C hr dL_hasSat_27 ⟨by rw [hg]; rfl, rfl, fun _ => ⟨rfl, (by rw [hb]; rfl)⟩, fun z => absurd hg z⟩ (by decide)
set_option maxHeartbeats 4000000 in
set_option maxRecDepth 100000 in
theorem c_L_more {l : Launch} {x : Sh} {a b : Mem} {o : Out} (hfl : l.stackTraces = false) (hW : WC a) {p s : Int32} : LG l x yL_more cL_more 5 (some .int) [(0, 10, 13, 28), (0, 10, 17, 13), (0, 10, 21, 40)] 9 420 3 18 [.ref (x.2.1 0), .int p, .int s, .ref (x.2.1 87)] a b o (QL x (LF [eI, eA, eN] (g3_at a p s) ((a (3 + (ow a 2 * 3 + 2)) (tn p * 6 + exN a (firN (haB a (tn p) s) (nO a))))).toInt64 o.2 a a b o)) := by
  refine LG.of (maxL := 5) (ret := (some .int)) hfl (by decide) [some (.ref (x.2.1 0)), some (.int p), some (.int s), some (.ref (x.2.1 87)), none] rfl rfl (Nat.le_of_ble_eq_true rfl) ?_
  intro pP eE sS mM argsA belowB methM cC C hr tab
  have hin : gIn [eI, eA, eN] (g3_at a p s) := by unfold g3_at; repeat (first | refine gIn_S ?_ ?_ | exact gIn_O (by decide) | exact gIn_z (by decide))
  refine V_aload_n C dL_more_0 rfl ?_
  refine V_iconst (v := 0) C dL_more_1 (by decide) ?_
  refine V_aload_n C dL_more_2 rfl ?_
  refine V_iload_n C dL_more_3 rfl ?_
  refine V_iload_n C dL_more_4 rfl ?_
  refine V_hcall (tgt := (fun E => if E = eI then 13 else if E = eA then 17 else if E = eN then 21 else 0)) C tab (RX_V C (c_X3_more hfl hW) mi_X3_more mk_L_112 rfl (by decide) rfl (rfl : vwCl[5]? = some (RX3, TX3, 13)) (by decide) rfl (Nat.le_of_ble_eq_true rfl) (by decide) dL_more_5) (fun E hE => ?_) (fun E q9 hE => ?_) (fun hg => ?_)
  · have hm := hin E hE
    simp only [List.mem_cons, List.not_mem_nil, or_false] at hm
    rcases hm with rfl | rfl | rfl
    · try dsimp only
      rw [if_pos rfl]
      exact ⟨[], (0, 10, 13, 28), [(0, 10, 17, 13), (0, 10, 21, 40)], rfl, (fun _ h => absurd h List.not_mem_nil), by decide, by decide, by decide, rfl, by decide, lk_L_28, cs_eI⟩
    · try dsimp only
      rw [if_neg (by decide), if_pos rfl]
      exact ⟨[(0, 10, 13, 28)], (0, 10, 17, 13), [(0, 10, 21, 40)], rfl, (List.forall_mem_cons.mpr ⟨⟨by decide, eI, by decide, by decide, lk_L_28⟩, (fun _ h => absurd h List.not_mem_nil)⟩), by decide, by decide, by decide, rfl, by decide, lk_L_13, cs_eA⟩
    · try dsimp only
      rw [if_neg (by decide), if_neg (by decide), if_pos rfl]
      exact ⟨[(0, 10, 13, 28), (0, 10, 17, 13)], (0, 10, 21, 40), [], rfl, (List.forall_mem_cons.mpr ⟨⟨by decide, eI, by decide, by decide, lk_L_28⟩, (List.forall_mem_cons.mpr ⟨⟨by decide, eA, by decide, by decide, lk_L_13⟩, (fun _ h => absurd h List.not_mem_nil)⟩)⟩), by decide, by decide, by decide, rfl, by decide, lk_L_40, cs_eN⟩
  · have hm := hin E hE
    simp only [List.mem_cons, List.not_mem_nil, or_false] at hm
    rcases hm with rfl | rfl | rfl
    · try dsimp only
      rw [if_pos rfl]
      refine V_astore_4 C dL_more_13 (by decide) ?_
      refine V_iconst (v := 1) C dL_more_15 (by decide) ?_
      exact V_lret C hr dL_more_16 ⟨by rw [hE]; rfl, rfl, fun z => absurd (z.symm.trans hE) (by simp), fun _ => ⟨rfl, rfl⟩⟩ (by decide)
    · try dsimp only
      rw [if_neg (by decide), if_pos rfl]
      refine V_astore_4 C dL_more_17 (by decide) ?_
      refine V_iconst (v := 2) C dL_more_19 (by decide) ?_
      exact V_lret C hr dL_more_20 ⟨by rw [hE]; rfl, rfl, fun z => absurd (z.symm.trans hE) (by simp), fun _ => ⟨rfl, rfl⟩⟩ (by decide)
    · try dsimp only
      rw [if_neg (by decide), if_neg (by decide), if_pos rfl]
      refine V_astore_4 C dL_more_21 (by decide) ?_
      refine V_iconst (v := 3) C dL_more_23 (by decide) ?_
      exact V_lret C hr dL_more_24 ⟨by rw [hE]; rfl, rfl, fun z => absurd (z.symm.trans hE) (by simp), fun _ => ⟨rfl, rfl⟩⟩ (by decide)
  · skip
    refine V_i2l C dL_more_8 rfl ?_
    refine V_last C rfl dL_more_9 ?_
    refine V_goto C 25 dL_more_10 (by decide) ?_
    refine V_iconst (v := 0) C dL_more_25 (by decide) ?_
    exact V_lret C hr dL_more_26 ⟨by rw [hg]; rfl, rfl, fun _ => ⟨rfl, rfl⟩, fun z => absurd hg z⟩ (by decide)
set_option maxHeartbeats 4000000 in
set_option maxRecDepth 100000 in
theorem c_L_takenShare {l : Launch} {x : Sh} {a b : Mem} {o : Out} (hfl : l.stackTraces = false) (hW : WC a) (h1 : ∀ i, i < nO a → 1 ≤ stN a i) : LG l x yL_takenShare cL_takenShare 3 (some .int) [(0, 8, 11, 119)] 8 380 1 6 [.ref (x.2.1 0), .ref (x.2.1 88)] a b o (QL x (LF [eR] (gzero (a 0 10)) o.1 (FP.f2d ((shF (nI (sumK (nTaken a) (nO a))) (nI (sumK (stN a) (nO a)))))) a a b o)) := by
  refine LG.of (maxL := 3) (ret := (some .int)) hfl (by decide) [some (.ref (x.2.1 0)), some (.ref (x.2.1 88)), none] rfl rfl (Nat.le_of_ble_eq_true rfl) ?_
  intro pP eE sS mM argsA belowB methM cC C hr tab
  have hnnF : gzero (a 0 10) = none → vf_n32 (shF (nI (sumK (nTaken a) (nO a))) (nI (sumK (stN a) (nO a)))) := fun hg => by
    have hol := hW.ol
    have h8 := sumK_le (f := stN a) (c := 6) (n := nO a) (fun i hi => hW.stl (by omega))
    have h7 : nO a ≤ sumK (stN a) (nO a) := sumK_ge h1
    have hn0 : nO a ≠ 0 := by
      intro z
      unfold gzero at hg
      rw [hW.oe, z] at hg
      cases hg
    exact fdiv_nn _ (by omega) (by omega)
  have hin : gIn [eR] (gzero (a 0 10)) := by repeat (first | refine gIn_S ?_ ?_ | exact gIn_O (by decide) | exact gIn_z (by decide))
  refine V_aload_n C dL_takenShare_0 rfl ?_
  refine V_iconst (v := 0) C dL_takenShare_1 (by decide) ?_
  refine V_aload_n C dL_takenShare_2 rfl ?_
  refine V_hcallf (tgt := (fun E => if E = eR then 11 else 0)) C tab (RX_V C (c_X3_takenShare hfl hW h1) mi_X3_takenShare mk_L_115 rfl (by decide) rfl (rfl : vwCl[5]? = some (RX3, TX3, 13)) (by decide) rfl (Nat.le_of_ble_eq_true rfl) (by decide) dL_takenShare_3) (fun E hE => ?_) (fun E q9 hE => ?_) (fun hg => ?_)
  · have hm := hin E hE
    simp only [List.mem_cons, List.not_mem_nil, or_false] at hm
    subst hm
    · try dsimp only
      rw [if_pos rfl]
      exact ⟨[], (0, 8, 11, 119), [], rfl, (fun _ h => absurd h List.not_mem_nil), by decide, by decide, by decide, rfl, by decide, lk_L_119, cs_eR⟩
  · have hm := hin E hE
    simp only [List.mem_cons, List.not_mem_nil, or_false] at hm
    subst hm
    · try dsimp only
      rw [if_pos rfl]
      refine V_astore_n2 C dL_takenShare_11 (by decide) ?_
      refine V_iconst (v := 1) C dL_takenShare_12 (by decide) ?_
      exact V_lret C hr dL_takenShare_13 ⟨by rw [hE]; rfl, rfl, fun z => absurd (z.symm.trans hE) (by simp), fun _ => ⟨rfl, rfl⟩⟩ (by decide)
  · skip
    have hnn := hnnF hg
    refine V_f2d C dL_takenShare_6 (f2d_nn hnn) ?_
    refine V_dast C rfl dL_takenShare_7 ?_
    refine V_goto C 14 dL_takenShare_8 (by decide) ?_
    refine V_iconst (v := 0) C dL_takenShare_14 (by decide) ?_
    exact V_lret C hr dL_takenShare_15 ⟨by rw [hg]; rfl, rfl, fun _ => ⟨rfl, rfl⟩, fun z => absurd hg z⟩ (by decide)
set_option maxHeartbeats 4000000 in
set_option maxRecDepth 100000 in
theorem c_L_meanPoints {l : Launch} {x : Sh} {a b : Mem} {o : Out} (hfl : l.stackTraces = false) (hW : WC a) : LG l x yL_meanPoints cL_meanPoints 3 (some .int) [(0, 7, 10, 119)] 8 380 1 6 [.ref (x.2.1 0), .ref (x.2.1 88)] a b o (QL x (LF [eR] (gzero (a 0 9)) o.1 (mnF (sumN (a 67) (nP a)) (a 0 9)) a a b o)) := by
  refine LG.of (maxL := 3) (ret := (some .int)) hfl (by decide) [some (.ref (x.2.1 0)), some (.ref (x.2.1 88)), none] rfl rfl (Nat.le_of_ble_eq_true rfl) ?_
  intro pP eE sS mM argsA belowB methM cC C hr tab
  have hin : gIn [eR] (gzero (a 0 9)) := by repeat (first | refine gIn_S ?_ ?_ | exact gIn_O (by decide) | exact gIn_z (by decide))
  refine V_aload_n C dL_meanPoints_0 rfl ?_
  refine V_iconst (v := 0) C dL_meanPoints_1 (by decide) ?_
  refine V_aload_n C dL_meanPoints_2 rfl ?_
  refine V_hcalld (tgt := (fun E => if E = eR then 10 else 0)) C tab (RX_V C (c_X3_meanPoints hfl hW) mi_X3_meanPoints mk_L_121 rfl (by decide) rfl (rfl : vwCl[5]? = some (RX3, TX3, 13)) (by decide) rfl (Nat.le_of_ble_eq_true rfl) (by decide) dL_meanPoints_3) (fun E hE => ?_) (fun E q9 hE => ?_) (fun hg => ?_)
  · have hm := hin E hE
    simp only [List.mem_cons, List.not_mem_nil, or_false] at hm
    subst hm
    · try dsimp only
      rw [if_pos rfl]
      exact ⟨[], (0, 7, 10, 119), [], rfl, (fun _ h => absurd h List.not_mem_nil), by decide, by decide, by decide, rfl, by decide, lk_L_119, cs_eR⟩
  · have hm := hin E hE
    simp only [List.mem_cons, List.not_mem_nil, or_false] at hm
    subst hm
    · try dsimp only
      rw [if_pos rfl]
      refine V_astore_n2 C dL_meanPoints_10 (by decide) ?_
      refine V_iconst (v := 1) C dL_meanPoints_11 (by decide) ?_
      exact V_lret C hr dL_meanPoints_12 ⟨by rw [hE]; rfl, rfl, fun z => absurd (z.symm.trans hE) (by simp), fun _ => ⟨rfl, rfl⟩⟩ (by decide)
  · skip
    refine V_dast C rfl dL_meanPoints_6 ?_
    refine V_goto C 13 dL_meanPoints_7 (by decide) ?_
    refine V_iconst (v := 0) C dL_meanPoints_13 (by decide) ?_
    exact V_lret C hr dL_meanPoints_14 ⟨by rw [hg]; rfl, rfl, fun _ => ⟨rfl, rfl⟩, fun z => absurd hg z⟩ (by decide)
