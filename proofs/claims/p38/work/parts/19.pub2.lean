def wonA (a : Mem) (p i : Nat) (V : Int32) : Mem := if nos a i p V = true then (if isFullB a i = true then letW a i (nI p) V (qW a i) else giveA a i p V) else a
def stK (a : Mem) : Nat → Mem
  | 0 => a
  | k + 1 => wonA (stK a k) (bpN a k) (boN a k) (a 16 k)
def stC (a : Mem) : Nat → Nat
  | 0 => 0
  | k + 1 => stC a k + (if (nos (stK a k) (boN a k) (bpN a k) (a 16 k) && !isFullB (stK a k) (boN a k)) = true then 1 else 0)
def a3_settle (a : Mem) : Mem := up2 (up2 (stK a (bW a)) 13 3 0) 0 11 (a 0 11 + 1)
theorem letW_s {a : Mem} {i w c k : Nat} {p pts : Int32} (h : c < 18 + 4 * i ∨ 18 + 4 * i + 4 ≤ c ∨ c = 18 + 4 * i + 1 ∨ (c = 18 + 4 * i ∧ k ≠ 8)) : letW a i p pts w c k = a c k := by
  unfold letW
  split
  · rfl
  · rw [up2_o (by omega), up2_o (by omega), up2_o (by omega)]
theorem wonA_s {a : Mem} {p i c k : Nat} {V : Int32} (h : c ≠ 67 ∧ (c < 18 ∨ 66 ≤ c ∨ ((c - 18) % 4 = 0 ∧ k ≠ 8))) (hn : nO a ≤ 12) (hi : i < 12) : wonA a p i V c k = a c k := by
  unfold wonA
  split
  · split
    · exact letW_s (by omega)
    · exact giveA_s h hn hi
  · rfl
theorem qW_letW {a : Mem} {i p : Nat} {pts : Int32} (h : qW a i ≤ 10) : letW a i (nI p) pts (qW a i) = a ∨ (qW (letW a i (nI p) pts (qW a i)) i = qW a i + 1 ∧ letW a i (nI p) pts (qW a i) (18 + 4 * i) 8 = nI (qW a i + 1) ∧ qW a i < 10 ∧ ∀ k, letW a i (nI p) pts (qW a i) (18 + 4 * i + 2) k = if k = qW a i then nI p else a (18 + 4 * i + 2) k) := by
  unfold letW
  split
  · exact Or.inl rfl
  · rename_i hn
    refine Or.inr ⟨?_, ?_, by omega, fun k => ?_⟩
    · show tn (up2 _ _ _ _ (18 + 4 * i) 8) = _
      rw [up2_s, tn_nI (by omega)]
    · rw [up2_s]
    · rw [up2_o (by omega), up2_o (by omega)]
      by_cases hk : k = qW a i
      · subst hk
        rw [up2_s, if_pos rfl]
      · rw [up2_o (by omega), if_neg hk]
theorem WC.lw {a : Mem} (hW : WC a) {i p : Nat} {pts : Int32} (hi : i < 12) (hp : p < 10) : WC (letW a i (nI p) pts (qW a i)) := by
  rcases qW_letW (a := a) (i := i) (p := p) (pts := pts) (hW.ql hi) with e | ⟨e1, e2, e3, e4⟩
  · rw [e]; exact hW
  · have es : ∀ c k, (c < 18 + 4 * i ∨ 18 + 4 * i + 4 ≤ c ∨ c = 18 + 4 * i + 1 ∨ (c = 18 + 4 * i ∧ k ≠ 8)) → letW a i (nI p) pts (qW a i) c k = a c k := fun c k h => letW_s h
    generalize letW a i (nI p) pts (qW a i) = a' at e1 e2 e4 es ⊢
    obtain ⟨h1, h2, h3, h4, h5, h6, h7, h8, h9⟩ := hW
    unfold WC bW
    rw [es 0 7 (by omega), es 0 8 (by omega), es 0 9 (by omega), es 0 10 (by omega), es 13 3 (by omega)]
    refine ⟨h1, h2, h3, h4, fun j hj => ?_, fun f hf => by rw [es 12 f (by omega)]; exact h6 f hf, h7, fun k hk => by rw [es 14 k (by omega), es 15 k (by omega)]; exact h8 k hk, fun s hs => by rw [es 69 s (by omega)]; exact h9 s hs⟩
    by_cases hji : j = i
    · subst hji
      obtain ⟨g1, g2, g3, g4, g5, g6⟩ := h5 j hj
      unfold WO
      rw [es _ 0 (by omega), es _ 1 (by omega), es _ 4 (by omega), es _ 3 (by omega), e1, e2]
      refine ⟨g1, g2, g3, isN.of rfl (by omega) (by decide), g5, fun k hk => ?_⟩
      rw [e4]
      split
      · exact isN.of rfl (by omega) (by decide)
      · exact g6 k (by omega)
    · exact WO_congr (a := a) (fun c k c1 c2 _ _ => es c k (by omega)) (h5 j hj)
theorem WC.won {a : Mem} (hW : WC a) {i p : Nat} {V : Int32} (hi : i < 12) (hp : p < 10) : WC (wonA a p i V) := by
  unfold wonA
  split
  · split
    · exact hW.lw hi hp
    · exact hW.give hi
  · exact hW
theorem stK_all {a : Mem} (hW : WC a) : ∀ n, n ≤ bW a → WC (stK a n) ∧ ∀ c k, (c ≠ 67 ∧ (c < 18 ∨ 66 ≤ c ∨ ((c - 18) % 4 = 0 ∧ k ≠ 8))) → stK a n c k = a c k := by
  intro n
  induction n with
  | zero => intro _; exact ⟨hW, fun c k _ => rfl⟩
  | succ n ih =>
    intro hn
    obtain ⟨h1, h2⟩ := ih (by omega)
    have hp := hW.bpl (k := n) (by omega)
    have hi := hW.bol (k := n) (by omega)
    refine ⟨h1.won (by omega) (by omega), fun c k h => ?_⟩
    show wonA (stK a n) _ _ _ c k = _
    rw [wonA_s h h1.ol (by omega)]
    exact h2 c k h
theorem mv_hs {a : Mem} {i p : Nat} {s : Int32} (hi : i < 12) : hs (mvK a i s p) i p = hs a i p := by
  simp only [hs]
  rw [mvK_s p (by omega) (by omega) (by omega)]
theorem mvA_w {a : Mem} (hW : WC a) {i n : Nat} (hi : i < 12) (hn : n < 6) : WC (mvA a i (nI n)) := (hW.mv hi _).slot hi hn
set_option maxHeartbeats 4000000 in
set_option maxRecDepth 100000 in
theorem c_X3_bids {l : Launch} {x : Sh} {a b : Mem} {o : Out} (hfl : l.stackTraces = false)  : MG l x yX3_bids cX3_bids 1 (some .int) 0 40 [.ref (x.2.1 0)] a b o (QI x o (FI (a 13 3) a b)) := by
  refine MG.of (maxL := 1) (ret := (some .int)) hfl (by decide) [some (.ref (x.2.1 0))] rfl rfl (Nat.le_of_ble_eq_true rfl) ?_
  intro pP eE sS mM argsA belowB methM cC C hr
  refine V_aload_n C dX3_bids_0 rfl ?_
  refine gt_X3_round C fk_X3_19 dX3_bids_1 ?_
  refine gt_X2_count C fk_X3_142 dX3_bids_4 ?_
  exact V_ireti C hr dX3_bids_7 ⟨rfl, rfl, rfl⟩
set_option maxHeartbeats 4000000 in
set_option maxRecDepth 100000 in
theorem c_X3_rounds {l : Launch} {x : Sh} {a b : Mem} {o : Out} (hfl : l.stackTraces = false)  : MG l x yX3_rounds cX3_rounds 1 (some .int) 0 40 [.ref (x.2.1 0)] a b o (QI x o (FI (a 0 11) a b)) := by
  refine MG.of (maxL := 1) (ret := (some .int)) hfl (by decide) [some (.ref (x.2.1 0))] rfl rfl (Nat.le_of_ble_eq_true rfl) ?_
  intro pP eE sS mM argsA belowB methM cC C hr
  refine V_aload_n C dX3_rounds_0 rfl ?_
  refine gt_X3_settledRounds C fk_X3_157 dX3_rounds_1 ?_
  exact V_ireti C hr dX3_rounds_4 ⟨rfl, rfl, rfl⟩
set_option maxHeartbeats 4000000 in
set_option maxRecDepth 100000 in
theorem c_X3_refunds {l : Launch} {x : Sh} {a b : Mem} {o : Out} (hfl : l.stackTraces = false)  : MG l x yX3_refunds cX3_refunds 1 (some .int) 0 40 [.ref (x.2.1 0)] a b o (QI x o (FI (a 0 12) a b)) := by
  refine MG.of (maxL := 1) (ret := (some .int)) hfl (by decide) [some (.ref (x.2.1 0))] rfl rfl (Nat.le_of_ble_eq_true rfl) ?_
  intro pP eE sS mM argsA belowB methM cC C hr
  refine V_aload_n C dX3_refunds_0 rfl ?_
  refine gt_X3_refundSum C fk_X3_218 dX3_refunds_1 ?_
  exact V_ireti C hr dX3_refunds_4 ⟨rfl, rfl, rfl⟩
set_option maxHeartbeats 4000000 in
set_option maxRecDepth 100000 in
theorem c_X3_write {l : Launch} {x : Sh} {a b : Mem} {o : Out} (hfl : l.stackTraces = false) (hW : WC a) {t p e f v : Int32} : XG l x yX3_write cX3_write 8 (some .int) 8 360 5 30 [.ref (x.2.1 0), .int t, .int p, .int e, .int f, .int v] a b o (QI x o (GI (g3_write a t p e f v) (a (3 + (tn t * 3 + fNat f)) (tn p * 6 + tn e)) (up2 a (3 + (tn t * 3 + fNat f)) (tn p * 6 + tn e) v) b)) (GX (g3_write a t p e f v)) := by
  refine XG.of (maxL := 8) (ret := (some .int)) hfl (by decide) [some (.ref (x.2.1 0)), some (.int t), some (.int p), some (.int e), some (.int f), some (.int v), none, none] rfl rfl (Nat.le_of_ble_eq_true rfl) ?_
  intro pP eE sS mM argsA belowB methM cC C hr ht
  have ho12 := hW.ol
  have hp10 := hW.pl
  have he6 := hW.el
  refine V_iload_n C dX3_write_0 rfl ?_
  refine V_xcallg_v C ht (RX_S C (c_X3_needStore hfl) mi_X3_needStore mk_X3_221 rfl (by decide) rfl (Nat.le_of_ble_eq_true rfl) (by decide) dX3_write_1) (by intro E hE; simp only [GX] at hE ⊢; simp [g3_write, gS, gP, gE, gQ, gT, gL, gF, GX, gS, hE]) (by decide) (fun hg1 => ?_)
  have hb1 := gO_n.mp hg1
  obtain ⟨ut, hut, ute⟩ := ix_of (N := 3) hg1 rfl (by decide)
  subst ute
  have tut : tn (nI ut) = ut := tn_nI (by omega)
  try rw [tut]
  refine V_aload_n C dX3_write_4 rfl ?_
  refine V_iload_n C dX3_write_5 rfl ?_
  refine V_xcallg_v C ht (RX_V C (c_X3_needPupil hfl) mi_X3_needPupil mk_X3_107 rfl (by omega) rfl (rfl : vwCl[5]? = some (RX3, TX3, 13)) (by decide) rfl (Nat.le_of_ble_eq_true rfl) (by decide) dX3_write_6) (by intro E hE; simp only [GX] at hE ⊢; simp [g3_write, gS, gP, gE, gQ, gT, gL, gF, GX, gS, hE, hg1]) (by decide) (fun hg6 => ?_)
  have hb6 := gO_n.mp hg6
  obtain ⟨jp, hjp, jpe⟩ := ix_of hg6 hW.pe (by omega)
  subst jpe
  have tjp : tn (nI jp) = jp := tn_nI (by omega)
  try rw [tjp]
  refine V_aload_n C dX3_write_9 rfl ?_
  refine V_iload_n C dX3_write_10 rfl ?_
  refine V_xcallg_v C ht (RX_V C (c_X3_needExam hfl) mi_X3_needExam mk_X3_70 rfl (by omega) rfl (rfl : vwCl[5]? = some (RX3, TX3, 13)) (by decide) rfl (Nat.le_of_ble_eq_true rfl) (by decide) dX3_write_11) (by intro E hE; simp only [GX] at hE ⊢; simp [g3_write, gS, gP, gE, gQ, gT, gL, gF, GX, gS, hE, hg1, hg6]) (by decide) (fun hg11 => ?_)
  have hb11 := gO_n.mp hg11
  obtain ⟨ke, hke, kee⟩ := ix_of hg11 hW.ee (by omega)
  subst kee
  have tke : tn (nI ke) = ke := tn_nI (by omega)
  try rw [tke]
  refine V_iload C dX3_write_14 rfl ?_
  refine V_xcallg C ht (RX_S C (c_X3_fieldNumbered hfl) mi_X3_fieldNumbered mk_X3_224 rfl (by decide) rfl (Nat.le_of_ble_eq_true rfl) (by decide) dX3_write_16) (by intro E hE; simp only [GX] at hE ⊢; simp [g3_write, gS, gP, gE, gQ, gT, gL, gF, GX, gS, hE, hg1, hg6, hg11]) (by decide) (fun hg16 => ?_)
  have hb16 := gO_n.mp hg16
  have hf3 := fNat_lt f
  refine V_istore_6 C dX3_write_19 (by decide) ?_
  refine V_iload C dX3_write_21 rfl ?_
  refine V_iload C dX3_write_23 rfl ?_
  refine V_callf (R_SN C (c_X1_isInRange hfl) mi_X1_isInRange mk_X3_228 rfl (by decide) rfl (Nat.le_of_ble_eq_true rfl) (by decide) dX3_write_25) ?_
  refine V_ifb_ne C 41 dX3_write_28 (by decide) (fun h28 => ?_) (fun h28 => ?_)
  · refine V_aload_n C dX3_write_41 rfl ?_
    refine gt_X3_records C fk_X3_10 dX3_write_42 ?_
    refine V_iload_n C dX3_write_45 rfl ?_
    refine V_iload C dX3_write_46 rfl ?_
    refine V_iload_n C dX3_write_48 rfl ?_
    refine V_iload_n C dX3_write_49 rfl ?_
    refine V_callf (R_VN C (c_X1_valueIn hfl (by omega) (by omega) (by omega) (by omega)) mi_X1_valueIn mk_X3_233 rfl (by omega) rfl (rfl : vwCl[3]? = some (RX1, TX1, 2)) (by decide) rfl (Nat.le_of_ble_eq_true rfl) (by decide) dX3_write_50) ?_
    refine V_istore_7 C dX3_write_53 (by decide) ?_
    refine V_aload_n C dX3_write_55 rfl ?_
    refine gt_X3_records C fk_X3_10 dX3_write_56 ?_
    refine V_iload_n C dX3_write_59 rfl ?_
    refine V_iload C dX3_write_60 rfl ?_
    refine V_iload_n C dX3_write_62 rfl ?_
    refine V_iload_n C dX3_write_63 rfl ?_
    refine V_iload C dX3_write_64 rfl ?_
    refine V_callfv (R_VN C (c_X1_put hfl (by omega) (by omega) (by omega) (by omega)) mi_X1_put mk_X3_237 rfl (by omega) rfl (rfl : vwCl[3]? = some (RX1, TX1, 2)) (by decide) rfl (Nat.le_of_ble_eq_true rfl) (by decide) dX3_write_66) ?_
    refine V_iload C dX3_write_69 rfl ?_
    refine V_xret (by omega) (by omega) ?_
    exact V_ireti C hr dX3_write_71 ⟨by simp [g3_write, gS, gO, hb1, hb6, hb11, hb16, h28], rfl, rfl, rfl⟩
  · exact V_throwS (text := "value out of range") C ht tw_X3_IllegalArgumentException (by decide +kernel) (by simp [GX, g3_write, gS, gO, hb1, hb6, hb11, hb16, h28]) dX3_write_31 dX3_write_34 dX3_write_35 dX3_write_37 dX3_write_40 (by decide) (by decide)
set_option maxHeartbeats 4000000 in
set_option maxRecDepth 100000 in
theorem c_X3_read {l : Launch} {x : Sh} {a b : Mem} {o : Out} (hfl : l.stackTraces = false) (hW : WC a) {t p e f : Int32} : XG l x yX3_read cX3_read 5 (some .int) 8 360 4 24 [.ref (x.2.1 0), .int t, .int p, .int e, .int f] a b o (QI x o (GI (g3_read a t p e f) (a (3 + (tn t * 3 + fNat f)) (tn p * 6 + tn e)) a b)) (GX (g3_read a t p e f)) := by
  refine XG.of (maxL := 5) (ret := (some .int)) hfl (by decide) [some (.ref (x.2.1 0)), some (.int t), some (.int p), some (.int e), some (.int f)] rfl rfl (Nat.le_of_ble_eq_true rfl) ?_
  intro pP eE sS mM argsA belowB methM cC C hr ht
  have ho12 := hW.ol
  have hp10 := hW.pl
  have he6 := hW.el
  refine V_iload_n C dX3_read_0 rfl ?_
  refine V_xcallg_v C ht (RX_S C (c_X3_needStore hfl) mi_X3_needStore mk_X3_221 rfl (by decide) rfl (Nat.le_of_ble_eq_true rfl) (by decide) dX3_read_1) (by intro E hE; simp only [GX] at hE ⊢; simp [g3_read, gS, gP, gE, gQ, gT, gL, gF, GX, gS, hE]) (by decide) (fun hg1 => ?_)
  have hb1 := gO_n.mp hg1
  obtain ⟨ut, hut, ute⟩ := ix_of (N := 3) hg1 rfl (by decide)
  subst ute
  have tut : tn (nI ut) = ut := tn_nI (by omega)
  try rw [tut]
  refine V_aload_n C dX3_read_4 rfl ?_
  refine V_iload_n C dX3_read_5 rfl ?_
  refine V_xcallg_v C ht (RX_V C (c_X3_needPupil hfl) mi_X3_needPupil mk_X3_107 rfl (by omega) rfl (rfl : vwCl[5]? = some (RX3, TX3, 13)) (by decide) rfl (Nat.le_of_ble_eq_true rfl) (by decide) dX3_read_6) (by intro E hE; simp only [GX] at hE ⊢; simp [g3_read, gS, gP, gE, gQ, gT, gL, gF, GX, gS, hE, hg1]) (by decide) (fun hg6 => ?_)
  have hb6 := gO_n.mp hg6
  obtain ⟨jp, hjp, jpe⟩ := ix_of hg6 hW.pe (by omega)
  subst jpe
  have tjp : tn (nI jp) = jp := tn_nI (by omega)
  try rw [tjp]
  refine V_aload_n C dX3_read_9 rfl ?_
  refine V_iload_n C dX3_read_10 rfl ?_
  refine V_xcallg_v C ht (RX_V C (c_X3_needExam hfl) mi_X3_needExam mk_X3_70 rfl (by omega) rfl (rfl : vwCl[5]? = some (RX3, TX3, 13)) (by decide) rfl (Nat.le_of_ble_eq_true rfl) (by decide) dX3_read_11) (by intro E hE; simp only [GX] at hE ⊢; simp [g3_read, gS, gP, gE, gQ, gT, gL, gF, GX, gS, hE, hg1, hg6]) (by decide) (fun hg11 => ?_)
  have hb11 := gO_n.mp hg11
  obtain ⟨ke, hke, kee⟩ := ix_of hg11 hW.ee (by omega)
  subst kee
  have tke : tn (nI ke) = ke := tn_nI (by omega)
  try rw [tke]
  refine V_aload_n C dX3_read_14 rfl ?_
  refine gt_X3_records C fk_X3_10 dX3_read_15 ?_
  refine V_iload_n C dX3_read_18 rfl ?_
  refine V_iload C dX3_read_19 rfl ?_
  refine V_xcallg C ht (RX_S C (c_X3_fieldNumbered hfl) mi_X3_fieldNumbered mk_X3_224 rfl (by decide) rfl (Nat.le_of_ble_eq_true rfl) (by decide) dX3_read_21) (by intro E hE; simp only [GX] at hE ⊢; simp [g3_read, gS, gP, gE, gQ, gT, gL, gF, GX, gS, hE, hg1, hg6, hg11]) (by decide) (fun hg21 => ?_)
  have hb21 := gO_n.mp hg21
  have hf3 := fNat_lt f
  refine V_iload_n C dX3_read_24 rfl ?_
  refine V_iload_n C dX3_read_25 rfl ?_
  refine V_callf (R_VN C (c_X1_valueIn hfl (by omega) (by omega) (by omega) (by omega)) mi_X1_valueIn mk_X3_233 rfl (by omega) rfl (rfl : vwCl[3]? = some (RX1, TX1, 2)) (by decide) rfl (Nat.le_of_ble_eq_true rfl) (by decide) dX3_read_26) ?_
  refine V_xret (by omega) (by omega) ?_
  exact V_ireti C hr dX3_read_29 ⟨by simp [g3_read, gS, gO, hb1, hb6, hb11, hb21, tut], rfl, rfl, rfl⟩
set_option maxHeartbeats 4000000 in
set_option maxRecDepth 100000 in
theorem c_X3_sync {l : Launch} {x : Sh} {a b : Mem} {o : Out} (hfl : l.stackTraces = false) (hW : WC a) {t u : Int32} : XG l x yX3_sync cX3_sync 3 (some .int) 8 360 3 18 [.ref (x.2.1 0), .int t, .int u] a b o (QI x o (GI (g3_sync t u) (nI (cnO a (tn t) (tn u) 3)) (cpO a (tn t) (tn u) 3) b)) (GX (g3_sync t u)) := by
  refine XG.of (maxL := 3) (ret := (some .int)) hfl (by decide) [some (.ref (x.2.1 0)), some (.int t), some (.int u)] rfl rfl (Nat.le_of_ble_eq_true rfl) ?_
  intro pP eE sS mM argsA belowB methM cC C hr ht
  have ho12 := hW.ol
  have hp10 := hW.pl
  have he6 := hW.el
  refine V_iload_n C dX3_sync_0 rfl ?_
  refine V_xcallg_v C ht (RX_S C (c_X3_needStore hfl) mi_X3_needStore mk_X3_221 rfl (by decide) rfl (Nat.le_of_ble_eq_true rfl) (by decide) dX3_sync_1) (by intro E hE; simp only [GX] at hE ⊢; simp [g3_sync, gS, gP, gE, gQ, gT, gL, gF, GX, gS, hE]) (by decide) (fun hg1 => ?_)
  have hb1 := gO_n.mp hg1
  obtain ⟨ut, hut, ute⟩ := ix_of (N := 3) hg1 rfl (by decide)
  subst ute
  have tut : tn (nI ut) = ut := tn_nI (by omega)
  try rw [tut]
  refine V_iload_n C dX3_sync_4 rfl ?_
  refine V_xcallg_v C ht (RX_S C (c_X3_needStore hfl) mi_X3_needStore mk_X3_221 rfl (by decide) rfl (Nat.le_of_ble_eq_true rfl) (by decide) dX3_sync_5) (by intro E hE; simp only [GX] at hE ⊢; simp [g3_sync, gS, gP, gE, gQ, gT, gL, gF, GX, gS, hE, hg1]) (by decide) (fun hg5 => ?_)
  have hb5 := gO_n.mp hg5
  obtain ⟨vt, hvt, vte⟩ := ix_of (N := 3) hg5 rfl (by decide)
  subst vte
  have tvt : tn (nI vt) = vt := tn_nI (by omega)
  try rw [tvt]
  refine V_iload_n C dX3_sync_8 rfl ?_
  refine V_iload_n C dX3_sync_9 rfl ?_
  refine V_icmp_ne C 23 dX3_sync_10 (by decide) (fun h10 => ?_) (fun h10 => ?_)
  · refine V_aload_n C dX3_sync_23 rfl ?_
    refine gt_X3_records C fk_X3_10 dX3_sync_24 ?_
    refine V_iload_n C dX3_sync_27 rfl ?_
    refine V_iload_n C dX3_sync_28 rfl ?_
    refine V_callf (R_VN C (c_X1_copyOwned hfl (by omega) (by omega) (fun e => h10 (by rw [e]))) mi_X1_copyOwned mk_X3_243 rfl (by omega) rfl (rfl : vwCl[3]? = some (RX1, TX1, 2)) (by decide) rfl (Nat.le_of_ble_eq_true rfl) (by decide) dX3_sync_29) ?_
    refine V_xret (by omega) (by omega) ?_
    exact V_ireti C hr dX3_sync_32 ⟨by simp [g3_sync, gS, gO, hb1, hb5, h10], rfl, rfl, rfl⟩
  · have h10 : nI ut = nI vt := by simpa using h10
    exact V_throwS (text := "a store is not synced from itself") C ht tw_X3_IllegalArgumentException (by decide +kernel) (by simp [GX, g3_sync, gS, gO, hb1, hb5, h10]) dX3_sync_13 dX3_sync_16 dX3_sync_17 dX3_sync_19 dX3_sync_22 (by decide) (by decide)
set_option maxHeartbeats 4000000 in
set_option maxRecDepth 100000 in
theorem c_X3_owner {l : Launch} {x : Sh} {a b : Mem} {o : Out} (hfl : l.stackTraces = false) (hW : WC a) {f : Int32} : XG l x yX3_owner cX3_owner 2 (some .int) 8 360 1 6 [.ref (x.2.1 0), .int f] a b o (QI x o (GI (gF f) (a 12 (fNat f)) a b)) (GX (gF f)) := by
  refine XG.of (maxL := 2) (ret := (some .int)) hfl (by decide) [some (.ref (x.2.1 0)), some (.int f)] rfl rfl (Nat.le_of_ble_eq_true rfl) ?_
  intro pP eE sS mM argsA belowB methM cC C hr ht
  have ho12 := hW.ol
  have hp10 := hW.pl
  have he6 := hW.el
  refine V_aload_n C dX3_owner_0 rfl ?_
  refine gt_X3_records C fk_X3_10 dX3_owner_1 ?_
  refine gt_X1_owners C fk_X3_246 dX3_owner_4 ?_
  refine V_iload_n C dX3_owner_7 rfl ?_
  refine V_xcallg C ht (RX_S C (c_X3_fieldNumbered hfl) mi_X3_fieldNumbered mk_X3_224 rfl (by decide) rfl (Nat.le_of_ble_eq_true rfl) (by decide) dX3_owner_8) (fun E hE => hE) (by decide) (fun hg8 => ?_)
  have hb8 := gO_n.mp hg8
  have hf3 := fNat_lt f
  refine la_owners C _ rfl (by omega) dX3_owner_11 ?_
  refine V_xret (by omega) (by omega) ?_
  exact V_ireti C hr dX3_owner_12 ⟨hg8, rfl, rfl, rfl⟩
set_option maxHeartbeats 4000000 in
set_option maxRecDepth 100000 in
theorem c_X3_setOwner {l : Launch} {x : Sh} {a b : Mem} {o : Out} (hfl : l.stackTraces = false) (hW : WC a) {f t : Int32} : XG l x yX3_setOwner cX3_setOwner 5 (some .int) 8 360 3 18 [.ref (x.2.1 0), .int f, .int t] a b o (QI x o (GI (g3_setOwner a f t) (a 12 (fNat f)) (up2 a 12 (fNat f) t) b)) (GX (g3_setOwner a f t)) := by
  refine XG.of (maxL := 5) (ret := (some .int)) hfl (by decide) [some (.ref (x.2.1 0)), some (.int f), some (.int t), none, none] rfl rfl (Nat.le_of_ble_eq_true rfl) ?_
  intro pP eE sS mM argsA belowB methM cC C hr ht
  have ho12 := hW.ol
  have hp10 := hW.pl
  have he6 := hW.el
  refine V_iload_n C dX3_setOwner_0 rfl ?_
  refine V_xcallg C ht (RX_S C (c_X3_fieldNumbered hfl) mi_X3_fieldNumbered mk_X3_224 rfl (by decide) rfl (Nat.le_of_ble_eq_true rfl) (by decide) dX3_setOwner_1) (by intro E hE; simp only [GX] at hE ⊢; simp [g3_setOwner, gS, gP, gE, gQ, gT, gL, gF, GX, gS, hE]) (by decide) (fun hg1 => ?_)
  have hb1 := gO_n.mp hg1
  have hf3 := fNat_lt f
  refine V_istore_n3 C dX3_setOwner_4 (by decide) ?_
  refine V_iload_n C dX3_setOwner_5 rfl ?_
  refine V_xcallg_v C ht (RX_S C (c_X3_needStore hfl) mi_X3_needStore mk_X3_221 rfl (by decide) rfl (Nat.le_of_ble_eq_true rfl) (by decide) dX3_setOwner_6) (by intro E hE; simp only [GX] at hE ⊢; simp [g3_setOwner, gS, gP, gE, gQ, gT, gL, gF, GX, gS, hE, hg1]) (by decide) (fun hg6 => ?_)
  have hb6 := gO_n.mp hg6
  obtain ⟨ut, hut, ute⟩ := ix_of (N := 3) hg6 rfl (by decide)
  subst ute
  have tut : tn (nI ut) = ut := tn_nI (by omega)
  try rw [tut]
  refine V_aload_n C dX3_setOwner_9 rfl ?_
  refine gt_X3_records C fk_X3_10 dX3_setOwner_10 ?_
  refine gt_X1_owners C fk_X3_246 dX3_setOwner_13 ?_
  refine V_iload_n C dX3_setOwner_16 rfl ?_
  refine la_owners C _ rfl (by omega) dX3_setOwner_17 ?_
  refine V_topi (hW.owe (by omega)) ?_
  refine V_istore_4 C dX3_setOwner_18 (by decide) ?_
  refine V_aload_n C dX3_setOwner_20 rfl ?_
  refine gt_X3_records C fk_X3_10 dX3_setOwner_21 ?_
  refine V_iload_n C dX3_setOwner_24 rfl ?_
  refine V_iload C dX3_setOwner_25 rfl ?_
  refine V_iload_n C dX3_setOwner_27 rfl ?_
  refine V_callf (R_VN C (c_X1_areSame hfl (by omega) (by have := hW.owl (k := fNat f) (by omega); omega) (by omega)) mi_X1_areSame mk_X3_249 rfl (by omega) rfl (rfl : vwCl[3]? = some (RX1, TX1, 2)) (by decide) rfl (Nat.le_of_ble_eq_true rfl) (by decide) dX3_setOwner_28) ?_
  refine V_ifb_ne C 44 dX3_setOwner_31 (by decide) (fun h31 => ?_) (fun h31 => ?_)
  · refine V_aload_n C dX3_setOwner_44 rfl ?_
    refine gt_X3_records C fk_X3_10 dX3_setOwner_45 ?_
    refine gt_X1_owners C fk_X3_246 dX3_setOwner_48 ?_
    refine V_iload_n C dX3_setOwner_51 rfl ?_
    refine V_iload_n C dX3_setOwner_52 rfl ?_
    refine sa_owners C _ rfl (by omega) dX3_setOwner_53 ?_
    refine V_iload C dX3_setOwner_54 rfl ?_
    refine V_xret (by omega) (by omega) ?_
    exact V_ireti C hr dX3_setOwner_56 ⟨by simp [g3_setOwner, gS, gO, hb1, hb6, tut, h31], (hW.owe (by omega)).symm, rfl, rfl⟩
  · exact V_throwS (text := "the stores are not the same in this field") C ht tw_X3_UnsupportedOperationException (by decide +kernel) (by simp [GX, g3_setOwner, gS, gO, hb1, hb6, tut, h31]) dX3_setOwner_34 dX3_setOwner_37 dX3_setOwner_38 dX3_setOwner_40 dX3_setOwner_43 (by decide) (by decide)
set_option maxHeartbeats 4000000 in
set_option maxRecDepth 100000 in
theorem c_X3_apart {l : Launch} {x : Sh} {a b : Mem} {o : Out} (hfl : l.stackTraces = false) (hW : WC a) {f : Int32} : XG l x yX3_apart cX3_apart 2 (some .int) 8 360 1 6 [.ref (x.2.1 0), .int f] a b o (QI x o (GI (gF f) (nI (cntN (fun c => !agB a (fNat f) c) 60)) a b)) (GX (gF f)) := by
  refine XG.of (maxL := 2) (ret := (some .int)) hfl (by decide) [some (.ref (x.2.1 0)), some (.int f)] rfl rfl (Nat.le_of_ble_eq_true rfl) ?_
  intro pP eE sS mM argsA belowB methM cC C hr ht
  have ho12 := hW.ol
  have hp10 := hW.pl
  have he6 := hW.el
  refine V_aload_n C dX3_apart_0 rfl ?_
  refine gt_X3_records C fk_X3_10 dX3_apart_1 ?_
  refine V_iload_n C dX3_apart_4 rfl ?_
  refine V_xcallg C ht (RX_S C (c_X3_fieldNumbered hfl) mi_X3_fieldNumbered mk_X3_224 rfl (by decide) rfl (Nat.le_of_ble_eq_true rfl) (by decide) dX3_apart_5) (fun E hE => hE) (by decide) (fun hg5 => ?_)
  have hb5 := gO_n.mp hg5
  have hf3 := fNat_lt f
  refine V_callf (R_VN C (c_X1_countApart hfl (by omega)) mi_X1_countApart mk_X3_255 rfl (by omega) rfl (rfl : vwCl[3]? = some (RX1, TX1, 2)) (by decide) rfl (Nat.le_of_ble_eq_true rfl) (by decide) dX3_apart_8) ?_
  refine V_xret (by omega) (by omega) ?_
  exact V_ireti C hr dX3_apart_11 ⟨hg5, rfl, rfl, rfl⟩
set_option maxHeartbeats 4000000 in
set_option maxRecDepth 100000 in
theorem c_X3_maySit {l : Launch} {x : Sh} {a b : Mem} {o : Out} (hfl : l.stackTraces = false) (hW : WC a) {p e : Int32} : XG l x yX3_maySit cX3_maySit 3 (some .boolean) 8 360 2 12 [.ref (x.2.1 0), .int p, .int e] a b o (QI x o (GI (g3_maySit a p e) (bI (rgB a (tn p) (tn e))) a b)) (GX (g3_maySit a p e)) := by
  refine XG.of (maxL := 3) (ret := (some .boolean)) hfl (by decide) [some (.ref (x.2.1 0)), some (.int p), some (.int e)] rfl rfl (Nat.le_of_ble_eq_true rfl) ?_
  intro pP eE sS mM argsA belowB methM cC C hr ht
  have ho12 := hW.ol
  have hp10 := hW.pl
  have he6 := hW.el
  refine V_aload_n C dX3_maySit_0 rfl ?_
  refine V_iload_n C dX3_maySit_1 rfl ?_
  refine V_xcallg_v C ht (RX_V C (c_X3_needPupil hfl) mi_X3_needPupil mk_X3_107 rfl (by omega) rfl (rfl : vwCl[5]? = some (RX3, TX3, 13)) (by decide) rfl (Nat.le_of_ble_eq_true rfl) (by decide) dX3_maySit_2) (by intro E hE; simp only [GX] at hE ⊢; simp [g3_maySit, gS, gP, gE, gQ, gT, gL, gF, GX, gS, hE]) (by decide) (fun hg2 => ?_)
  have hb2 := gO_n.mp hg2
  obtain ⟨jp, hjp, jpe⟩ := ix_of hg2 hW.pe (by omega)
  subst jpe
  have tjp : tn (nI jp) = jp := tn_nI (by omega)
  try rw [tjp]
  refine V_aload_n C dX3_maySit_5 rfl ?_
  refine V_iload_n C dX3_maySit_6 rfl ?_
  refine V_xcallg_v C ht (RX_V C (c_X3_needExam hfl) mi_X3_needExam mk_X3_70 rfl (by omega) rfl (rfl : vwCl[5]? = some (RX3, TX3, 13)) (by decide) rfl (Nat.le_of_ble_eq_true rfl) (by decide) dX3_maySit_7) (by intro E hE; simp only [GX] at hE ⊢; simp [g3_maySit, gS, gP, gE, gQ, gT, gL, gF, GX, gS, hE, hg2]) (by decide) (fun hg7 => ?_)
  have hb7 := gO_n.mp hg7
  obtain ⟨ke, hke, kee⟩ := ix_of hg7 hW.ee (by omega)
  subst kee
  have tke : tn (nI ke) = ke := tn_nI (by omega)
  try rw [tke]
  refine V_aload_n C dX3_maySit_10 rfl ?_
  refine gt_X3_records C fk_X3_10 dX3_maySit_11 ?_
  refine V_iload_n C dX3_maySit_14 rfl ?_
  refine V_iload_n C dX3_maySit_15 rfl ?_
  refine V_callf (R_VN C (c_X1_isRightGiven hfl (hW.owe (by decide)) (by have := hW.owl (k := 0) (by decide); omega) (by omega) (by omega)) mi_X1_isRightGiven mk_X3_258 rfl (by omega) rfl (rfl : vwCl[3]? = some (RX1, TX1, 2)) (by decide) rfl (Nat.le_of_ble_eq_true rfl) (by decide) dX3_maySit_16) ?_
  refine V_xret (by omega) (by omega) ?_
  exact V_iretz C hr (by first | exact Or.inl rfl | exact Or.inr rfl | exact bI_or _) dX3_maySit_19 ⟨by simp [g3_maySit, gS, gO, hb2, hb7, tjp], rfl, rfl, rfl⟩
set_option maxHeartbeats 4000000 in
set_option maxRecDepth 100000 in
theorem c_X3_isOpen {l : Launch} {x : Sh} {a b : Mem} {o : Out} (hfl : l.stackTraces = false) (hW : WC a) {p e : Int32} : XG l x yX3_isOpen cX3_isOpen 3 (some .boolean) 8 360 2 12 [.ref (x.2.1 0), .int p, .int e] a b o (QI x o (GI (g3_maySit a p e) (bI (roB a (tn p) (tn e))) a b)) (GX (g3_maySit a p e)) := by
  refine XG.of (maxL := 3) (ret := (some .boolean)) hfl (by decide) [some (.ref (x.2.1 0)), some (.int p), some (.int e)] rfl rfl (Nat.le_of_ble_eq_true rfl) ?_
  intro pP eE sS mM argsA belowB methM cC C hr ht
  have ho12 := hW.ol
  have hp10 := hW.pl
  have he6 := hW.el
  refine V_aload_n C dX3_isOpen_0 rfl ?_
  refine V_iload_n C dX3_isOpen_1 rfl ?_
  refine V_xcallg_v C ht (RX_V C (c_X3_needPupil hfl) mi_X3_needPupil mk_X3_107 rfl (by omega) rfl (rfl : vwCl[5]? = some (RX3, TX3, 13)) (by decide) rfl (Nat.le_of_ble_eq_true rfl) (by decide) dX3_isOpen_2) (by intro E hE; simp only [GX] at hE ⊢; simp [g3_maySit, gS, gP, gE, gQ, gT, gL, gF, GX, gS, hE]) (by decide) (fun hg2 => ?_)
  have hb2 := gO_n.mp hg2
  obtain ⟨jp, hjp, jpe⟩ := ix_of hg2 hW.pe (by omega)
  subst jpe
  have tjp : tn (nI jp) = jp := tn_nI (by omega)
  try rw [tjp]
  refine V_aload_n C dX3_isOpen_5 rfl ?_
  refine V_iload_n C dX3_isOpen_6 rfl ?_
  refine V_xcallg_v C ht (RX_V C (c_X3_needExam hfl) mi_X3_needExam mk_X3_70 rfl (by omega) rfl (rfl : vwCl[5]? = some (RX3, TX3, 13)) (by decide) rfl (Nat.le_of_ble_eq_true rfl) (by decide) dX3_isOpen_7) (by intro E hE; simp only [GX] at hE ⊢; simp [g3_maySit, gS, gP, gE, gQ, gT, gL, gF, GX, gS, hE, hg2]) (by decide) (fun hg7 => ?_)
  have hb7 := gO_n.mp hg7
  obtain ⟨ke, hke, kee⟩ := ix_of hg7 hW.ee (by omega)
  subst kee
  have tke : tn (nI ke) = ke := tn_nI (by omega)
  try rw [tke]
  refine V_aload_n C dX3_isOpen_10 rfl ?_
  refine gt_X3_records C fk_X3_10 dX3_isOpen_11 ?_
  refine V_iload_n C dX3_isOpen_14 rfl ?_
  refine V_iload_n C dX3_isOpen_15 rfl ?_
  refine V_callf (R_VN C (c_X1_isResitOpen hfl (hW.owe (by decide)) (by have := hW.owl (k := 1) (by decide); omega) (by omega) (by omega)) mi_X1_isResitOpen mk_X3_261 rfl (by omega) rfl (rfl : vwCl[3]? = some (RX1, TX1, 2)) (by decide) rfl (Nat.le_of_ble_eq_true rfl) (by decide) dX3_isOpen_16) ?_
  refine V_xret (by omega) (by omega) ?_
  exact V_iretz C hr (by first | exact Or.inl rfl | exact Or.inr rfl | exact bI_or _) dX3_isOpen_19 ⟨by simp [g3_maySit, gS, gO, hb2, hb7, tjp], rfl, rfl, rfl⟩
set_option maxHeartbeats 4000000 in
set_option maxRecDepth 100000 in
theorem c_X3_hasSat {l : Launch} {x : Sh} {a b : Mem} {o : Out} (hfl : l.stackTraces = false) (hW : WC a) {p ex z : Int32} : XG l x yX3_hasSat cX3_hasSat 5 (some .boolean) 8 360 2 12 [.ref (x.2.1 0), .int p, .int ex, .int z] a b o (QI x o (GI (g3_maySit a p ex) (bI (hsB a p ex z)) a b)) (GX (g3_maySit a p ex)) := by
  refine XG.of (maxL := 5) (ret := (some .boolean)) hfl (by decide) [some (.ref (x.2.1 0)), some (.int p), some (.int ex), some (.int z), none] rfl rfl (Nat.le_of_ble_eq_true rfl) ?_
  intro pP eE sS mM argsA belowB methM cC C hr ht
  have ho12 := hW.ol
  have hp10 := hW.pl
  have he6 := hW.el
  refine V_aload_n C dX3_hasSat_0 rfl ?_
  refine V_iload_n C dX3_hasSat_1 rfl ?_
  refine V_xcallg_v C ht (RX_V C (c_X3_needPupil hfl) mi_X3_needPupil mk_X3_107 rfl (by omega) rfl (rfl : vwCl[5]? = some (RX3, TX3, 13)) (by decide) rfl (Nat.le_of_ble_eq_true rfl) (by decide) dX3_hasSat_2) (by intro E hE; simp only [GX] at hE ⊢; simp [g3_maySit, gS, gP, gE, gQ, gT, gL, gF, GX, gS, hE]) (by decide) (fun hg2 => ?_)
  have hb2 := gO_n.mp hg2
  obtain ⟨jp, hjp, jpe⟩ := ix_of hg2 hW.pe (by omega)
  subst jpe
  have tjp : tn (nI jp) = jp := tn_nI (by omega)
  try rw [tjp]
  refine V_aload_n C dX3_hasSat_5 rfl ?_
  refine V_iload_n C dX3_hasSat_6 rfl ?_
  refine V_xcallg_v C ht (RX_V C (c_X3_needExam hfl) mi_X3_needExam mk_X3_70 rfl (by omega) rfl (rfl : vwCl[5]? = some (RX3, TX3, 13)) (by decide) rfl (Nat.le_of_ble_eq_true rfl) (by decide) dX3_hasSat_7) (by intro E hE; simp only [GX] at hE ⊢; simp [g3_maySit, gS, gP, gE, gQ, gT, gL, gF, GX, gS, hE, hg2]) (by decide) (fun hg7 => ?_)
  have hb7 := gO_n.mp hg7
  refine V_aload_n C dX3_hasSat_10 rfl ?_
  refine V_iload_n C dX3_hasSat_11 rfl ?_
  refine V_iload_n C dX3_hasSat_12 rfl ?_
  refine V_iload_n C dX3_hasSat_13 rfl ?_
  refine V_callf (R_V C (c_X3_offerHeldFor hfl hW (by omega)) mi_X3_offerHeldFor mk_X3_160 rfl (by omega) rfl (rfl : vwCl[5]? = some (RX3, TX3, 13)) (by decide) rfl (Nat.le_of_ble_eq_true rfl) (by decide) dX3_hasSat_14) ?_
  refine V_istore_4 C dX3_hasSat_17 (by decide) ?_
  refine V_iload C dX3_hasSat_19 rfl ?_
  refine V_iconst (v := -1) C dX3_hasSat_21 (by decide) ?_
  refine V_icmp_eq C 43 dX3_hasSat_22 (by decide) (fun h22 => ?_) (fun h22 => ?_)
  · have q7 : anyN (hfB a jp ex z) (nO a) = false := (fI_any (n := nO a) (by omega)).mp h22
    refine V_iconst (v := 0) C dX3_hasSat_43 (by decide) ?_
    refine V_xret (by omega) (by omega) ?_
    exact V_iretz C hr (by first | exact Or.inl rfl | exact Or.inr rfl | exact bI_or _) dX3_hasSat_44 ⟨by simp [g3_maySit, gS, gO, hb2, hb7, tjp], by first | (simp [hsB, tjp, q7, bI, h36]; done) | (simp [hsB, tjp, q7, bI]; done), rfl, rfl⟩
  · have q7 : anyN (hfB a jp ex z) (nO a) = true := by
      cases hx : anyN (hfB a jp ex z) (nO a) with
      | true => rfl
      | false => exact absurd ((fI_any (n := nO a) (by omega)).mpr hx) h22
    have q8 : firN (hfB a jp ex z) (nO a) < nO a := firN_any.mpr q7
    have e8 : fI (hfB a jp ex z) (nO a) = nI (firN (hfB a jp ex z) (nO a)) := by rw [fI, if_pos q8]
    refine V_aload_n C dX3_hasSat_25 rfl ?_
    refine V_aload_n C dX3_hasSat_26 rfl ?_
    refine gt_X3_offers C fk_X3_25 dX3_hasSat_27 ?_
    refine V_iload C dX3_hasSat_30 rfl ?_
    refine la_offers C _ e8 (by omega) dX3_hasSat_32 ?_
    refine V_callf (R_V C (c_X3_isClosed hfl hW (by omega)) mi_X3_isClosed mk_X3_120 rfl (by omega) rfl (rfl : vwCl[5]? = some (RX3, TX3, 13)) (by decide) rfl (Nat.le_of_ble_eq_true rfl) (by decide) dX3_hasSat_33) ?_
    refine V_ifb_eq C 43 dX3_hasSat_36 (by decide) (fun h36 => ?_) (fun h36 => ?_)
    · refine V_iconst (v := 0) C dX3_hasSat_43 (by decide) ?_
      refine V_xret (by omega) (by omega) ?_
      exact V_iretz C hr (by first | exact Or.inl rfl | exact Or.inr rfl | exact bI_or _) dX3_hasSat_44 ⟨by simp [g3_maySit, gS, gO, hb2, hb7, tjp], by first | (simp [hsB, tjp, q7, bI, h36]; done) | (simp [hsB, tjp, q7, bI]; done), rfl, rfl⟩
    · refine V_iconst (v := 1) C dX3_hasSat_39 (by decide) ?_
      refine V_goto C 44 dX3_hasSat_40 (by decide) ?_
      refine V_xret (by omega) (by omega) ?_
      exact V_iretz C hr (by first | exact Or.inl rfl | exact Or.inr rfl | exact bI_or _) dX3_hasSat_44 ⟨by simp [g3_maySit, gS, gO, hb2, hb7, tjp], by first | (simp [hsB, tjp, q7, bI, h36]; done) | (simp [hsB, tjp, q7, bI]; done), rfl, rfl⟩
set_option maxHeartbeats 4000000 in
set_option maxRecDepth 100000 in
theorem c_X3_more {l : Launch} {x : Sh} {a b : Mem} {o : Out} (hfl : l.stackTraces = false) (hW : WC a) {p s : Int32} : XG l x yX3_more cX3_more 3 (some .int) 8 360 3 18 [.ref (x.2.1 0), .int p, .int s] a b o (QI x o (GI (g3_at a p s) (a (3 + (ow a 2 * 3 + 2)) (tn p * 6 + exN a (firN (haB a (tn p) s) (nO a)))) a b)) (GX (g3_at a p s)) := by
  refine XG.of (maxL := 3) (ret := (some .int)) hfl (by decide) [some (.ref (x.2.1 0)), some (.int p), some (.int s)] rfl rfl (Nat.le_of_ble_eq_true rfl) ?_
  intro pP eE sS mM argsA belowB methM cC C hr ht
  have ho12 := hW.ol
  have hp10 := hW.pl
  have he6 := hW.el
  refine V_aload_n C dX3_more_0 rfl ?_
  refine V_iload_n C dX3_more_1 rfl ?_
  refine V_xcallg_v C ht (RX_V C (c_X3_needPupil hfl) mi_X3_needPupil mk_X3_107 rfl (by omega) rfl (rfl : vwCl[5]? = some (RX3, TX3, 13)) (by decide) rfl (Nat.le_of_ble_eq_true rfl) (by decide) dX3_more_2) (by intro E hE; simp only [GX] at hE ⊢; simp [g3_at, gS, gP, gE, gQ, gT, gL, gF, GX, gS, hE]) (by decide) (fun hg2 => ?_)
  have hb2 := gO_n.mp hg2
  obtain ⟨jp, hjp, jpe⟩ := ix_of hg2 hW.pe (by omega)
  subst jpe
  have tjp : tn (nI jp) = jp := tn_nI (by omega)
  try rw [tjp]
  refine V_iload_n C dX3_more_5 rfl ?_
  refine V_xcallg_v C ht (RX_S C (c_X3_needSlot hfl) mi_X3_needSlot mk_X3_79 rfl (by decide) rfl (Nat.le_of_ble_eq_true rfl) (by decide) dX3_more_6) (by intro E hE; simp only [GX] at hE ⊢; simp [g3_at, gS, gP, gE, gQ, gT, gL, gF, GX, gS, hE, hg2]) (by decide) (fun hg6 => ?_)
  have hb6 := gO_n.mp hg6
  refine V_aload_n C dX3_more_9 rfl ?_
  refine gt_X3_records C fk_X3_10 dX3_more_10 ?_
  refine V_iconst (v := nI 2) C dX3_more_13 (by decide) ?_
  refine V_iload_n C dX3_more_14 rfl ?_
  refine V_aload_n C dX3_more_15 rfl ?_
  refine V_iload_n C dX3_more_16 rfl ?_
  refine V_iload_n C dX3_more_17 rfl ?_
  refine V_xcallg C ht (RX_V C (c_X3_examHeldAt hfl hW (by omega)) mi_X3_examHeldAt mk_X3_166 rfl (by omega) rfl (rfl : vwCl[5]? = some (RX3, TX3, 13)) (by decide) rfl (Nat.le_of_ble_eq_true rfl) (by decide) dX3_more_18) (by intro E hE; simp only [GX] at hE ⊢; simp [g3_at, gS, tjp, hg2, hg6, hE]) (by decide) (fun hg18 => ?_)
  have hb18 := gO_n.mp hg18
  have q8 : firN (haB a jp s) (nO a) < nO a := firN_any.mpr hb18
  have hex5 := hW.exl (i := firN (haB a jp s) (nO a)) (by omega)
  refine V_topi (hW.exe (by omega)) ?_
  refine V_callf (R_VN C (c_X1_valueByOwner hfl (by decide) (hW.owe (by decide)) (by have := hW.owl (k := 2) (by decide); omega) (by omega) (by omega)) mi_X1_valueByOwner mk_X3_269 rfl (by omega) rfl (rfl : vwCl[3]? = some (RX1, TX1, 2)) (by decide) rfl (Nat.le_of_ble_eq_true rfl) (by decide) dX3_more_21) ?_
  refine V_xret (by omega) (by omega) ?_
  exact V_ireti C hr dX3_more_24 ⟨by simp [g3_at, gS, gO, hb2, hb6, hb18, tjp], rfl, rfl, rfl⟩
set_option maxHeartbeats 4000000 in
set_option maxRecDepth 100000 in
theorem c_X3_sit {l : Launch} {x : Sh} {a b : Mem} {o : Out} (hfl : l.stackTraces = false) (hW : WC a) {s : Int32} : XG l x yX3_sit cX3_sit 4 (some .int) 8 360 2 12 [.ref (x.2.1 0), .int s] a b o (QI x o (GI (g3_sit a s) (nI (siC a s (nO a))) (up2 (siK a s (nO a)) 69 (tn s) 1) b)) (GX (g3_sit a s)) := by
  refine XG.of (maxL := 4) (ret := (some .int)) hfl (by decide) [some (.ref (x.2.1 0)), some (.int s), none, none] rfl rfl (Nat.le_of_ble_eq_true rfl) ?_
  intro pP eE sS mM argsA belowB methM cC C hr ht
  have ho12 := hW.ol
  have hp10 := hW.pl
  have he6 := hW.el
  refine V_iload_n C dX3_sit_0 rfl ?_
  refine V_xcallg_v C ht (RX_S C (c_X3_needSlot hfl) mi_X3_needSlot mk_X3_79 rfl (by decide) rfl (Nat.le_of_ble_eq_true rfl) (by decide) dX3_sit_1) (by intro E hE; simp only [GX] at hE ⊢; simp [g3_sit, gS, gP, gE, gQ, gT, gL, gF, GX, gS, hE]) (by decide) (fun hg1 => ?_)
  have hb1 := gO_n.mp hg1
  obtain ⟨sy, hsy, sye⟩ := ix_of (N := 6) hg1 rfl (by decide)
  subst sye
  have tsy : tn (nI sy) = sy := tn_nI (by omega)
  try rw [tsy]
  refine V_aload_n C dX3_sit_4 rfl ?_
  refine gt_X3_slotWasSat C fk_X3_40 dX3_sit_5 ?_
  refine V_iload_n C dX3_sit_8 rfl ?_
  refine la_wasSat C _ rfl (by omega) dX3_sit_9 ?_
  refine V_if_eq C 24 dX3_sit_10 (by decide) (fun h10 => ?_) (fun h10 => ?_)
  · have q10 : a 69 sy = 0 := h10
    refine V_iconst (v := 0) C dX3_sit_24 (by decide) ?_
    refine V_istore_n2 C dX3_sit_25 (by decide) ?_
    refine V_iconst (v := 0) C dX3_sit_26 (by decide) ?_
    refine V_istore_n3 C dX3_sit_27 (by decide) ?_
    have L28 : ∀ (fuel : Nat) (k : Nat), k ≤ nO a → nO a - k < fuel → VV pP l eE ({ frames := 8, cells := 2, slots := 12, locals := 360 } : Room) sS mM argsA belowB methM cC (vx_MQ belowB (QI x o (GI (g3_sit a (nI sy)) (nI (siC a (nI sy) (nO a))) (up2 (siK a (nI sy) (nO a)) 69 (sy) 1) b) sS.heap.size) (XCd (GX (g3_sit a (nI sy))) x a b o sS.heap.size) argsA sS 2 12 (AW x sS.heap.size)) x 4 (siK a (nI sy) k) b o 1 6 28 [some (.ref (x.2.1 0)), some (.int (nI sy)), some (.int (nI (siC a (nI sy) k))), some (.int (nI k))] [] := by
      intro fuel
      induction fuel with
      | zero => intro k hk hm; exact absurd hm (Nat.not_lt_zero _)
      | succ fuel ih28 =>
        intro k hk hm
        refine V_iload_n C dX3_sit_28 rfl ?_
        refine V_aload_n C dX3_sit_29 rfl ?_
        refine gt_X3_offerCount C fk_X3_91 dX3_sit_30 ?_
        refine V_topi ((siK_s k (by omega) (by omega) (by omega)).trans hW.oe) ?_
        refine V_lt C 68 dX3_sit_33 (by decide) (by omega) (by omega) (fun h33 => ?_) (fun h33 => ?_)
        · have e9 : k = nO a := by omega
          subst e9
          refine V_aload_n C dX3_sit_68 rfl ?_
          refine gt_X3_slotWasSat C fk_X3_40 dX3_sit_69 ?_
          refine V_iload_n C dX3_sit_72 rfl ?_
          refine V_iconst (v := 1) C dX3_sit_73 (by decide) ?_
          refine sa_wasSat C _ rfl (by omega) (by first | exact Or.inl rfl | exact Or.inr rfl | exact bI_or _ | assumption) dX3_sit_74 ?_
          refine V_iload_n C dX3_sit_75 rfl ?_
          refine V_xret (by omega) (by omega) ?_
          exact V_ireti C hr dX3_sit_76 ⟨by simp [g3_sit, gS, gO, hb1, tsy, h10], rfl, rfl, rfl⟩
        · refine V_aload_n C dX3_sit_36 rfl ?_
          refine gt_X3_offers C fk_X3_25 dX3_sit_37 ?_
          refine V_iload_n C dX3_sit_40 rfl ?_
          refine la_offers C _ rfl (by omega) dX3_sit_41 ?_
          refine gt_X0_slot C (by omega) fk_X3_104 dX3_sit_42 ?_
          refine V_topi (siK_s k (by omega) (by omega) (by omega)) ?_
          refine V_iload_n C dX3_sit_45 rfl ?_
          refine V_icmp_ne C 62 dX3_sit_46 (by decide) (fun h46 => ?_) (fun h46 => ?_)
          · refine V_iinc_3 C _ dX3_sit_62 (nI_1 _) (by decide) ?_
            refine V_goto C 28 dX3_sit_65 (by decide) ?_
            have ih := ih28 (k + 1) (by omega) (by omega)
            simp only [siK, siC] at ih
            first
              | (rw [if_pos (by simpa using h46), if_pos (by simpa using h46)] at ih; exact ih)
              | (rw [if_neg h46, if_neg h46] at ih; exact ih)
          · refine V_iload_n C dX3_sit_49 rfl ?_
            refine V_aload_n C dX3_sit_50 rfl ?_
            refine V_aload_n C dX3_sit_51 rfl ?_
            refine gt_X3_offers C fk_X3_25 dX3_sit_52 ?_
            refine V_iload_n C dX3_sit_55 rfl ?_
            refine la_offers C _ rfl (by omega) dX3_sit_56 ?_
            refine V_callf (R_V C (c_X3_letSit hfl (hW.si k (by omega)) (by omega)) mi_X3_letSit mk_X3_266 rfl (by omega) rfl (rfl : vwCl[5]? = some (RX3, TX3, 13)) (by decide) rfl (Nat.le_of_ble_eq_true rfl) (by decide) dX3_sit_57) ?_
            refine V_iadd C dX3_sit_60 ?_
            refine V_topi (nI_add _ _) ?_
            refine V_istore_n2 C dX3_sit_61 (by decide) ?_
            refine V_iinc_3 C _ dX3_sit_62 (nI_1 _) (by decide) ?_
            refine V_goto C 28 dX3_sit_65 (by decide) ?_
            have ih := ih28 (k + 1) (by omega) (by omega)
            simp only [siK, siC] at ih
            first
              | (rw [if_pos (by simpa using h46), if_pos (by simpa using h46)] at ih; exact ih)
              | (rw [if_neg h46, if_neg h46] at ih; exact ih)
    exact L28 _ 0 (Nat.zero_le _) (Nat.lt_succ_self _)
  · exact V_throwSW (text := "the slot was sat") C ht tw_X3_UnsupportedOperationException (by decide +kernel) (by simp [GX, g3_sit, gS, gO, hb1, tsy, h10]) dX3_sit_13 dX3_sit_16 dX3_sit_17 dX3_sit_20 dX3_sit_23 (by decide) (by decide)
set_option maxHeartbeats 4000000 in
set_option maxRecDepth 100000 in
theorem c_X3_move {l : Launch} {x : Sh} {a b : Mem} {o : Out} (hfl : l.stackTraces = false) (hW : WC a) {q s : Int32} : XG l x yX3_move cX3_move 6 (some .int) 9 400 3 18 [.ref (x.2.1 0), .int q, .int s] a b o (QI x o (GI (g3_move a q s) (nI (mvC a (tn q) s (nP a))) (a3_move a (tn q) s) b)) (GX (g3_move a q s)) := by
  refine XG.of (maxL := 6) (ret := (some .int)) hfl (by decide) [some (.ref (x.2.1 0)), some (.int q), some (.int s), none, none, none] rfl rfl (Nat.le_of_ble_eq_true rfl) ?_
  intro pP eE sS mM argsA belowB methM cC C hr ht
  have ho12 := hW.ol
  have hp10 := hW.pl
  have he6 := hW.el
  refine V_aload_n C dX3_move_0 rfl ?_
  refine V_iload_n C dX3_move_1 rfl ?_
  refine V_xcallg_r C ht (RX_V C (c_X3_offerNumbered hfl hW) mi_X3_offerNumbered mk_X3_100 rfl (by omega) rfl (rfl : vwCl[5]? = some (RX3, TX3, 13)) (by decide) rfl (Nat.le_of_ble_eq_true rfl) (by decide) dX3_move_2) (by intro E hE; simp only [GX] at hE ⊢; simp [g3_move, gS, gP, gE, gQ, gT, gL, gF, GX, gS, hE]) (by decide) (fun hg2 => ?_)
  have hb2 := gO_n.mp hg2
  obtain ⟨iq, hiq, iqe⟩ := ix_of hg2 hW.oe (by omega)
  subst iqe
  have tiq : tn (nI iq) = iq := tn_nI (by omega)
  try rw [tiq]
  refine V_astore_n3 C dX3_move_5 (by decide) ?_
  refine V_iload_n C dX3_move_6 rfl ?_
  refine V_xcallg_v C ht (RX_S C (c_X3_needSlot hfl) mi_X3_needSlot mk_X3_79 rfl (by decide) rfl (Nat.le_of_ble_eq_true rfl) (by decide) dX3_move_7) (by intro E hE; simp only [GX] at hE ⊢; simp [g3_move, gS, gP, gE, gQ, gT, gL, gF, GX, gS, hE, hg2]) (by decide) (fun hg7 => ?_)
  have hb7 := gO_n.mp hg7
  obtain ⟨sy, hsy, sye⟩ := ix_of (N := 6) hg7 rfl (by decide)
  subst sye
  have tsy : tn (nI sy) = sy := tn_nI (by omega)
  try rw [tsy]
  refine V_aload_n C dX3_move_10 rfl ?_
  refine V_aload_n C dX3_move_11 rfl ?_
  refine V_callf (R_V C (c_X3_isClosed hfl hW (by omega)) mi_X3_isClosed mk_X3_120 rfl (by omega) rfl (rfl : vwCl[5]? = some (RX3, TX3, 13)) (by decide) rfl (Nat.le_of_ble_eq_true rfl) (by decide) dX3_move_12) ?_
  refine V_ifb_ne C 39 dX3_move_15 (by decide) (fun h15 => ?_) (fun h15 => ?_)
  · exact V_throwS (text := "offer closed, or slot sat or taken") C ht tw_X3_UnsupportedOperationException (by decide +kernel) (by first | (simp [GX, g3_move, gS, gO, hb2, hb7, tiq, tsy, h15]; done) | (simp [GX, g3_move, gS, gO, hb2, hb7, tiq, tsy, h15, h24]; done) | (simp [GX, g3_move, gS, gO, hb2, hb7, tiq, tsy, h15, h24, h36]; done)) dX3_move_39 dX3_move_42 dX3_move_43 dX3_move_45 dX3_move_48 (by decide) (by decide)
  · refine V_aload_n C dX3_move_18 rfl ?_
    refine gt_X3_slotWasSat C fk_X3_40 dX3_move_19 ?_
    refine V_iload_n C dX3_move_22 rfl ?_
    refine la_wasSat C _ rfl (by omega) dX3_move_23 ?_
    refine V_if_ne C 39 dX3_move_24 (by decide) (fun h24 => ?_) (fun h24 => ?_)
    · exact V_throwS (text := "offer closed, or slot sat or taken") C ht tw_X3_UnsupportedOperationException (by decide +kernel) (by first | (simp [GX, g3_move, gS, gO, hb2, hb7, tiq, tsy, h15]; done) | (simp [GX, g3_move, gS, gO, hb2, hb7, tiq, tsy, h15, h24]; done) | (simp [GX, g3_move, gS, gO, hb2, hb7, tiq, tsy, h15, h24, h36]; done)) dX3_move_39 dX3_move_42 dX3_move_43 dX3_move_45 dX3_move_48 (by decide) (by decide)
    · have h24 : a 69 sy = 0 := by simpa using h24
      refine V_aload_n C dX3_move_27 rfl ?_
      refine V_aload_n C dX3_move_28 rfl ?_
      refine gt_X0_room C (by omega) fk_X3_207 dX3_move_29 ?_
      refine V_iload_n C dX3_move_32 rfl ?_
      refine V_callf (R_V C (c_X3_isRoomTaken hfl hW) mi_X3_isRoomTaken mk_X3_82 rfl (by omega) rfl (rfl : vwCl[5]? = some (RX3, TX3, 13)) (by decide) rfl (Nat.le_of_ble_eq_true rfl) (by decide) dX3_move_33) ?_
      refine V_ifb_eq C 49 dX3_move_36 (by decide) (fun h36 => ?_) (fun h36 => ?_)
      · refine V_iconst (v := 0) C dX3_move_49 (by decide) ?_
        refine V_istore_4 C dX3_move_50 (by decide) ?_
        refine V_iconst (v := 0) C dX3_move_52 (by decide) ?_
        refine V_istore_5 C dX3_move_53 (by decide) ?_
        have L55 : ∀ (fuel : Nat) (k : Nat), k ≤ nP a → nP a - k < fuel → VV pP l eE ({ frames := 9, cells := 3, slots := 18, locals := 400 } : Room) sS mM argsA belowB methM cC (vx_MQ belowB (QI x o (GI (g3_move a (nI iq) (nI sy)) (nI (mvC a (iq) (nI sy) (nP a))) (a3_move a (iq) (nI sy)) b) sS.heap.size) (XCd (GX (g3_move a (nI iq) (nI sy))) x a b o sS.heap.size) argsA sS 3 18 (AW x sS.heap.size)) x 6 (mvK a iq (nI sy) k) b o 2 12 55 [some (.ref (x.2.1 0)), some (.int (nI iq)), some (.int (nI sy)), some (.ref (x.2.1 (18 + 4 * iq))), some (.int (nI (mvC a iq (nI sy) k))), some (.int (nI k))] [] := by
          intro fuel
          induction fuel with
          | zero => intro k hk hm; exact absurd hm (Nat.not_lt_zero _)
          | succ fuel ih55 =>
            intro k hk hm
            refine V_iload C dX3_move_55 rfl ?_
            refine V_aload_n C dX3_move_57 rfl ?_
            refine gt_X3_pupilCount C fk_X3_65 dX3_move_58 ?_
            refine V_topi ((mvK_s k (by omega) (by omega) (by omega)).trans hW.pe) ?_
            refine V_lt C 93 dX3_move_61 (by decide) (by omega) (by omega) (fun h61 => ?_) (fun h61 => ?_)
            · have e9 : k = nP a := by omega
              subst e9
              refine V_aload_n C dX3_move_93 rfl ?_
              refine V_iload_n C dX3_move_94 rfl ?_
              refine pt_X0_slot C (by omega) fk_X3_104 dX3_move_95 ?_
              refine V_iconst (v := 0) C dX3_move_98 (by decide) ?_
              refine V_istore_5 C dX3_move_99 (by decide) ?_
              have hWv := mvA_w hW (i := iq) (n := sy) (by omega) (by omega)
              have hs6 := hWv.stl (i := iq) (by omega)
              have L101 : ∀ (fuel : Nat) (j : Nat) (Z : Mem), j ≤ stN (mvA a iq (nI sy)) iq → WC Z → Z (18 + 4 * iq) 3 = mvA a iq (nI sy) (18 + 4 * iq) 3 → maR iq (stN (mvA a iq (nI sy)) iq - j) Z = a3_move a iq (nI sy) → stN (mvA a iq (nI sy)) iq - j < fuel → VV pP l eE ({ frames := 9, cells := 3, slots := 18, locals := 400 } : Room) sS mM argsA belowB methM cC (vx_MQ belowB (QI x o (GI (g3_move a (nI iq) (nI sy)) (nI (mvC a (iq) (nI sy) (nP a))) (a3_move a (iq) (nI sy)) b) sS.heap.size) (XCd (GX (g3_move a (nI iq) (nI sy))) x a b o sS.heap.size) argsA sS 3 18 (AW x sS.heap.size)) x 6 Z b o 2 12 101 [some (.ref (x.2.1 0)), some (.int (nI iq)), some (.int (nI sy)), some (.ref (x.2.1 (18 + 4 * iq))), some (.int (nI (mvC a iq (nI sy) (nP a)))), some (.int (nI j))] [] := by
                intro fuel
                induction fuel with
                | zero => intro j Z hj hWj hj3 hm9 hm; exact absurd hm (Nat.not_lt_zero _)
                | succ fuel ih101 =>
                  intro j Z hj hWj hj3 hm9 hm
                  refine V_iload C dX3_move_101 rfl ?_
                  refine V_aload_n C dX3_move_103 rfl ?_
                  refine gt_X0_seats C (by omega) fk_X3_215 dX3_move_104 ?_
                  refine V_topi ((show Z (18 + 4 * iq) 3 = _ from hj3).trans (hWv.ste (by omega))) ?_
                  refine V_lt C 125 dX3_move_107 (by decide) (by omega) (by omega) (fun h107 => ?_) (fun h107 => ?_)
                  · refine V_iload C dX3_move_125 rfl ?_
                    refine V_xret (by omega) (by omega) ?_
                    exact V_ireti C hr dX3_move_127 ⟨by simp [g3_move, gS, gO, hb2, hb7, tiq, tsy, h15, h24, h36], rfl, by rw [← hm9, show stN (mvA a iq (nI sy)) iq - j = 0 by omega]; rfl, rfl⟩
                  · have e9 : stN (mvA a iq (nI sy)) iq - j = (stN (mvA a iq (nI sy)) iq - j - 1) + 1 := by omega
                    refine V_aload_n C dX3_move_110 rfl ?_
                    refine V_aload_n C dX3_move_111 rfl ?_
                    refine V_callf (R_V C (c_X3_moveOneUp hfl hWj (by omega)) mi_X3_moveOneUp mk_X3_203 rfl (by omega) rfl (rfl : vwCl[5]? = some (RX3, TX3, 13)) (by decide) rfl (Nat.le_of_ble_eq_true rfl) (by decide) dX3_move_112) ?_
                    refine V_iconst (v := -1) C dX3_move_115 (by decide) ?_
                    refine V_icmp_eq C 125 dX3_move_116 (by decide) (fun h116 => ?_) (fun h116 => ?_)
                    · refine V_iload C dX3_move_125 rfl ?_
                      refine V_xret (by omega) (by omega) ?_
                      exact V_ireti C hr dX3_move_127 ⟨by simp [g3_move, gS, gO, hb2, hb7, tiq, tsy, h15, h24, h36], rfl, by rw [← hm9, e9]; simp only [maR]; rw [if_pos (by simpa using h116)], rfl⟩
                    · refine V_iinc_5 C _ dX3_move_119 (nI_1 _) (by decide) ?_
                      refine V_goto C 101 dX3_move_122 (by decide) ?_
                      exact ih101 (j + 1) (muA Z iq) (by omega) (hWj.mu (by omega)) ((muA_s (by omega) hWj.ol (by omega)).trans hj3) (by rw [← hm9, e9]; simp only [maR]; rw [if_neg h116, show stN (mvA a iq (nI sy)) iq - (j + 1) = stN (mvA a iq (nI sy)) iq - j - 1 by omega]) (by omega)
              exact L101 _ 0 (mvA a iq (nI sy)) (Nat.zero_le _) hWv rfl rfl (Nat.lt_succ_self _)
            · refine V_aload_n C dX3_move_64 rfl ?_
              refine V_iload C dX3_move_65 rfl ?_
              refine V_callf (R_VN C (c_X0_hasSeated hfl (by omega) (by omega)) mi_X0_hasSeated mk_X3_178 rfl (by omega) ((GE_C (by omega)).trans (GC_O (by omega))) (rfl : vwCl[2]? = some (RX0, TX0, 9)) (by decide) rfl (Nat.le_of_ble_eq_true rfl) (by decide) dX3_move_67) ?_
              refine V_ifb_eq C 87 dX3_move_70 (by decide) (fun h70 => ?_) (fun h70 => ?_)
              · rw [mv_hs (by omega)] at h70
                refine V_iinc_5 C _ dX3_move_87 (nI_1 _) (by decide) ?_
                refine V_goto C 55 dX3_move_90 (by decide) ?_
                have ih := ih55 (k + 1) (by omega) (by omega)
                simp only [mvK, mvC] at ih
                first
                  | (rw [if_neg (show ¬ hs a iq k = true by rw [h70]; decide), if_neg (show ¬ (hs a iq k && lostB (mvK a iq (nI sy) k) k (nI sy)) = true by rw [h70]; simp), Nat.add_zero] at ih; exact ih)
                  | (rw [if_pos h70, if_pos (show (hs a iq k && lostB (mvK a iq (nI sy) k) k (nI sy)) = true by rw [h70, h81]; rfl)] at ih; exact ih)
                  | (rw [if_pos h70, if_neg (show ¬ (hs a iq k && lostB (mvK a iq (nI sy) k) k (nI sy)) = true by rw [h70, h81]; decide), Nat.add_zero] at ih; exact ih)
              · rw [mv_hs (by omega)] at h70
                refine V_aload_n C dX3_move_73 rfl ?_
                refine V_iload C dX3_move_74 rfl ?_
                refine V_aload_n C dX3_move_76 rfl ?_
                refine V_iload_n C dX3_move_77 rfl ?_
                refine V_callf (R_V C (c_X3_isSeatLostByMove hfl (hW.mv (by omega) k) (by omega) (by omega)) mi_X3_isSeatLostByMove mk_X3_212 rfl (by omega) rfl (rfl : vwCl[5]? = some (RX3, TX3, 13)) (by decide) rfl (Nat.le_of_ble_eq_true rfl) (by decide) dX3_move_78) ?_
                refine V_ifb_eq C 87 dX3_move_81 (by decide) (fun h81 => ?_) (fun h81 => ?_)
                · refine V_iinc_5 C _ dX3_move_87 (nI_1 _) (by decide) ?_
                  refine V_goto C 55 dX3_move_90 (by decide) ?_
                  have ih := ih55 (k + 1) (by omega) (by omega)
                  simp only [mvK, mvC] at ih
                  first
                    | (rw [if_neg (show ¬ hs a iq k = true by rw [h70]; decide), if_neg (show ¬ (hs a iq k && lostB (mvK a iq (nI sy) k) k (nI sy)) = true by rw [h70]; simp), Nat.add_zero] at ih; exact ih)
                    | (rw [if_pos h70, if_pos (show (hs a iq k && lostB (mvK a iq (nI sy) k) k (nI sy)) = true by rw [h70, h81]; rfl)] at ih; exact ih)
                    | (rw [if_pos h70, if_neg (show ¬ (hs a iq k && lostB (mvK a iq (nI sy) k) k (nI sy)) = true by rw [h70, h81]; decide), Nat.add_zero] at ih; exact ih)
                · refine V_iinc_4 C _ dX3_move_84 (nI_1 _) (by decide) ?_
                  refine V_iinc_5 C _ dX3_move_87 (nI_1 _) (by decide) ?_
                  refine V_goto C 55 dX3_move_90 (by decide) ?_
                  have ih := ih55 (k + 1) (by omega) (by omega)
                  simp only [mvK, mvC] at ih
                  first
                    | (rw [if_neg (show ¬ hs a iq k = true by rw [h70]; decide), if_neg (show ¬ (hs a iq k && lostB (mvK a iq (nI sy) k) k (nI sy)) = true by rw [h70]; simp), Nat.add_zero] at ih; exact ih)
                    | (rw [if_pos h70, if_pos (show (hs a iq k && lostB (mvK a iq (nI sy) k) k (nI sy)) = true by rw [h70, h81]; rfl)] at ih; exact ih)
                    | (rw [if_pos h70, if_neg (show ¬ (hs a iq k && lostB (mvK a iq (nI sy) k) k (nI sy)) = true by rw [h70, h81]; decide), Nat.add_zero] at ih; exact ih)
        exact L55 _ 0 (Nat.zero_le _) (Nat.lt_succ_self _)
      · exact V_throwS (text := "offer closed, or slot sat or taken") C ht tw_X3_UnsupportedOperationException (by decide +kernel) (by first | (simp [GX, g3_move, gS, gO, hb2, hb7, tiq, tsy, h15]; done) | (simp [GX, g3_move, gS, gO, hb2, hb7, tiq, tsy, h15, h24]; done) | (simp [GX, g3_move, gS, gO, hb2, hb7, tiq, tsy, h15, h24, h36]; done)) dX3_move_39 dX3_move_42 dX3_move_43 dX3_move_45 dX3_move_48 (by decide) (by decide)
set_option maxHeartbeats 4000000 in
set_option maxRecDepth 100000 in
theorem c_X3_settle {l : Launch} {x : Sh} {a b : Mem} {o : Out} (hfl : l.stackTraces = false) (hW : WC a) : MG l x yX3_settle cX3_settle 3 (some .int) 7 320 [.ref (x.2.1 0)] a b o (QI x o (FI (nI (stC a (bW a))) (a3_settle a) b)) := by
  refine MG.of (maxL := 3) (ret := (some .int)) hfl (by decide) [some (.ref (x.2.1 0)), none, none] rfl rfl (Nat.le_of_ble_eq_true rfl) ?_
  intro pP eE sS mM argsA belowB methM cC C hr
  have hb120 := hW.bl
  have hK := stK_all hW
  refine V_iconst (v := 0) C dX3_settle_0 (by decide) ?_
  refine V_istore_n1 C dX3_settle_1 (by decide) ?_
  refine V_iconst (v := 0) C dX3_settle_2 (by decide) ?_
  refine V_istore_n2 C dX3_settle_3 (by decide) ?_
  have L4 : ∀ (fuel : Nat) (k : Nat), k ≤ bW a → bW a - k < fuel → VV pP l eE ({ frames := 7, cells := 0, slots := 0, locals := 320 } : Room) sS mM argsA belowB methM cC (MQ belowB (QI x o (FI (nI (stC a (bW a))) (a3_settle a) b) sS.heap.size) argsA sS 0 0 (AW x sS.heap.size)) x 3 (stK a k) b o 0 0 4 [some (.ref (x.2.1 0)), some (.int (nI (stC a k))), some (.int (nI k))] [] := by
    intro fuel
    induction fuel with
    | zero => intro k hk hm; exact absurd hm (Nat.not_lt_zero _)
    | succ fuel ih4 =>
      intro k hk hm
      refine V_iload_n C dX3_settle_4 rfl ?_
      refine V_aload_n C dX3_settle_5 rfl ?_
      refine gt_X3_round C fk_X3_19 dX3_settle_6 ?_
      refine gt_X2_count C fk_X3_142 dX3_settle_9 ?_
      refine V_topi (((hK k hk).2 13 3 (by omega)).trans hW.be) ?_
      refine V_lt C 63 dX3_settle_12 (by decide) (by omega) (by omega) (fun h12 => ?_) (fun h12 => ?_)
      · have e9 : k = bW a := by omega
        subst e9
        refine V_aload_n C dX3_settle_63 rfl ?_
        refine gt_X3_round C fk_X3_19 dX3_settle_64 ?_
        refine V_iconst (v := 0) C dX3_settle_67 (by decide) ?_
        refine pt_X2_count C fk_X3_142 dX3_settle_68 ?_
        refine V_aload_n C dX3_settle_71 rfl ?_
        refine V_dup C dX3_settle_72 rfl ?_
        refine gt_X3_settledRounds C fk_X3_157 dX3_settle_73 ?_
        refine V_topi ((up2_o (by omega)).trans ((hK _ hk).2 0 11 (by omega))) ?_
        refine V_iconst (v := 1) C dX3_settle_76 (by decide) ?_
        refine V_iadd C dX3_settle_77 ?_
        refine pt_X3_settledRounds C fk_X3_157 dX3_settle_78 ?_
        refine V_iload_n C dX3_settle_81 rfl ?_
        exact V_ireti C hr dX3_settle_82 ⟨rfl, rfl, rfl⟩
      · have hp9 := hW.bpl h12
        have ho9 := hW.bol h12
        refine V_aload_n C dX3_settle_15 rfl ?_
        refine V_aload_n C dX3_settle_16 rfl ?_
        refine gt_X3_round C fk_X3_19 dX3_settle_17 ?_
        refine gt_X2_pupils C fk_X3_145 dX3_settle_20 ?_
        refine V_iload_n C dX3_settle_23 rfl ?_
        refine la_rpupils C _ rfl (by omega) dX3_settle_24 ?_
        refine V_topi ((hK k hk).2 14 k (by omega)) ?_
        refine V_topi (hW.bpe (by omega)) ?_
        refine V_aload_n C dX3_settle_25 rfl ?_
        refine gt_X3_offers C fk_X3_25 dX3_settle_26 ?_
        refine V_aload_n C dX3_settle_29 rfl ?_
        refine gt_X3_round C fk_X3_19 dX3_settle_30 ?_
        refine gt_X2_offers C fk_X3_148 dX3_settle_33 ?_
        refine V_iload_n C dX3_settle_36 rfl ?_
        refine la_roffers C _ rfl (by omega) dX3_settle_37 ?_
        refine V_topi ((hK k hk).2 15 k (by omega)) ?_
        refine V_topi (hW.boe (by omega)) ?_
        refine la_offers C _ rfl (by omega) dX3_settle_38 ?_
        refine V_aload_n C dX3_settle_39 rfl ?_
        refine gt_X3_round C fk_X3_19 dX3_settle_40 ?_
        refine gt_X2_points C fk_X3_150 dX3_settle_43 ?_
        refine V_iload_n C dX3_settle_46 rfl ?_
        refine la_rpoints C _ rfl (by omega) dX3_settle_47 ?_
        refine V_topi ((hK k hk).2 16 k (by omega)) ?_
        refine V_callf (R_V C (c_X3_isSeatWon hfl (hK k hk).1 (p := bpN a k) (i := boN a k) (by omega) (by omega)) mi_X3_isSeatWon mk_X3_153 rfl (by omega) rfl (rfl : vwCl[5]? = some (RX3, TX3, 13)) (by decide) rfl (Nat.le_of_ble_eq_true rfl) (by decide) dX3_settle_48) ?_
        refine V_ifb_eq C 57 dX3_settle_51 (by decide) (fun h51 => ?_) (fun h51 => ?_)
        · refine V_iinc_2 C _ dX3_settle_57 (nI_1 _) (by decide) ?_
          refine V_goto C 4 dX3_settle_60 (by decide) ?_
          have ih := ih4 (k + 1) (by omega) (by omega)
          have e1 : stC a (k + 1) = stC a k + (if (nos (stK a k) (boN a k) (bpN a k) (a 16 k) && !isFullB (stK a k) (boN a k)) = true then 1 else 0) := rfl
          have e2 : stK a (k + 1) = wonA (stK a k) (bpN a k) (boN a k) (a 16 k) := rfl
          rw [e1, e2] at ih
          first
            | (rw [if_neg (by rw [h51]; decide), Nat.add_zero] at ih; exact ih)
            | (rw [if_pos h51] at ih; exact ih)
        · refine V_iinc_1 C _ dX3_settle_54 (nI_1 _) (by decide) ?_
          refine V_iinc_2 C _ dX3_settle_57 (nI_1 _) (by decide) ?_
          refine V_goto C 4 dX3_settle_60 (by decide) ?_
          have ih := ih4 (k + 1) (by omega) (by omega)
          have e1 : stC a (k + 1) = stC a k + (if (nos (stK a k) (boN a k) (bpN a k) (a 16 k) && !isFullB (stK a k) (boN a k)) = true then 1 else 0) := rfl
          have e2 : stK a (k + 1) = wonA (stK a k) (bpN a k) (boN a k) (a 16 k) := rfl
          rw [e1, e2] at ih
          first
            | (rw [if_neg (by rw [h51]; decide), Nat.add_zero] at ih; exact ih)
            | (rw [if_pos h51] at ih; exact ih)
  exact L4 _ 0 (Nat.zero_le _) (Nat.lt_succ_self _)
set_option maxHeartbeats 4000000 in
set_option maxRecDepth 100000 in
theorem c_X3_isTrue {l : Launch} {x : Sh} {a b : Mem} {o : Out} (hfl : l.stackTraces = false) (hW : WC a) (h1 : ∀ p, p < nP a → noClash a p) (h2 : ∀ p, p < nP a → pwB a p = true) (h3 : ∀ i, i < nO a → nTaken a i ≤ stN a i) (h4 : ∀ i, i < nO a → ∀ k, k < qW a i → hs a i (wtN a i k) = false) (h5 : ∀ i, i < nO a → anyN (rsB a i) (nO a) = false) : MG l x yX3_isTrue cX3_isTrue 2 (some .boolean) 3 160 [.ref (x.2.1 0)] a b o (QI x o (FI 1 a b)) := by
  refine MG.of (maxL := 2) (ret := (some .boolean)) hfl (by decide) [some (.ref (x.2.1 0)), none] rfl rfl (Nat.le_of_ble_eq_true rfl) ?_
  intro pP eE sS mM argsA belowB methM cC C hr
  have ho12 := hW.ol
  have hp10 := hW.pl
  refine V_iconst (v := 0) C dX3_isTrue_0 (by decide) ?_
  refine V_istore_n1 C dX3_isTrue_1 (by decide) ?_
  have L2 : ∀ (fuel : Nat) (k : Nat), k ≤ nP a → nP a - k < fuel → VV pP l eE ({ frames := 3, cells := 0, slots := 0, locals := 160 } : Room) sS mM argsA belowB methM cC (MQ belowB (QI x o (FI 1 a b) sS.heap.size) argsA sS 0 0 (AW x sS.heap.size)) x 2 a b o 0 0 2 [some (.ref (x.2.1 0)), some (.int (nI k))] [] := by
    intro fuel
    induction fuel with
    | zero => intro k hk hm; exact absurd hm (Nat.not_lt_zero _)
    | succ fuel ih2 =>
      intro k hk hm
      refine V_iload_n C dX3_isTrue_2 rfl ?_
      refine V_aload_n C dX3_isTrue_3 rfl ?_
      refine gt_X3_pupilCount C fk_X3_65 dX3_isTrue_4 ?_
      refine V_topi hW.pe ?_
      refine V_lt C 34 dX3_isTrue_7 (by decide) (by omega) (by omega) (fun h7 => ?_) (fun h7 => ?_)
      · refine V_iconst (v := 0) C dX3_isTrue_34 (by decide) ?_
        refine V_istore_n1 C dX3_isTrue_35 (by decide) ?_
        have L36 : ∀ (fuel : Nat) (k : Nat), k ≤ nO a → nO a - k < fuel → VV pP l eE ({ frames := 3, cells := 0, slots := 0, locals := 160 } : Room) sS mM argsA belowB methM cC (MQ belowB (QI x o (FI 1 a b) sS.heap.size) argsA sS 0 0 (AW x sS.heap.size)) x 2 a b o 0 0 36 [some (.ref (x.2.1 0)), some (.int (nI k))] [] := by
          intro fuel
          induction fuel with
          | zero => intro k hk hm; exact absurd hm (Nat.not_lt_zero _)
          | succ fuel ih36 =>
            intro k hk hm
            refine V_iload_n C dX3_isTrue_36 rfl ?_
            refine V_aload_n C dX3_isTrue_37 rfl ?_
            refine gt_X3_offerCount C fk_X3_91 dX3_isTrue_38 ?_
            refine V_topi hW.oe ?_
            refine V_lt C 93 dX3_isTrue_41 (by decide) (by omega) (by omega) (fun h41 => ?_) (fun h41 => ?_)
            · refine V_iconst (v := 1) C dX3_isTrue_93 (by decide) ?_
              exact V_iretz C hr (by first | exact Or.inl rfl | exact Or.inr rfl | exact bI_or _) dX3_isTrue_94 ⟨rfl, rfl, rfl⟩
            · refine V_aload_n C dX3_isTrue_44 rfl ?_
              refine gt_X3_offers C fk_X3_25 dX3_isTrue_45 ?_
              refine V_iload_n C dX3_isTrue_48 rfl ?_
              refine la_offers C _ rfl (by omega) dX3_isTrue_49 ?_
              refine V_callf (R_VN C (c_X0_countTaken hfl (by omega)) mi_X0_countTaken mk_X3_169 rfl (by omega) ((GE_C (by omega)).trans (GC_O (by omega))) (rfl : vwCl[2]? = some (RX0, TX0, 9)) (by decide) rfl (Nat.le_of_ble_eq_true rfl) (by decide) dX3_isTrue_50) ?_
              refine V_aload_n C dX3_isTrue_53 rfl ?_
              refine gt_X3_offers C fk_X3_25 dX3_isTrue_54 ?_
              refine V_iload_n C dX3_isTrue_57 rfl ?_
              refine la_offers C _ rfl (by omega) dX3_isTrue_58 ?_
              refine gt_X0_seats C (by omega) fk_X3_215 dX3_isTrue_59 ?_
              refine V_topi (hW.ste (by omega)) ?_
              refine V_icmp_gt C 85 dX3_isTrue_62 (by decide) (fun h62 => ?_) (fun h62 => ?_)
              · exact absurd ((nI_leI (by have := cntN_le (hs a k) 10; unfold nTaken; omega) (by have := hW.stl (i := k) (by omega); omega)).mpr (h3 k h41)) (by first | exact Int32.not_le.mpr h62 | exact h62)
              · refine V_aload_n C dX3_isTrue_65 rfl ?_
                refine gt_X3_offers C fk_X3_25 dX3_isTrue_66 ?_
                refine V_iload_n C dX3_isTrue_69 rfl ?_
                refine la_offers C _ rfl (by omega) dX3_isTrue_70 ?_
                refine V_callf (R_VN C (c_X0_hasSeatedWaiter hfl (by omega) (hW.qe (by omega)) (hW.ql (by omega)) (fun j hj => ⟨wtN a k j, by have := hW.wtl (i := k) (by omega) hj; omega, hW.wte (by omega) hj⟩)) mi_X0_hasSeatedWaiter mk_X3_286 rfl (by omega) ((GE_C (by omega)).trans (GC_O (by omega))) (rfl : vwCl[2]? = some (RX0, TX0, 9)) (by decide) rfl (Nat.le_of_ble_eq_true rfl) (by decide) dX3_isTrue_71) ?_
                refine V_ifb_ne C 85 dX3_isTrue_74 (by decide) (fun h74 => ?_) (fun h74 => ?_)
                · exact absurd h74 (by rw [anyN_f.mpr (fun j hj => h4 k h41 j hj)]; decide)
                · refine V_aload_n C dX3_isTrue_77 rfl ?_
                  refine V_iload_n C dX3_isTrue_78 rfl ?_
                  refine V_callf (R_V C (c_X3_isRoomShared hfl hW (by omega)) mi_X3_isRoomShared mk_X3_290 rfl (by omega) rfl (rfl : vwCl[5]? = some (RX3, TX3, 13)) (by decide) rfl (Nat.le_of_ble_eq_true rfl) (by decide) dX3_isTrue_79) ?_
                  refine V_ifb_eq C 87 dX3_isTrue_82 (by decide) (fun h82 => ?_) (fun h82 => ?_)
                  · refine V_iinc_1 C _ dX3_isTrue_87 (nI_1 _) (by decide) ?_
                    refine V_goto C 36 dX3_isTrue_90 (by decide) ?_
                    exact ih36 (k + 1) (by omega) (by omega)
                  · exact absurd h82 (by rw [h5 k h41]; decide)
        exact L36 _ 0 (Nat.zero_le _) (Nat.lt_succ_self _)
      · refine V_aload_n C dX3_isTrue_10 rfl ?_
        refine V_iload_n C dX3_isTrue_11 rfl ?_
        refine V_callf (R_V C (c_X3_hasSeatsThatClash hfl hW (by omega) (h1 k h7)) mi_X3_hasSeatsThatClash mk_X3_280 rfl (by omega) rfl (rfl : vwCl[5]? = some (RX3, TX3, 13)) (by decide) rfl (Nat.le_of_ble_eq_true rfl) (by decide) dX3_isTrue_12) ?_
        refine V_ifb_ne C 26 dX3_isTrue_15 (by decide) (fun h15 => ?_) (fun h15 => ?_)
        · exact absurd h15 (by decide)
        · refine V_aload_n C dX3_isTrue_18 rfl ?_
          refine V_iload_n C dX3_isTrue_19 rfl ?_
          refine V_callf (R_V C (c_X3_arePointsWhole hfl hW (by omega)) mi_X3_arePointsWhole mk_X3_283 rfl (by omega) rfl (rfl : vwCl[5]? = some (RX3, TX3, 13)) (by decide) rfl (Nat.le_of_ble_eq_true rfl) (by decide) dX3_isTrue_20) ?_
          refine V_ifb_ne C 28 dX3_isTrue_23 (by decide) (fun h23 => ?_) (fun h23 => ?_)
          · refine V_iinc_1 C _ dX3_isTrue_28 (nI_1 _) (by decide) ?_
            refine V_goto C 2 dX3_isTrue_31 (by decide) ?_
            exact ih2 (k + 1) (by omega) (by omega)
          · exact absurd (h2 k h7) (by rw [h23]; decide)
  exact L2 _ 0 (Nat.zero_le _) (Nat.lt_succ_self _)
