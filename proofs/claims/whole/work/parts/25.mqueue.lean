/-! seats and queues -/
def KP (b b' : Mem) : Prop := (∀ k, b' 79 k = b 79 k) ∧ (∀ k, b' 80 k = b 80 k) ∧ (∀ k, b' 86 k = b 86 k) ∧ b' 70 0 = b 70 0 ∧ b' 70 7 = b 70 7
theorem KP.rf {b : Mem} : KP b b := ⟨fun _ => rfl, fun _ => rfl, fun _ => rfl, rfl, rfl⟩
theorem KP.tr {b b1 b2 : Mem} (h : KP b b1) (g : KP b1 b2) : KP b b2 := ⟨fun k => (g.1 k).trans (h.1 k), fun k => (g.2.1 k).trans (h.2.1 k), fun k => (g.2.2.1 k).trans (h.2.2.1 k), g.2.2.2.1.trans h.2.2.2.1, g.2.2.2.2.trans h.2.2.2.2⟩
theorem KP.up {b : Mem} {c k : Nat} {v : Int32} (h : c ≠ 79 ∧ c ≠ 80 ∧ c ≠ 86 ∧ (c ≠ 70 ∨ (k ≠ 0 ∧ k ≠ 7))) : KP b (up2 b c k v) := ⟨fun j => up2_o (by omega), fun j => up2_o (by omega), fun j => up2_o (by omega), up2_o (by omega), up2_o (by omega)⟩
def brB (b : Mem) (p : Nat) (v : Int32) : Mem := up2 (up2 b 84 p (b 84 p + v)) 70 6 (b 70 6 + v)
theorem RR.pay {q b : Mem} (h : RR q b) {p : Nat} {v : Int32} (hp : p < 10) : RR (payA q p v) (brB b p v) := by
  obtain ⟨r1, r2, r3, r4, r5, r6, r7, r8, r9, r10, r11, r12, r13, r14, r15, r16, r17, r18, r19⟩ := h
  refine ⟨?_, ?_, ?_, ?_, ?_, ?_, ?_, ?_, ?_, ?_, ?_, ?_, ?_, ?_, ?_, ?_, ?_, ?_, ?_⟩ <;> (simp only [payA, brB, up2]; grind)
theorem RR.paid {q b : Mem} (h : RR q b) {p i : Nat} {v : Int32} (hp : p < 10) (hi : i < 12) : RR (up2 q (18 + 4 * i + 1) p v) (up2 b 81 (p * 12 + i) v) := by
  obtain ⟨r1, r2, r3, r4, r5, r6, r7, r8, r9, r10, r11, r12, r13, r14, r15, r16, r17, r18, r19⟩ := h
  refine ⟨?_, ?_, ?_, ?_, ?_, ?_, ?_, ?_, ?_, ?_, ?_, ?_, ?_, ?_, ?_, ?_, ?_, ?_, ?_⟩ <;> (simp only [up2]; grind)
theorem RR.pts {q b : Mem} (h : RR q b) {p : Nat} {v : Int32} (hp : p < 10) : RR (up2 q 67 p v) (up2 b 84 p v) := by
  obtain ⟨r1, r2, r3, r4, r5, r6, r7, r8, r9, r10, r11, r12, r13, r14, r15, r16, r17, r18, r19⟩ := h
  refine ⟨?_, ?_, ?_, ?_, ?_, ?_, ?_, ?_, ?_, ?_, ?_, ?_, ?_, ?_, ?_, ?_, ?_, ?_, ?_⟩ <;> (simp only [up2]; grind)
/-- one leaves a queue: what the reference's cells are behind -/
def dlM (b : Mem) (i pl k : Nat) : Mem := fun c j => if (c = 77 ∨ c = 78) ∧ 10 * i + pl ≤ j ∧ j < 10 * i + k then b c (j + 1) else b c j
def lvM (q b : Mem) (i : Nat) (p : Int32) : Mem := if firN (qAt q i p) (qW q i) < qW q i then up2 (dlM b i (firN (qAt q i p) (qW q i)) (qW q i - 1)) 76 i (nI (qW q i - 1)) else b
theorem dlM_0 {b : Mem} {i pl : Nat} : b = dlM b i pl pl := by
  funext c j
  simp only [dlM]
  rw [if_neg (by omega)]
theorem dlM_s {b : Mem} {i pl k : Nat} (h : pl ≤ k) : up2 (up2 (dlM b i pl k) 77 (10 * i + k) (b 77 (10 * i + k + 1))) 78 (10 * i + k) (b 78 (10 * i + k + 1)) = dlM b i pl (k + 1) := by
  funext c j
  simp only [up2, dlM]
  grind
theorem RR.lv {q b : Mem} (h : RR q b) {i : Nat} {p : Int32} (hi : i < 12) (hw : qW q i ≤ 10) : RR (noMore q i p (qW q i)) (lvM q b i p) := by
  unfold noMore lvM
  by_cases hf : firN (qAt q i p) (qW q i) < qW q i
  · rw [if_pos hf, if_pos hf]
    generalize firN (qAt q i p) (qW q i) = pl at hf ⊢
    generalize qW q i = w at hf hw ⊢
    obtain ⟨r1, r2, r3, r4, r5, r6, r7, r8, r9, r10, r11, r12, r13, r14, r15, r16, r17, r18, r19⟩ := h
    refine ⟨?_, ?_, ?_, ?_, ?_, ?_, ?_, ?_, ?_, ?_, ?_, ?_, ?_, ?_, ?_, ?_, ?_, ?_, ?_⟩ <;> (simp only [delK, dlM, up2]; grind)
  · rw [if_neg hf, if_neg hf]
    exact h
theorem KP.lv {q b : Mem} {i : Nat} {p : Int32} : KP b (lvM q b i p) := by
  unfold lvM
  split
  · refine ⟨fun k => ?_, fun k => ?_, fun k => ?_, ?_, ?_⟩ <;> (rw [up2_o (by omega), dlM, if_neg (by omega)])
  · exact KP.rf
theorem WC.ql2 {a : Mem} (h : WC a) {i : Nat} (hi : i < 12 := by omega) : qW a i ≤ 10 := h.ql hi
theorem dlM_g {b : Mem} {i pl k c : Nat} : dlM b i pl k c (10 * i + k + 1) = b c (10 * i + k + 1) := by
  simp only [dlM]
  rw [if_neg (by omega)]
theorem nI_p1 {n : Nat} (h : 0 < n) : nI n - 1 = nI (n - 1) := by
  obtain ⟨m, rfl⟩ : ∃ m, n = m + 1 := ⟨n - 1, by omega⟩
  exact nI_pred m
theorem fI_lt {f : Nat → Bool} {n : Nat} (hn : n < 2 ^ 31) (h : ¬ fI f n = -1) : firN f n < n := Classical.not_not.mp (fun z => h ((fI_m1 hn).mpr z))
abbrev gv1 (q : Mem) (i p : Nat) (V : Int32) : Mem := up2 (up2 q 67 p (q 67 p - V)) (18 + 4 * i + 1) p V
abbrev gvK (q : Mem) (i p : Nat) (V : Int32) (k : Nat) : Mem := gvA (gv1 q i p V) (q (18 + 4 * i) 0) (q (18 + 4 * i) 4) (nI p) k
theorem gvK_W {q : Mem} (hW : WC q) {i p k : Nat} {V : Int32} (hi : i < 12) (hk : k ≤ 12) : WC (gvK q i p V k) := (hW.pts.paid hi).gv hk
theorem gvK_like {q : Mem} {i p k : Nat} {V : Int32} (hi : i < 12) (hk : k ≤ 12) : isOfB (gvK q i p V k) k (gvK q i p V k (18 + 4 * i) 0) (gvK q i p V k (18 + 4 * i) 4) = isOfB (gv1 q i p V) k (q (18 + 4 * i) 0) (q (18 + 4 * i) 4) := by
  have e1 : ∀ x y, isOfB (gvK q i p V k) k x y = isOfB (gv1 q i p V) k x y := fun x y => gvA_is hk
  have e2 : ∀ f, f ≠ 8 → gvK q i p V k (18 + 4 * i) f = gv1 q i p V (18 + 4 * i) f := fun f hf => gvA_01 (by omega) hk
  have e3 : ∀ f, gv1 q i p V (18 + 4 * i) f = q (18 + 4 * i) f := fun f => (up2_o (by omega)).trans (up2_o (by omega))
  rw [e1, e2 0 (by decide), e2 4 (by decide), e3, e3]
theorem gvK_q {q : Mem} {i p k : Nat} {V : Int32} : (∀ j, gvK q i p V k (18 + 4 * k + 2) j = q (18 + 4 * k + 2) j) ∧ qW (gvK q i p V k) k = qW (gv1 q i p V) k ∧ qW (gv1 q i p V) k = qW q k := by
  have e1 : ∀ c j, 18 + 4 * k ≤ c → gvK q i p V k c j = gv1 q i p V c j := fun c j h => gvA_hi (Or.inl h)
  refine ⟨fun j => ?_, ?_, ?_⟩
  · rw [e1 _ _ (by omega)]
    exact (up2_o (by omega)).trans (up2_o (by omega))
  · unfold qW
    rw [e1 _ _ (by omega)]
  · exact congrArg tn (show gv1 q i p V (18 + 4 * k) 8 = q (18 + 4 * k) 8 from (up2_o (by omega)).trans (up2_o (by omega)))
theorem gvK_t {q : Mem} {i p k : Nat} {V : Int32} (h : isOfB (gv1 q i p V) k (q (18 + 4 * i) 0) (q (18 + 4 * i) 4) = true) : noMore (gvK q i p V k) k (nI p) (qW (gv1 q i p V) k) = gvK q i p V (k + 1) := gvA_t h
theorem gvK_f {q : Mem} {i p k : Nat} {V : Int32} (h : isOfB (gv1 q i p V) k (q (18 + 4 * i) 0) (q (18 + 4 * i) 4) = false) : gvK q i p V k = gvK q i p V (k + 1) := gvA_f h
theorem mu_none {q : Mem} {i : Nat} (h : ∀ j, j < qW q i → muK q i j = false) : muF q i = -1 ∧ muA q i = q := by
  have e : ¬ firN (muK q i) (qW q i) < qW q i := fun z => by
    have := firN_yes z
    rw [h _ z] at this; cases this
  unfold muF muA
  rw [if_neg e, if_neg e]
  constructor
  · split <;> rfl
  · split <;> rfl
theorem mu_cl {q : Mem} {i : Nat} (h : clB q i = true) : muF q i = -1 ∧ muA q i = q := mu_none (fun j _ => by unfold muK; rw [nos_e, h]; rfl)
theorem mu_full {q : Mem} {i : Nat} (h : isFullB q i = true) : muF q i = -1 ∧ muA q i = q := by
  unfold muF muA
  rw [if_pos h, if_pos h]
  exact ⟨rfl, rfl⟩
theorem mu_at {q : Mem} {i k : Nat} (hf : isFullB q i = false) (hk : k < qW q i) (h : muK q i k = true) (h0 : ∀ j, j < k → muK q i j = false) : muF q i = q (18 + 4 * i + 2) k ∧ muA q i = giveA q i (wtN q i k) (q (18 + 4 * i + 3) k) := by
  have e : firN (muK q i) (qW q i) = k := firN_eq (by omega) h0 (fun _ => h)
  have hg : ¬ isFullB q i = true := by rw [hf]; decide
  constructor
  · rw [muF, if_neg hg, e, if_pos hk]
  · rw [muA, if_neg hg, e, if_pos hk]

set_option maxHeartbeats 4000000 in
set_option maxRecDepth 100000 in
theorem c_X4_bring {l : Launch} {x : Sh} {a b : Mem} {o : Out} (hfl : l.stackTraces = false) {p : Nat} {v : Int32} (hp : p < 10) : MG l x yX4_bring cX4_bring 3 none 0 40 [.ref (x.2.1 70), .int (nI p), .int v] a b o (QV x o (FV a (brB b p v))) := by
  refine MG.of (maxL := 3) (ret := none) hfl (by decide) [some (.ref (x.2.1 70)), some (.int (nI p)), some (.int v)] rfl rfl (Nat.le_of_ble_eq_true rfl) ?_
  intro pP eE sS mM argsA belowB methM cC C hr
  refine V_aload_n C dX4_bring_0 rfl ?_
  refine gt_X4_points C fk_X4_50 dX4_bring_1 ?_
  refine V_iload_n C dX4_bring_4 rfl ?_
  refine V_dup2 C dX4_bring_5 rfl rfl ?_
  refine la_m_points C _ rfl (by omega) dX4_bring_6 ?_
  refine V_iload_n C dX4_bring_7 rfl ?_
  refine V_iadd C dX4_bring_8 ?_
  refine sa_m_points C _ rfl (by omega) dX4_bring_9 ?_
  refine V_aload_n C dX4_bring_10 rfl ?_
  refine V_dup C dX4_bring_11 rfl ?_
  refine gt_X4_refunds C fk_X4_159 dX4_bring_12 ?_
  refine V_iload_n C dX4_bring_15 rfl ?_
  refine V_iadd C dX4_bring_16 ?_
  refine pt_X4_refunds C fk_X4_159 dX4_bring_17 ?_
  exact V_vret C hr dX4_bring_20 ⟨rfl, rfl⟩
set_option maxHeartbeats 4000000 in
set_option maxRecDepth 100000 in
theorem c_X4_leave {l : Launch} {x : Sh} {a b : Mem} {o : Out} (hfl : l.stackTraces = false) {q : Mem} (hW : WC q) (hR : RR q b) {p i : Nat} (hi : i < 12) (hd : ∀ j k, j < k → k < qW q i → q (18 + 4 * i + 2) j ≠ q (18 + 4 * i + 2) k) : MG l x yX4_leave cX4_leave 5 none 1 80 [.ref (x.2.1 70), .int (nI p), .int (nI i)] a b o (QV x o (FV a (lvM q b i (nI p)))) := by
  refine MG.of (maxL := 5) (ret := none) hfl (by decide) [some (.ref (x.2.1 70)), some (.int (nI p)), some (.int (nI i)), none, none] rfl rfl (Nat.le_of_ble_eq_true rfl) ?_
  intro pP eE sS mM argsA belowB methM cC C hr
  have hq10 := hW.ql hi
  refine V_aload_n C dX4_leave_0 rfl ?_
  refine V_iload_n C dX4_leave_1 rfl ?_
  refine V_iload_n C dX4_leave_2 rfl ?_
  refine V_callf (R_V C (c_X4_placeOf hfl hW hR hi hd) mi_X4_placeOf mk_X4_129 rfl (by omega) rfl (rfl : vwCl[6]? = some (RX4, TX4, 24)) (by decide) rfl (Nat.le_of_ble_eq_true rfl) (by decide) dX4_leave_3) ?_
  refine V_istore_n3 C dX4_leave_6 (by decide) ?_
  refine V_iload_n C dX4_leave_7 rfl ?_
  refine V_iconst (v := -1) C dX4_leave_8 (by decide) ?_
  refine V_icmp_ne C 13 dX4_leave_9 (by decide) (fun h9 => ?_) (fun h9 => ?_)
  · have h9 := fI_lt (by omega) h9
    rw [show fI (qAt q i (nI p)) (qW q i) = nI (firN (qAt q i (nI p)) (qW q i)) from if_pos h9]
    refine V_iload_n C dX4_leave_13 rfl ?_
    refine V_istore_4 C dX4_leave_14 (by decide) ?_
    refine V_eqa rfl (dlM_0 (i := i) (pl := firN (qAt q i (nI p)) (qW q i))) ?_
    have L16 : ∀ (fuel : Nat) (k : Nat), firN (qAt q i (nI p)) (qW q i) ≤ k → k < qW q i → qW q i - k < fuel → VV pP l eE ({ frames := 1, cells := 0, slots := 0, locals := 80 } : Room) sS mM argsA belowB methM cC (MQ belowB (QV x o (FV a (lvM q b i (nI p))) sS.heap.size) argsA sS 0 0 (AW x sS.heap.size)) x 5 a (dlM b i (firN (qAt q i (nI p)) (qW q i)) k) o 0 0 16 [some (.ref (x.2.1 70)), some (.int (nI p)), some (.int (nI i)), some (.int (nI (firN (qAt q i (nI p)) (qW q i)))), some (.int (nI k))] [] := by
      intro fuel
      induction fuel with
      | zero => intro k hk1 hk2 hm; exact absurd hm (Nat.not_lt_zero _)
      | succ fuel ih16 =>
        intro k hk1 hk2 hm
        refine V_iload C dX4_leave_16 rfl ?_
        refine V_iconst (v := 1) C dX4_leave_18 (by decide) ?_
        refine V_iadd C dX4_leave_19 ?_
        refine V_topi (nI_1 _) ?_
        refine V_aload_n C dX4_leave_20 rfl ?_
        refine gt_X4_waiting C fk_X4_26 dX4_leave_21 ?_
        refine V_iload_n C dX4_leave_24 rfl ?_
        refine la_m_waiting C _ rfl (by omega) dX4_leave_25 ?_
        refine V_topi (show _ = nI (qW q i) from (hR.qw hi).trans (hW.qe hi)) ?_
        refine V_lt C 87 dX4_leave_26 (by decide) (by omega) (by omega) (fun h26 => ?_) (fun h26 => ?_)
        · have e9 : k = qW q i - 1 := by omega
          subst e9
          refine V_aload_n C dX4_leave_87 rfl ?_
          refine gt_X4_waiting C fk_X4_26 dX4_leave_88 ?_
          refine V_iload_n C dX4_leave_91 rfl ?_
          refine V_dup2 C dX4_leave_92 rfl rfl ?_
          refine la_m_waiting C _ rfl (by omega) dX4_leave_93 ?_
          refine V_topi (show _ = nI (qW q i) from (hR.qw hi).trans (hW.qe hi)) ?_
          refine V_iconst (v := 1) C dX4_leave_94 (by decide) ?_
          refine V_isub C dX4_leave_95 ?_
          refine V_topi (nI_p1 (by omega)) ?_
          refine sa_m_waiting C _ rfl (by omega) dX4_leave_96 ?_
          exact V_vret C hr dX4_leave_97 ⟨rfl, by first | (rw [lvM, if_neg h9]; done) | (rw [lvM, if_pos h9]; done)⟩
        · refine V_aload_n C dX4_leave_29 rfl ?_
          refine gt_X4_waiter C fk_X4_29 dX4_leave_30 ?_
          refine V_bipush (v := nI 10) C dX4_leave_33 (by decide) ?_
          refine V_iload_n C dX4_leave_35 rfl ?_
          refine V_imul C dX4_leave_36 ?_
          refine V_topi (pk_mul _ _) ?_
          refine V_iload C dX4_leave_37 rfl ?_
          refine V_iadd C dX4_leave_39 ?_
          refine V_topi (nI_add _ _) ?_
          refine V_aload_n C dX4_leave_40 rfl ?_
          refine gt_X4_waiter C fk_X4_29 dX4_leave_41 ?_
          refine V_bipush (v := nI 10) C dX4_leave_44 (by decide) ?_
          refine V_iload_n C dX4_leave_46 rfl ?_
          refine V_imul C dX4_leave_47 ?_
          refine V_topi (pk_mul _ _) ?_
          refine V_iload C dX4_leave_48 rfl ?_
          refine V_iadd C dX4_leave_50 ?_
          refine V_topi (nI_add _ _) ?_
          refine V_iconst (v := 1) C dX4_leave_51 (by decide) ?_
          refine V_iadd C dX4_leave_52 ?_
          refine V_topi (nI_1 _) ?_
          refine la_m_waiter C _ rfl (by omega) dX4_leave_53 ?_
          refine V_topi dlM_g ?_
          refine sa_m_waiter C _ rfl (by omega) dX4_leave_54 ?_
          refine V_aload_n C dX4_leave_55 rfl ?_
          refine gt_X4_waits C fk_X4_32 dX4_leave_56 ?_
          refine V_bipush (v := nI 10) C dX4_leave_59 (by decide) ?_
          refine V_iload_n C dX4_leave_61 rfl ?_
          refine V_imul C dX4_leave_62 ?_
          refine V_topi (pk_mul _ _) ?_
          refine V_iload C dX4_leave_63 rfl ?_
          refine V_iadd C dX4_leave_65 ?_
          refine V_topi (nI_add _ _) ?_
          refine V_aload_n C dX4_leave_66 rfl ?_
          refine gt_X4_waits C fk_X4_32 dX4_leave_67 ?_
          refine V_bipush (v := nI 10) C dX4_leave_70 (by decide) ?_
          refine V_iload_n C dX4_leave_72 rfl ?_
          refine V_imul C dX4_leave_73 ?_
          refine V_topi (pk_mul _ _) ?_
          refine V_iload C dX4_leave_74 rfl ?_
          refine V_iadd C dX4_leave_76 ?_
          refine V_topi (nI_add _ _) ?_
          refine V_iconst (v := 1) C dX4_leave_77 (by decide) ?_
          refine V_iadd C dX4_leave_78 ?_
          refine V_topi (nI_1 _) ?_
          refine la_m_waits C _ rfl (by omega) dX4_leave_79 ?_
          refine V_topi ((up2_o (by omega)).trans dlM_g) ?_
          refine sa_m_waits C _ rfl (by omega) dX4_leave_80 ?_
          refine V_iinc_4 C _ dX4_leave_81 (nI_1 _) (by decide) ?_
          refine V_goto C 16 dX4_leave_84 (by decide) ?_
          refine V_eqa rfl (dlM_s hk1) ?_
          exact ih16 (k + 1) (by omega) (by omega) (by omega)
    exact L16 _ _ (Nat.le_refl _) h9 (Nat.lt_succ_self _)
  · have h9 := (fI_m1 (by omega)).mp h9
    exact V_vret C hr dX4_leave_12 ⟨rfl, by first | (rw [lvM, if_neg h9]; done) | (rw [lvM, if_pos h9]; done)⟩
set_option maxHeartbeats 4000000 in
set_option maxRecDepth 100000 in
theorem c_X4_give {l : Launch} {x : Sh} {a b : Mem} {o : Out} (hfl : l.stackTraces = false) {q : Mem} (hW : WC q) (hI : IQ q) (hR : RR q b) {V : Int32} {p i : Nat} (hp : p < 10) (hi : i < 12) : MG l x yX4_give cX4_give 5 none 3 160 [.ref (x.2.1 70), .int (nI p), .int (nI i), .int V] a b o (QV x o (fun a2 b2 => a2 = a ∧ RR (giveA q i p V) b2 ∧ KP b b2)) := by
  refine MG.of (maxL := 5) (ret := none) hfl (by decide) [some (.ref (x.2.1 70)), some (.int (nI p)), some (.int (nI i)), some (.int V), none] rfl rfl (Nat.le_of_ble_eq_true rfl) ?_
  intro pP eE sS mM argsA belowB methM cC C hr
  have ho12 := hW.ol
  refine V_aload_n C dX4_give_0 rfl ?_
  refine gt_X4_points C fk_X4_50 dX4_give_1 ?_
  refine V_iload_n C dX4_give_4 rfl ?_
  refine V_dup2 C dX4_give_5 rfl rfl ?_
  refine la_m_points C _ rfl (by omega) dX4_give_6 ?_
  refine V_topi (hR.pt hp) ?_
  refine V_iload_n C dX4_give_7 rfl ?_
  refine V_isub C dX4_give_8 ?_
  refine sa_m_points C _ rfl (by omega) dX4_give_9 ?_
  refine V_aload_n C dX4_give_10 rfl ?_
  refine gt_X4_paid C fk_X4_41 dX4_give_11 ?_
  refine V_iload_n C dX4_give_14 rfl ?_
  refine V_iload_n C dX4_give_15 rfl ?_
  refine V_callf (R_S C (c_X4_pair hfl) mi_X4_pair mk_X4_96 rfl (by decide) rfl (Nat.le_of_ble_eq_true rfl) (by decide) dX4_give_16) ?_
  refine V_iload_n C dX4_give_19 rfl ?_
  refine sa_m_paid C _ rfl (by omega) dX4_give_20 ?_
  refine V_iconst (v := 0) C dX4_give_21 (by decide) ?_
  refine V_istore_4 C dX4_give_22 (by decide) ?_
  have L24 : ∀ (fuel : Nat) (k : Nat) (b2 : Mem), k ≤ nO q → RR (gvK q i p V k) b2 → KP b b2 → nO q - k < fuel → VV pP l eE ({ frames := 3, cells := 0, slots := 0, locals := 160 } : Room) sS mM argsA belowB methM cC (MQ belowB (QV x o (fun a2 b2 => a2 = a ∧ RR (giveA q i p V) b2 ∧ KP b b2) sS.heap.size) argsA sS 0 0 (AW x sS.heap.size)) x 5 a b2 o 0 0 24 [some (.ref (x.2.1 70)), some (.int (nI p)), some (.int (nI i)), some (.int V), some (.int (nI k))] [] := by
    intro fuel
    induction fuel with
    | zero => intro k b2 hk hR2 hK2 hm; exact absurd hm (Nat.not_lt_zero _)
    | succ fuel ih24 =>
      intro k b2 hk hR2 hK2 hm
      refine V_iload C dX4_give_24 rfl ?_
      refine V_aload_n C dX4_give_26 rfl ?_
      refine gt_X4_offers C fk_X4_73 dX4_give_27 ?_
      refine V_topi (hR2.c4.trans ((gvA_hi (Or.inr (by omega))).trans ((up2_o (by omega)).trans ((up2_o (by omega)).trans hW.oe)))) ?_
      refine V_lt C 56 dX4_give_30 (by decide) (by omega) (by omega) (fun h30 => ?_) (fun h30 => ?_)
      · have e9 : k = nO q := by omega
        subst e9
        exact V_vret C hr dX4_give_56 ⟨rfl, hR2, hK2⟩
      · refine V_aload_n C dX4_give_33 rfl ?_
        refine V_iload C dX4_give_34 rfl ?_
        refine V_iload_n C dX4_give_36 rfl ?_
        refine V_callf (R_V C (c_X4_isLike hfl (gvK_W hW hi (by omega)) hR2 (by omega) hi) mi_X4_isLike mk_X4_116 rfl (by omega) rfl (rfl : vwCl[6]? = some (RX4, TX4, 24)) (by decide) rfl (Nat.le_of_ble_eq_true rfl) (by decide) dX4_give_37) ?_
        rw [gvK_like hi (by omega)]
        refine V_ifb_eq C 50 dX4_give_40 (by decide) (fun h40 => ?_) (fun h40 => ?_)
        · refine V_iinc_4 C _ dX4_give_50 (nI_1 _) (by decide) ?_
          refine V_goto C 24 dX4_give_53 (by decide) ?_
          first
            | (have hR3 := hR2.lv (p := nI p) (show k < 12 by omega) (gvK_W hW hi (by omega)).ql2
               rw [gvK_q.2.1, gvK_t h40] at hR3
               exact ih24 (k + 1) _ (by omega) hR3 (hK2.tr KP.lv) (by omega))
            | (rw [gvK_f h40] at hR2
               exact ih24 (k + 1) _ (by omega) hR2 hK2 (by omega))
        · refine V_aload_n C dX4_give_43 rfl ?_
          refine V_iload_n C dX4_give_44 rfl ?_
          refine V_iload C dX4_give_45 rfl ?_
          refine V_callfv (R_V C (c_X4_leave hfl (gvK_W hW hi (by omega)) hR2 (by omega) (by rw [gvK_q.2.1, gvK_q.2.2]; intro j1 j2 g1 g2; rw [gvK_q.1, gvK_q.1]; exact hI.qd k (by omega) j1 j2 g1 g2)) mi_X4_leave mk_X4_132 rfl (by omega) rfl (rfl : vwCl[6]? = some (RX4, TX4, 24)) (by decide) rfl (Nat.le_of_ble_eq_true rfl) (by decide) dX4_give_47) ?_
          refine V_iinc_4 C _ dX4_give_50 (nI_1 _) (by decide) ?_
          refine V_goto C 24 dX4_give_53 (by decide) ?_
          first
            | (have hR3 := hR2.lv (p := nI p) (show k < 12 by omega) (gvK_W hW hi (by omega)).ql2
               rw [gvK_q.2.1, gvK_t h40] at hR3
               exact ih24 (k + 1) _ (by omega) hR3 (hK2.tr KP.lv) (by omega))
            | (rw [gvK_f h40] at hR2
               exact ih24 (k + 1) _ (by omega) hR2 hK2 (by omega))
  exact L24 _ 0 _ (Nat.zero_le _) (by rw [show gvK q i p V 0 = gv1 q i p V from gvA_0]; exact (hR.pts hp).paid hp hi) ((KP.up (by omega)).tr (KP.up (by omega))) (Nat.lt_succ_self _)
set_option maxHeartbeats 4000000 in
set_option maxRecDepth 100000 in
theorem c_X4_movesUp {l : Launch} {x : Sh} {a b : Mem} {o : Out} (hfl : l.stackTraces = false) {q : Mem} (hW : WC q) (hI : IQ q) (hR : RR q b) {i : Nat} (hi : i < nO q) : MG l x yX4_movesUp cX4_movesUp 4 (some .int) 5 240 [.ref (x.2.1 70), .int (nI i)] a b o (QI x o (fun r a2 b2 => r = muF q i ∧ a2 = a ∧ RR (muA q i) b2 ∧ KP b b2)) := by
  refine MG.of (maxL := 4) (ret := (some .int)) hfl (by decide) [some (.ref (x.2.1 70)), some (.int (nI i)), none, none] rfl rfl (Nat.le_of_ble_eq_true rfl) ?_
  intro pP eE sS mM argsA belowB methM cC C hr
  have ho12 := hW.ol
  have hi2 : i < 12 := by omega
  have hs5 := hW.sll hi2
  have hq10 := hW.ql hi2
  refine V_aload_n C dX4_movesUp_0 rfl ?_
  refine gt_X4_isSat C fk_X4_53 dX4_movesUp_1 ?_
  refine V_aload_n C dX4_movesUp_4 rfl ?_
  refine gt_X4_slot C fk_X4_16 dX4_movesUp_5 ?_
  refine V_iload_n C dX4_movesUp_8 rfl ?_
  refine la_m_slot C _ rfl (by omega) dX4_movesUp_9 ?_
  refine V_topi ((hR.sl hi2).trans (hW.sle hi2)) ?_
  refine la_m_isSat C _ rfl (by omega) dX4_movesUp_10 ?_
  refine V_topi (hR.sat (by omega)) ?_
  refine V_if_ne C 22 dX4_movesUp_11 (by decide) (fun h11 => ?_) (fun h11 => ?_)
  · have h11 : clB q i = true := decide_eq_true h11
    refine V_iconst (v := -1) C dX4_movesUp_22 (by decide) ?_
    exact V_ireti C hr dX4_movesUp_23 (by
      first
        | exact ⟨(mu_cl h11).1.symm, rfl, by rw [(mu_cl h11).2]; exact hR, KP.rf⟩
        | exact ⟨(mu_full h19).1.symm, rfl, by rw [(mu_full h19).2]; exact hR, KP.rf⟩
        | exact ⟨(mu_none h0).1.symm, rfl, by rw [(mu_none h0).2]; exact hR, KP.rf⟩
        | exact ⟨by rw [(mu_at h19 hk3 hm h0).1]; exact (hW.wte hi2 hk3).symm, rfl, by rw [(mu_at h19 hk3 hm h0).2]; exact hR2, hK2⟩)
  · have h11 : clB q i = false := decide_eq_false (fun z => z h11)
    refine V_aload_n C dX4_movesUp_14 rfl ?_
    refine V_iload_n C dX4_movesUp_15 rfl ?_
    refine V_callf (R_V C (c_X4_hasSeat hfl hW hI hR hi) mi_X4_hasSeat mk_X4_146 rfl (by omega) rfl (rfl : vwCl[6]? = some (RX4, TX4, 24)) (by decide) rfl (Nat.le_of_ble_eq_true rfl) (by decide) dX4_movesUp_16) ?_
    refine V_ifb_ne C 24 dX4_movesUp_19 (by decide) (fun h19 => ?_) (fun h19 => ?_)
    · have h19 : isFullB q i = false := by simpa using h19
      refine V_iconst (v := nI 0) C dX4_movesUp_24 (by decide) ?_
      refine V_istore_n2 C dX4_movesUp_25 (by decide) ?_
      have L26 : ∀ (fuel : Nat) (k : Nat), k ≤ qW q i → (∀ j, j < k → muK q i j = false) → qW q i - k < fuel → VV pP l eE ({ frames := 5, cells := 0, slots := 0, locals := 240 } : Room) sS mM argsA belowB methM cC (MQ belowB (QI x o (fun r a2 b2 => r = muF q i ∧ a2 = a ∧ RR (muA q i) b2 ∧ KP b b2) sS.heap.size) argsA sS 0 0 (AW x sS.heap.size)) x 4 a b o 0 0 26 [some (.ref (x.2.1 70)), some (.int (nI i)), some (.int (nI k)), none] [] := by
        intro fuel
        induction fuel with
        | zero => intro k hk h0 hm; exact absurd hm (Nat.not_lt_zero _)
        | succ fuel ih26 =>
          intro k hk h0 hm
          refine V_iload_n C dX4_movesUp_26 rfl ?_
          refine V_aload_n C dX4_movesUp_27 rfl ?_
          refine gt_X4_waiting C fk_X4_26 dX4_movesUp_28 ?_
          refine V_iload_n C dX4_movesUp_31 rfl ?_
          refine la_m_waiting C _ rfl (by omega) dX4_movesUp_32 ?_
          refine V_topi ((hR.qw hi2).trans (hW.qe hi2)) ?_
          refine V_lt C 72 dX4_movesUp_33 (by decide) (by omega) (by omega) (fun h33 => ?_) (fun h33 => ?_)
          · have e9 : k = qW q i := by omega
            subst e9
            refine V_iload_n C dX4_movesUp_72 rfl ?_
            refine V_aload_n C dX4_movesUp_73 rfl ?_
            refine gt_X4_waiting C fk_X4_26 dX4_movesUp_74 ?_
            refine V_iload_n C dX4_movesUp_77 rfl ?_
            refine la_m_waiting C _ rfl (by omega) dX4_movesUp_78 ?_
            refine V_topi ((hR.qw hi2).trans (hW.qe hi2)) ?_
            refine V_icmp_ne C 84 dX4_movesUp_79 (by decide) (fun h79 => ?_) (fun h79 => ?_)
            · exact absurd rfl h79
            · refine V_iconst (v := -1) C dX4_movesUp_82 (by decide) ?_
              exact V_ireti C hr dX4_movesUp_83 (by
                first
                  | exact ⟨(mu_cl h11).1.symm, rfl, by rw [(mu_cl h11).2]; exact hR, KP.rf⟩
                  | exact ⟨(mu_full h19).1.symm, rfl, by rw [(mu_full h19).2]; exact hR, KP.rf⟩
                  | exact ⟨(mu_none h0).1.symm, rfl, by rw [(mu_none h0).2]; exact hR, KP.rf⟩
                  | exact ⟨by rw [(mu_at h19 hk3 hm h0).1]; exact (hW.wte hi2 hk3).symm, rfl, by rw [(mu_at h19 hk3 hm h0).2]; exact hR2, hK2⟩)
          · refine V_aload_n C dX4_movesUp_36 rfl ?_
            refine V_aload_n C dX4_movesUp_37 rfl ?_
            refine gt_X4_waiter C fk_X4_29 dX4_movesUp_38 ?_
            refine V_bipush (v := nI 10) C dX4_movesUp_41 (by decide) ?_
            refine V_iload_n C dX4_movesUp_43 rfl ?_
            refine V_imul C dX4_movesUp_44 ?_
            refine V_topi (pk_mul _ _) ?_
            refine V_iload_n C dX4_movesUp_45 rfl ?_
            refine V_iadd C dX4_movesUp_46 ?_
            refine V_topi (nI_add _ _) ?_
            refine la_m_waiter C _ rfl (by omega) dX4_movesUp_47 ?_
            refine V_topi ((hR.wt hi2 (by omega)).trans (hW.wte hi2 h33)) ?_
            refine V_iload_n C dX4_movesUp_48 rfl ?_
            refine V_aload_n C dX4_movesUp_49 rfl ?_
            refine gt_X4_waits C fk_X4_32 dX4_movesUp_50 ?_
            refine V_bipush (v := nI 10) C dX4_movesUp_53 (by decide) ?_
            refine V_iload_n C dX4_movesUp_55 rfl ?_
            refine V_imul C dX4_movesUp_56 ?_
            refine V_topi (pk_mul _ _) ?_
            refine V_iload_n C dX4_movesUp_57 rfl ?_
            refine V_iadd C dX4_movesUp_58 ?_
            refine V_topi (nI_add _ _) ?_
            refine la_m_waits C _ rfl (by omega) dX4_movesUp_59 ?_
            refine V_topi (hR.wp hi2 (by omega)) ?_
            refine V_callf (R_V C (c_X4_does hfl hW hI hR (p := wtN q i k) (by have := hW.wtl hi2 h33; omega) hi2) mi_X4_does mk_X4_143 rfl (by omega) rfl (rfl : vwCl[6]? = some (RX4, TX4, 24)) (by decide) rfl (Nat.le_of_ble_eq_true rfl) (by decide) dX4_movesUp_60) ?_
            refine V_ifb_ne C 72 dX4_movesUp_63 (by decide) (fun h63 => ?_) (fun h63 => ?_)
            · have hk3 := h33
              have hm : muK q i k = true := by unfold muK; rw [nos_e, h11, h63]; rfl
              refine V_iload_n C dX4_movesUp_72 rfl ?_
              refine V_aload_n C dX4_movesUp_73 rfl ?_
              refine gt_X4_waiting C fk_X4_26 dX4_movesUp_74 ?_
              refine V_iload_n C dX4_movesUp_77 rfl ?_
              refine la_m_waiting C _ rfl (by omega) dX4_movesUp_78 ?_
              refine V_topi ((hR.qw hi2).trans (hW.qe hi2)) ?_
              refine V_icmp_ne C 84 dX4_movesUp_79 (by decide) (fun h79 => ?_) (fun h79 => ?_)
              · refine V_aload_n C dX4_movesUp_84 rfl ?_
                refine gt_X4_waiter C fk_X4_29 dX4_movesUp_85 ?_
                refine V_bipush (v := nI 10) C dX4_movesUp_88 (by decide) ?_
                refine V_iload_n C dX4_movesUp_90 rfl ?_
                refine V_imul C dX4_movesUp_91 ?_
                refine V_topi (pk_mul _ _) ?_
                refine V_iload_n C dX4_movesUp_92 rfl ?_
                refine V_iadd C dX4_movesUp_93 ?_
                refine V_topi (nI_add _ _) ?_
                refine la_m_waiter C _ rfl (by omega) dX4_movesUp_94 ?_
                refine V_topi ((hR.wt hi2 (by omega)).trans (hW.wte hi2 hk3)) ?_
                refine V_istore_n3 C dX4_movesUp_95 (by decide) ?_
                refine V_aload_n C dX4_movesUp_96 rfl ?_
                refine V_iload_n C dX4_movesUp_97 rfl ?_
                refine V_iload_n C dX4_movesUp_98 rfl ?_
                refine V_aload_n C dX4_movesUp_99 rfl ?_
                refine gt_X4_waits C fk_X4_32 dX4_movesUp_100 ?_
                refine V_bipush (v := nI 10) C dX4_movesUp_103 (by decide) ?_
                refine V_iload_n C dX4_movesUp_105 rfl ?_
                refine V_imul C dX4_movesUp_106 ?_
                refine V_topi (pk_mul _ _) ?_
                refine V_iload_n C dX4_movesUp_107 rfl ?_
                refine V_iadd C dX4_movesUp_108 ?_
                refine V_topi (nI_add _ _) ?_
                refine la_m_waits C _ rfl (by omega) dX4_movesUp_109 ?_
                refine V_topi (hR.wp hi2 (by omega)) ?_
                refine V_callv (R_V C (c_X4_give hfl hW hI hR (p := wtN q i k) (by have := hW.wtl hi2 hk3; omega) hi2) mi_X4_give mk_X4_149 rfl (by omega) rfl (rfl : vwCl[6]? = some (RX4, TX4, 24)) (by decide) rfl (Nat.le_of_ble_eq_true rfl) (by decide) dX4_movesUp_110) (fun a2 b2 hh => ?_)
                obtain ⟨rfl, hR2, hK2⟩ := hh
                refine V_iload_n C dX4_movesUp_113 rfl ?_
                exact V_ireti C hr dX4_movesUp_114 (by
                  first
                    | exact ⟨(mu_cl h11).1.symm, rfl, by rw [(mu_cl h11).2]; exact hR, KP.rf⟩
                    | exact ⟨(mu_full h19).1.symm, rfl, by rw [(mu_full h19).2]; exact hR, KP.rf⟩
                    | exact ⟨(mu_none h0).1.symm, rfl, by rw [(mu_none h0).2]; exact hR, KP.rf⟩
                    | exact ⟨by rw [(mu_at h19 hk3 hm h0).1]; exact (hW.wte hi2 hk3).symm, rfl, by rw [(mu_at h19 hk3 hm h0).2]; exact hR2, hK2⟩)
              · exact absurd ((nI_eq (by omega) (by omega)).mp h79) (by omega)
            · refine V_iinc_2 C _ dX4_movesUp_66 (nI_1 _) (by decide) ?_
              refine V_goto C 26 dX4_movesUp_69 (by decide) ?_
              exact ih26 (k + 1) (by omega) (fun j hj => by
                by_cases e : j = k
                · subst e; unfold muK; rw [nos_e, h63, Bool.and_false]
                · exact h0 j (by omega)) (by omega)
      exact L26 _ 0 (Nat.zero_le _) (fun j hj => absurd hj (by omega)) (Nat.lt_succ_self _)
    · have h19 : isFullB q i = true := by simpa using h19
      refine V_iconst (v := -1) C dX4_movesUp_22 (by decide) ?_
      exact V_ireti C hr dX4_movesUp_23 (by
        first
          | exact ⟨(mu_cl h11).1.symm, rfl, by rw [(mu_cl h11).2]; exact hR, KP.rf⟩
          | exact ⟨(mu_full h19).1.symm, rfl, by rw [(mu_full h19).2]; exact hR, KP.rf⟩
          | exact ⟨(mu_none h0).1.symm, rfl, by rw [(mu_none h0).2]; exact hR, KP.rf⟩
          | exact ⟨by rw [(mu_at h19 hk3 hm h0).1]; exact (hW.wte hi2 hk3).symm, rfl, by rw [(mu_at h19 hk3 hm h0).2]; exact hR2, hK2⟩)
