/-! settle -/
/-- the cells that a seat hangs on are alike -/
def EQ0 (q q' : Mem) : Prop := (∀ c, c ≠ 0 → q' c = q c) ∧ q' 0 10 = q 0 10
theorem e0_hs {q q' : Mem} (h : EQ0 q q') (i p : Nat) : hs q' i p = hs q i p := by
  unfold hs
  rw [h.1 _ (by omega)]
theorem e0_is {q q' : Mem} (h : EQ0 q q') (i : Nat) (ex z : Int32) : isOfB q' i ex z = isOfB q i ex z := by
  unfold isOfB
  rw [h.1 (18 + 4 * i) (by omega)]
theorem e0_ag {q q' : Mem} (h : EQ0 q q') (f c : Nat) : agB q' f c = agB q f c := by
  unfold agB
  rw [anyN_congr (f := agN q' f c) (g := agN q f c) (fun j hj => by unfold agN; rw [h.1 _ (by omega), h.1 (3 + (0 * 3 + f)) (by omega)])]
theorem e0_rg {q q' : Mem} (h : EQ0 q q') (p e : Nat) : rgB q' p e = rgB q p e := by
  unfold rgB
  rw [e0_ag h, h.1 3 (by decide)]
theorem e0_ro {q q' : Mem} (h : EQ0 q q') (p e : Nat) : roB q' p e = roB q p e := by
  unfold roB
  rw [e0_ag h, h.1 4 (by decide)]
theorem e0_O {q q' : Mem} (h : EQ0 q q') : nO q' = nO q := congrArg tn h.2
theorem e0_ex {q q' : Mem} (h : EQ0 q q') (i : Nat) : exN q' i = exN q i := congrArg tn (congrFun (h.1 _ (by omega)) _)
theorem e0_cl {q q' : Mem} (h : EQ0 q q') (i : Nat) : clB q' i = clB q i := by
  have e : sl q' i = sl q i := congrArg tn (congrFun (h.1 _ (by omega)) _)
  unfold clB
  rw [h.1 69 (by decide), e]
theorem e0_may {q q' : Mem} (h : EQ0 q q') (i p : Nat) : mayB q' i p = mayB q i p := by
  have e : ow q' 1 = ow q 1 := congrArg tn (congrFun (h.1 12 (by decide)) _)
  unfold mayB
  rw [e0_rg h, e0_ro h, e0_ex h, e, h.1 (18 + 4 * i) (by omega), h.1 (3 + (ow q 1 * 3 + 1)) (by omega)]
theorem e0_nos {q q' : Mem} (h : EQ0 q q') (i p : Nat) (V : Int32) : nos q' i p V = nos q i p V := by
  have e1 : ∀ ex z, hfB q' p ex z = hfB q p ex z := fun ex z => funext fun k => by unfold hfB; rw [e0_is h, e0_hs h]
  have e2 : ∀ s, haB q' p s = haB q p s := fun s => funext fun k => by unfold haB; rw [e0_hs h, h.1 (18 + 4 * k) (by omega)]
  unfold nos
  rw [e0_cl h, e0_may h, e1, e2, e0_O h, h.1 67 (by decide), h.1 (18 + 4 * i) (by omega)]
theorem e0_full {q q' : Mem} (h : EQ0 q q') (i : Nat) : isFullB q' i = isFullB q i := by
  unfold isFullB nTaken
  rw [cntN_congr (f := hs q' i) (g := hs q i) (fun p _ => e0_hs h i p), h.1 (18 + 4 * i) (by omega)]
theorem e0_qAt {q q' : Mem} (h : EQ0 q q') (i : Nat) (p : Int32) : qAt q' i p = qAt q i p := funext fun k => by unfold qAt; rw [h.1 (18 + 4 * i + 2) (by omega)]
theorem e0_qW {q q' : Mem} (h : EQ0 q q') (i : Nat) : qW q' i = qW q i := congrArg tn (congrFun (h.1 (18 + 4 * i) (by omega)) 8)
theorem e0_no {q q' : Mem} (h : EQ0 q q') (i w : Nat) (p : Int32) {c : Nat} (hc : c ≠ 0) : noMore q' i p w c = noMore q i p w c := by
  unfold noMore
  rw [e0_qAt h]
  split
  · funext j
    unfold delK
    rw [h.1 c hc]
  · exact h.1 c hc
theorem e0_up {q q' : Mem} (h : EQ0 q q') {c k : Nat} {v : Int32} (hc : c ≠ 0) : EQ0 (up2 q c k v) (up2 q' c k v) := by
  refine ⟨fun d hd => funext fun j => ?_, ?_⟩
  · simp only [up2]
    rw [h.1 d hd]
  · rw [up2_o (by omega), up2_o (by omega)]
    exact h.2
theorem e0_gv {q q' : Mem} (h : EQ0 q q') {ex z p : Int32} {n : Nat} : EQ0 (gvA q ex z p n) (gvA q' ex z p n) := by
  refine ⟨fun c hc => funext fun k => ?_, ?_⟩
  · unfold gvA
    rw [e0_is h, e0_no h _ _ _ hc, e0_qW h, h.1 c hc]
  · rw [gvA_hi (by omega), gvA_hi (by omega)]
    exact h.2
theorem e0_give {q q' : Mem} (h : EQ0 q q') (i p : Nat) (V : Int32) : EQ0 (giveA q i p V) (giveA q' i p V) := by
  have h1 : EQ0 (gv1 q i p V) (gv1 q' i p V) := by
    unfold gv1
    rw [h.1 67 (by decide)]
    exact e0_up (e0_up h (by decide)) (by omega)
  show EQ0 (gvA (gv1 q i p V) (q (18 + 4 * i) 0) (q (18 + 4 * i) 4) (nI p) (nO q)) (gvA (gv1 q' i p V) (q' (18 + 4 * i) 0) (q' (18 + 4 * i) 4) (nI p) (nO q'))
  rw [h.1 (18 + 4 * i) (by omega), e0_O h]
  exact e0_gv h1
theorem e0_let {q q' : Mem} (h : EQ0 q q') (i : Nat) (p V : Int32) (w : Nat) : EQ0 (letW q i p V w) (letW q' i p V w) := by
  unfold letW
  rw [e0_qAt h]
  split
  · exact h
  · exact e0_up (e0_up (e0_up h (by omega)) (by omega)) (by omega)
theorem e0_won {q q' : Mem} (h : EQ0 q q') (i p : Nat) (V : Int32) : EQ0 (wonA q p i V) (wonA q' p i V) := by
  unfold wonA
  rw [e0_nos h, e0_full h, e0_qW h]
  split
  · split
    · exact e0_let h _ _ _ _
    · exact e0_give h _ _ _
  · exact h
theorem won_0 {q : Mem} {i p : Nat} {V : Int32} : wonA q p i V 0 = q 0 := by
  unfold wonA letW giveA
  funext k
  split
  · split
    · split
      · rfl
      · rw [up2_o (by omega), up2_o (by omega), up2_o (by omega)]
    · rw [gvA_hi (by omega), up2_o (by omega), up2_o (by omega)]
  · rfl
theorem st_0 {q : Mem} : ∀ n, stK q n 0 = q 0 := by
  intro n
  induction n with
  | zero => rfl
  | succ n ih => rw [stK, won_0, ih]
abbrev sR (q : Mem) : Mem := up2 q 0 11 (q 0 11 + 1)
theorem sR_e {q : Mem} : EQ0 q (sR q) := ⟨fun c hc => up2_ne hc, up2_o (by omega)⟩
theorem sR_st {q : Mem} : ∀ n, EQ0 (stK q n) (stK (sR q) n) := by
  intro n
  induction n with
  | zero => exact sR_e
  | succ n ih =>
    have e1 : bpN (sR q) n = bpN q n := rfl
    have e2 : boN (sR q) n = boN q n := rfl
    rw [stK, stK, e1, e2, show sR q 16 n = q 16 n from rfl]
    exact e0_won ih _ _ _
theorem sR_cnt {q : Mem} : ∀ n, stC (sR q) n = stC q n := by
  intro n
  induction n with
  | zero => rfl
  | succ n ih =>
    have e1 : bpN (sR q) n = bpN q n := rfl
    have e2 : boN (sR q) n = boN q n := rfl
    rw [stC, stC, ih, e1, e2, show sR q 16 n = q 16 n from rfl, e0_nos (sR_st n), e0_full (sR_st n)]
theorem sR_end {q : Mem} (n : Nat) : up2 (stK (sR q) n) 13 3 0 = up2 (up2 (stK q n) 13 3 0) 0 11 (q 0 11 + 1) := by
  funext c k
  by_cases h : c = 0
  · subst h
    rw [up2_o (by omega), st_0]
    by_cases g : k = 11
    · subst g
      rw [up2_s]
      exact up2_s
    · rw [up2_o (by omega), up2_o (by omega), st_0]
      exact up2_o (Or.inr g)
  · rw [up2_o (k := 0) (by omega)]
    simp only [up2]
    rw [(sR_st n).1 c h]
theorem RR.sr {q b : Mem} (h : RR q b) : RR (sR q) (up2 b 70 5 (b 70 5 + 1)) := by
  obtain ⟨r1, r2, r3, r4, r5, r6, r7, r8, r9, r10, r11, r12, r13, r14, r15, r16, r17, r18, r19⟩ := h
  refine ⟨?_, ?_, ?_, ?_, ?_, ?_, ?_, ?_, ?_, ?_, ?_, ?_, ?_, ?_, ?_, ?_, ?_, ?_, ?_⟩ <;> (simp only [up2]; grind)
theorem RR.b13 {q b : Mem} (h : RR q b) {v : Int32} : RR (up2 q 13 3 v) b := by
  obtain ⟨r1, r2, r3, r4, r5, r6, r7, r8, r9, r10, r11, r12, r13, r14, r15, r16, r17, r18, r19⟩ := h
  refine ⟨?_, ?_, ?_, ?_, ?_, ?_, ?_, ?_, ?_, ?_, ?_, ?_, ?_, ?_, ?_, ?_, ?_, ?_, ?_⟩ <;> (simp only [up2]; grind)
theorem RR.bd {q b : Mem} (h : RR q b) {m : Nat} {v : Int32} : RR q (up2 b 79 m v) := h
theorem RR.wait {q b : Mem} (h : RR q b) {i w : Nat} {p V : Int32} (hi : i < 12) (hw : w < 10) : RR (up2 (up2 (up2 q (18 + 4 * i + 2) w p) (18 + 4 * i + 3) w V) (18 + 4 * i) 8 (nI (w + 1))) (up2 (up2 (up2 b 77 (10 * i + w) p) 78 (10 * i + w) V) 76 i (nI (w + 1))) := by
  obtain ⟨r1, r2, r3, r4, r5, r6, r7, r8, r9, r10, r11, r12, r13, r14, r15, r16, r17, r18, r19⟩ := h
  refine ⟨?_, ?_, ?_, ?_, ?_, ?_, ?_, ?_, ?_, ?_, ?_, ?_, ?_, ?_, ?_, ?_, ?_, ?_, ?_⟩ <;> (simp only [up2]; grind)
theorem IQ.sr {q : Mem} (hW : WC q) (hI : IQ q) : IQ (sR q) :=
  hI.seat hW (fun c k h1 h2 h3 h4 => up2_o (by omega)) (fun i p hi hp h => by
    rw [e0_hs sR_e] at h
    rw [sR_e.1 _ (by omega)]
    exact ⟨h, hI.pv i p hi hp h⟩) (fun p h1 h2 => (hI.pb p h1 h2).2) (fun p hp => pw_same rfl rfl rfl (fun j hj => up2_o (by omega)) (hI.pw p hp))
theorem WC.sr {q : Mem} (hW : WC q) : WC (sR q) := hW.congr (fun c k h1 h2 h3 h4 => up2_o (by omega))
theorem IQ.st {q : Mem} (hW : WC q) (hI : IQ q) : ∀ n, n ≤ bW q → IQ (stK q n) := by
  intro n
  induction n with
  | zero => intro _; exact hI
  | succ n ih =>
    intro hn
    rw [stK]
    obtain ⟨h1, h2, h3⟩ := hI.bp n (by omega)
    have e0 : nO (stK q n) = nO q := congrArg tn (congrFun (st_0 n) 10)
    have e1 : nP (stK q n) = nP q := congrArg tn (congrFun (st_0 n) 9)
    exact (ih (by omega)).won (stK_all hW n (by omega)).1 (by omega) (by omega) h3
theorem dv12 : ∀ x, x < 120 → nI x / 12 = nI (x / 12) ∧ nI x - nI x / 12 * 12 = nI (x % 12) := by decide +kernel
theorem ix_dv {q : Mem} (hW : WC q) {n : Nat} (h : n < bW q) : nI (ixN q n) / 12 = nI (bpN q n) ∧ nI (ixN q n) - nI (ixN q n) / 12 * 12 = nI (boN q n) := by
  have h1 := dv12 (ixN q n) (ix_lt hW h)
  have h2 := hW.bol h
  have e : ixN q n = bpN q n * 12 + boN q n := rfl
  have e1 : ixN q n / 12 = bpN q n := by omega
  have e2 : ixN q n % 12 = boN q n := by omega
  rw [e1, e2] at h1
  exact h1
theorem BB.step {q b : Mem} {n T : Nat} (h : BB q b n T) (hW : WC q) (hI : IQ q) (hn : n < bW q) : BB q (up2 b 79 (ixN q n) 0) (n + 1) T := by
  refine ⟨h.1, fun j h1 h2 => ?_, fun m hm h1 => ?_, h.2.2.2.1, h.2.2.2.2⟩
  · rw [up2_o (Or.inr (fun z => by have := ix_inj hW hI h2 hn z; omega))]
    exact h.bv (by omega) h2
  · by_cases e : m = ixN q n
    · subst e; exact up2_s
    · rw [up2_o (Or.inr e)]
      refine h.bz hm (fun j a1 a2 a3 => ?_)
      by_cases e2 : j = n
      · subst e2; exact e a3.symm
      · exact h1 j (by omega) a2 a3
theorem BB.kp {q b b' : Mem} {n T : Nat} (h : BB q b n T) (k : KQ b b') : BB q b' n T := by
  obtain ⟨k1, k2, k3, k4⟩ := k
  obtain ⟨h1, h2, h3, h4, h5⟩ := h
  unfold BB
  simp only [k1, k2, k4]
  exact ⟨h1, h2, h3, h4, h5⟩
/-- a queue without p holds nine at most -/
theorem q_nine {q : Mem} (hW : WC q) (hI : IQ q) {i p : Nat} (hi : i < 12) (hp : p < 10) (h : ¬ firN (qAt q i (nI p)) (qW q i) < qW q i) : qW q i < 10 := by
  have hq := hW.ql hi
  have hne : ∀ k, k < qW q i → wtN q i k ≠ p := fun k hk z => h (firN_any.mpr (anyN_t hk (decide_eq_true (by rw [hW.wte hi hk, z]))))
  have hdi : ∀ j k, j < k → k < qW q i → wtN q i j ≠ wtN q i k := fun j k h1 h2 z => hI.qd i hi j k h1 h2 (by rw [hW.wte hi (by omega), hW.wte hi h2, z])
  have h1 := cnt_inj (g := fun j => if j < qW q i then wtN q i j else p) (N := 10) (qW q i + 1) (fun j hj => by
    try dsimp only
    split
    · rename_i g; have := hW.wtl hi g; omega
    · exact hp) (fun j k hj hk z => by
    try dsimp only at z
    by_cases g1 : j < qW q i
    · rw [if_pos g1] at z
      by_cases g2 : k < qW q i
      · rw [if_pos g2] at z
        rcases Nat.lt_trichotomy j k with l | l | l
        · exact absurd z (hdi j k l g2)
        · exact l
        · exact absurd z.symm (hdi k j l g1)
      · rw [if_neg g2] at z
        exact absurd z (hne j g1)
    · rw [if_neg g1] at z
      by_cases g2 : k < qW q i
      · rw [if_pos g2] at z
        exact absurd z.symm (hne k g2)
      · omega)
  have h2 := cntN_le (fun m => anyN (fun j => decide ((if j < qW q i then wtN q i j else p) = m)) (qW q i + 1)) 10
  omega

set_option maxHeartbeats 4000000 in
set_option maxRecDepth 100000 in
theorem c_X4_settle {l : Launch} {x : Sh} {a b : Mem} {o : Out} (hfl : l.stackTraces = false) {q : Mem} (hW : WC q) (hI : IQ q) (hR : RR q b) {T : Nat} (hB : BB q b 0 T) : MG l x yX4_settle cX4_settle 6 (some .int) 6 280 [.ref (x.2.1 70)] a b o (QI x o (fun r a2 b2 => a2 = a ∧ r = nI (stC q (bW q)) ∧ b2 70 0 = 0 ∧ RR (a3_settle q) b2 ∧ (∀ k, b2 86 k = b 86 k) ∧ b2 70 7 = b 70 7 ∧ ∀ m, m < 120 → b2 79 m = 0)) := by
  refine MG.of (maxL := 6) (ret := (some .int)) hfl (by decide) [some (.ref (x.2.1 70)), none, none, none, none, none] rfl rfl (Nat.le_of_ble_eq_true rfl) ?_
  intro pP eE sS mM argsA belowB methM cC C hr
  have hWq := hW.sr
  have hIq := hI.sr hW
  have hRq : RR (sR q) (up2 (up2 b 70 0 0) 70 5 (b 70 5 + 1)) := (hR.th (v := 0)).sr
  have hBq : BB (sR q) b 0 T := hB
  have hend := sR_end (q := q) (bW q)
  have hcnt2 : stC (sR q) (bW (sR q)) = stC q (bW q) := sR_cnt (q := q) (bW q)
  rw [show bW q = bW (sR q) from rfl] at hend
  have hfin : ∀ b2, RR (stK (sR q) (bW (sR q))) b2 → RR (a3_settle q) b2 := fun b2 h => by
    have h2 : RR (up2 (stK (sR q) (bW (sR q))) 13 3 0) b2 := h.b13
    rw [hend] at h2
    exact h2
  clear hend
  generalize sR q = Q at hWq hIq hRq hBq hfin hcnt2
  refine V_aload_n C dX4_settle_0 rfl ?_
  refine V_iconst (v := 0) C dX4_settle_1 (by decide) ?_
  refine pt_X4_thrown C fk_X4_59 dX4_settle_2 ?_
  refine V_aload_n C dX4_settle_5 rfl ?_
  refine V_dup C dX4_settle_6 rfl ?_
  refine gt_X4_rounds C fk_X4_136 dX4_settle_7 ?_
  refine V_iconst (v := 1) C dX4_settle_10 (by decide) ?_
  refine V_iadd C dX4_settle_11 ?_
  refine pt_X4_rounds C fk_X4_136 dX4_settle_12 ?_
  refine V_iconst (v := nI 0) C dX4_settle_15 (by decide) ?_
  refine V_istore_n1 C dX4_settle_16 (by decide) ?_
  refine V_aload_n C dX4_settle_17 rfl ?_
  refine V_callf (R_V C (c_X4_nextBid hfl hWq hIq (show BB Q (up2 (up2 b 70 0 0) 70 5 (b 70 5 + 1)) 0 T from hBq) (Nat.zero_le _)) mi_X4_nextBid mk_X4_139 rfl (by omega) rfl (rfl : vwCl[6]? = some (RX4, TX4, 24)) (by decide) rfl (Nat.le_of_ble_eq_true rfl) (by decide) dX4_settle_18) ?_
  refine V_istore_n2 C dX4_settle_21 (by decide) ?_
  have L22 : ∀ (fuel : Nat) (n : Nat) (b2 : Mem), n ≤ bW Q → RR (stK Q n) b2 → BB Q b2 n T → (∀ k, b2 86 k = b 86 k) → b2 70 0 = 0 → b2 70 7 = b 70 7 → bW Q - n < fuel → VV pP l eE ({ frames := 6, cells := 0, slots := 0, locals := 280 } : Room) sS mM argsA belowB methM cC (MQ belowB (QI x o (fun r a2 b2 => a2 = a ∧ r = nI (stC q (bW q)) ∧ b2 70 0 = 0 ∧ RR (a3_settle q) b2 ∧ (∀ k, b2 86 k = b 86 k) ∧ b2 70 7 = b 70 7 ∧ ∀ m, m < 120 → b2 79 m = 0) sS.heap.size) argsA sS 0 0 (AW x sS.heap.size)) x 6 a b2 o 0 0 22 [some (.ref (x.2.1 70)), some (.int (nI (stC Q n))), some (.int (if n < bW Q then nI (ixN Q n) else -1)), none, none, none] [] := by
    intro fuel
    induction fuel with
    | zero => intro n b2 hn hR2 hB2 h86x ht2 h72 hm; exact absurd hm (Nat.not_lt_zero _)
    | succ fuel ih22 =>
      intro n b2 hn hR2 hB2 h86x ht2 h72 hm
      refine V_iload_n C dX4_settle_22 rfl ?_
      refine V_iconst (v := -1) C dX4_settle_23 (by decide) ?_
      refine V_icmp_eq C 173 dX4_settle_24 (by decide) (fun h24 => ?_) (fun h24 => ?_)
      · have e9 : n = bW Q := by
          apply Classical.byContradiction
          intro z
          rw [if_pos (by omega)] at h24
          have := ix_lt hWq (j := n) (by omega)
          exact nI_ne_m1 (by omega) h24
        subst e9
        refine V_iload_n C dX4_settle_173 rfl ?_
        exact V_ireti C hr dX4_settle_174 ⟨rfl, by rw [hcnt2], ht2, hfin _ hR2, h86x, h72, fun m hm9 => hB2.bz hm9 (fun j a1 a2 => by omega)⟩
      · have hn9 : n < bW Q := by
          apply Classical.byContradiction
          intro z
          exact h24 (if_neg z)
        rw [if_pos hn9]
        have hix := ix_lt hWq hn9
        have hp9 := hWq.bpl hn9
        have ho9 := hWq.bol hn9
        obtain ⟨hb1, hb2, hb3⟩ := hIq.bp n hn9
        have hWz := (stK_all hWq n (by omega)).1
        have hIz := hIq.st hWq n (by omega)
        have hoz : boN Q n < nO (stK Q n) := by rw [show nO (stK Q n) = nO Q from congrArg tn (congrFun (st_0 n) 10)]; exact hb2
        have hs5 := hWz.sll (i := boN Q n) (by omega)
        have hR3 : RR (stK Q n) (up2 b2 79 (ixN Q n) 0) := hR2
        have hB3 := hB2.step hWq hIq hn9
        refine V_iload_n C dX4_settle_27 rfl ?_
        refine V_bipush (v := 12) C dX4_settle_28 (by decide) ?_
        refine V_idiv C dX4_settle_30 (by decide) ?_
        refine V_topi (ix_dv hWq hn9).1 ?_
        refine V_istore_n3 C dX4_settle_31 (by decide) ?_
        refine V_iload_n C dX4_settle_32 rfl ?_
        refine V_bipush (v := 12) C dX4_settle_33 (by decide) ?_
        refine V_irem C dX4_settle_35 (by decide) ?_
        refine V_topi (ix_dv hWq hn9).2 ?_
        refine V_istore_4 C dX4_settle_36 (by decide) ?_
        refine V_aload_n C dX4_settle_38 rfl ?_
        refine gt_X4_bid C fk_X4_35 dX4_settle_39 ?_
        refine V_iload_n C dX4_settle_42 rfl ?_
        refine la_m_bid C _ rfl (by omega) dX4_settle_43 ?_
        refine V_topi (hB2.bv (Nat.le_refl _) hn9) ?_
        refine V_istore_5 C dX4_settle_44 (by decide) ?_
        refine V_aload_n C dX4_settle_46 rfl ?_
        refine gt_X4_bid C fk_X4_35 dX4_settle_47 ?_
        refine V_iload_n C dX4_settle_50 rfl ?_
        refine V_iconst (v := 0) C dX4_settle_51 (by decide) ?_
        refine sa_m_bid C _ rfl (by omega) dX4_settle_52 ?_
        refine V_aload_n C dX4_settle_53 rfl ?_
        refine gt_X4_isSat C fk_X4_53 dX4_settle_54 ?_
        refine V_aload_n C dX4_settle_57 rfl ?_
        refine gt_X4_slot C fk_X4_16 dX4_settle_58 ?_
        refine V_iload C dX4_settle_61 rfl ?_
        refine la_m_slot C _ rfl (by omega) dX4_settle_63 ?_
        refine V_topi ((hR3.sl (by omega)).trans (hWz.sle (by omega))) ?_
        refine la_m_isSat C _ rfl (by omega) dX4_settle_64 ?_
        refine V_topi (hR3.sat (by omega)) ?_
        refine V_if_ne C 165 dX4_settle_65 (by decide) (fun h65 => ?_) (fun h65 => ?_)
        · have h65 : clB (stK Q n) (boN Q n) = true := decide_eq_true h65
          refine V_aload_n C dX4_settle_165 rfl ?_
          refine V_callf (R_V C (c_X4_nextBid hfl hWq hIq (by first | exact hB3 | exact hB3.kp hK4.kq) (by omega)) mi_X4_nextBid mk_X4_139 rfl (by omega) rfl (rfl : vwCl[6]? = some (RX4, TX4, 24)) (by decide) rfl (Nat.le_of_ble_eq_true rfl) (by decide) dX4_settle_166) ?_
          refine V_istore_n2 C dX4_settle_169 (by decide) ?_
          refine V_goto C 22 dX4_settle_170 (by decide) ?_
          refine V_forget (lvLe.same (lvLe.same (lvLe.same (lvLe.drop (lvLe.drop (lvLe.drop lvLe.nil)))))) ?_
          have e1 : stK Q (n + 1) = wonA (stK Q n) (bpN Q n) (boN Q n) (Q 16 n) := rfl
          have e2 : stC Q (n + 1) = stC Q n + (if (nos (stK Q n) (boN Q n) (bpN Q n) (Q 16 n) && !isFullB (stK Q n) (boN Q n)) = true then 1 else 0) := rfl
          rw [nos_e] at e2
          unfold wonA at e1
          rw [nos_e] at e1
          first
            | (have e1 : stK Q (n + 1) = stK Q n := by rw [e1, h65]; rfl
               have e2 : stC Q (n + 1) = stC Q n := by rw [e2, h65]; rfl
               have ih := ih22 (n + 1) (up2 b2 79 (ixN Q n) 0) (by omega) (by rw [e1]; exact hR3) hB3 h86x ht2 h72 (by omega)
               rw [e2] at ih
               exact ih)
            | (have e1 : stK Q (n + 1) = stK Q n := by rw [e1, h77, Bool.and_false]; rfl
               have e2 : stC Q (n + 1) = stC Q n := by rw [e2, h77, Bool.and_false]; rfl
               have ih := ih22 (n + 1) (up2 b2 79 (ixN Q n) 0) (by omega) (by rw [e1]; exact hR3) hB3 h86x ht2 h72 (by omega)
               rw [e2] at ih
               exact ih)
            | (have e1 : stK Q (n + 1) = giveA (stK Q n) (boN Q n) (bpN Q n) (Q 16 n) := by rw [e1, h65, h77, h86]; rfl
               have e2 : stC Q (n + 1) = stC Q n + 1 := by rw [e2, h65, h77, h86]; rfl
               have ih := ih22 (n + 1) b4 (by omega) (by rw [e1]; exact hR4) (hB3.kp hK4.kq) (fun k => (hK4.2.2.1 k).trans (h86x k)) (hK4.2.2.2.1.trans ht2) (hK4.2.2.2.2.trans h72) (by omega)
               rw [e2] at ih
               exact ih)
            | (have e1 : stK Q (n + 1) = stK Q n := by rw [e1, h65, h77, h86]; exact if_pos (Or.inl h112)
               have e2 : stC Q (n + 1) = stC Q n := by rw [e2, h65, h77, h86]; rfl
               have ih := ih22 (n + 1) (up2 b2 79 (ixN Q n) 0) (by omega) (by rw [e1]; exact hR3) hB3 h86x ht2 h72 (by omega)
               rw [e2] at ih
               exact ih)
            | (have e1 : stK Q (n + 1) = up2 (up2 (up2 (stK Q n) (18 + 4 * boN Q n + 2) (qW (stK Q n) (boN Q n)) (nI (bpN Q n))) (18 + 4 * boN Q n + 3) (qW (stK Q n) (boN Q n)) (Q 16 n)) (18 + 4 * boN Q n) 8 (nI (qW (stK Q n) (boN Q n) + 1)) := by rw [e1, h65, h77, h86]; exact if_neg (show ¬ (firN (qAt (stK Q n) (boN Q n) (nI (bpN Q n))) (qW (stK Q n) (boN Q n)) < qW (stK Q n) (boN Q n) ∨ 10 ≤ qW (stK Q n) (boN Q n)) by omega)
               have e2 : stC Q (n + 1) = stC Q n := by rw [e2, h65, h77, h86]; rfl
               have ih := ih22 (n + 1) (up2 (up2 (up2 (up2 b2 79 (ixN Q n) 0) 77 (10 * boN Q n + qW (stK Q n) (boN Q n)) (nI (bpN Q n))) 78 (10 * boN Q n + qW (stK Q n) (boN Q n)) (Q 16 n)) 76 (boN Q n) (nI (qW (stK Q n) (boN Q n) + 1))) (by omega) (by rw [e1]; exact hR3.wait (by omega) hq9) hB3 h86x ht2 h72 (by omega)
               rw [e2] at ih
               exact ih)
        · have h65 : clB (stK Q n) (boN Q n) = false := decide_eq_false (fun z => z h65)
          refine V_aload_n C dX4_settle_68 rfl ?_
          refine V_iload_n C dX4_settle_69 rfl ?_
          refine V_iload C dX4_settle_70 rfl ?_
          refine V_iload C dX4_settle_72 rfl ?_
          refine V_callf (R_V C (c_X4_does hfl hWz hIz hR3 (p := bpN Q n) (i := boN Q n) (by omega) (by omega)) mi_X4_does mk_X4_143 rfl (by omega) rfl (rfl : vwCl[6]? = some (RX4, TX4, 24)) (by decide) rfl (Nat.le_of_ble_eq_true rfl) (by decide) dX4_settle_74) ?_
          refine V_ifb_eq C 165 dX4_settle_77 (by decide) (fun h77 => ?_) (fun h77 => ?_)
          · refine V_aload_n C dX4_settle_165 rfl ?_
            refine V_callf (R_V C (c_X4_nextBid hfl hWq hIq (by first | exact hB3 | exact hB3.kp hK4.kq) (by omega)) mi_X4_nextBid mk_X4_139 rfl (by omega) rfl (rfl : vwCl[6]? = some (RX4, TX4, 24)) (by decide) rfl (Nat.le_of_ble_eq_true rfl) (by decide) dX4_settle_166) ?_
            refine V_istore_n2 C dX4_settle_169 (by decide) ?_
            refine V_goto C 22 dX4_settle_170 (by decide) ?_
            refine V_forget (lvLe.same (lvLe.same (lvLe.same (lvLe.drop (lvLe.drop (lvLe.drop lvLe.nil)))))) ?_
            have e1 : stK Q (n + 1) = wonA (stK Q n) (bpN Q n) (boN Q n) (Q 16 n) := rfl
            have e2 : stC Q (n + 1) = stC Q n + (if (nos (stK Q n) (boN Q n) (bpN Q n) (Q 16 n) && !isFullB (stK Q n) (boN Q n)) = true then 1 else 0) := rfl
            rw [nos_e] at e2
            unfold wonA at e1
            rw [nos_e] at e1
            first
              | (have e1 : stK Q (n + 1) = stK Q n := by rw [e1, h65]; rfl
                 have e2 : stC Q (n + 1) = stC Q n := by rw [e2, h65]; rfl
                 have ih := ih22 (n + 1) (up2 b2 79 (ixN Q n) 0) (by omega) (by rw [e1]; exact hR3) hB3 h86x ht2 h72 (by omega)
                 rw [e2] at ih
                 exact ih)
              | (have e1 : stK Q (n + 1) = stK Q n := by rw [e1, h77, Bool.and_false]; rfl
                 have e2 : stC Q (n + 1) = stC Q n := by rw [e2, h77, Bool.and_false]; rfl
                 have ih := ih22 (n + 1) (up2 b2 79 (ixN Q n) 0) (by omega) (by rw [e1]; exact hR3) hB3 h86x ht2 h72 (by omega)
                 rw [e2] at ih
                 exact ih)
              | (have e1 : stK Q (n + 1) = giveA (stK Q n) (boN Q n) (bpN Q n) (Q 16 n) := by rw [e1, h65, h77, h86]; rfl
                 have e2 : stC Q (n + 1) = stC Q n + 1 := by rw [e2, h65, h77, h86]; rfl
                 have ih := ih22 (n + 1) b4 (by omega) (by rw [e1]; exact hR4) (hB3.kp hK4.kq) (fun k => (hK4.2.2.1 k).trans (h86x k)) (hK4.2.2.2.1.trans ht2) (hK4.2.2.2.2.trans h72) (by omega)
                 rw [e2] at ih
                 exact ih)
              | (have e1 : stK Q (n + 1) = stK Q n := by rw [e1, h65, h77, h86]; exact if_pos (Or.inl h112)
                 have e2 : stC Q (n + 1) = stC Q n := by rw [e2, h65, h77, h86]; rfl
                 have ih := ih22 (n + 1) (up2 b2 79 (ixN Q n) 0) (by omega) (by rw [e1]; exact hR3) hB3 h86x ht2 h72 (by omega)
                 rw [e2] at ih
                 exact ih)
              | (have e1 : stK Q (n + 1) = up2 (up2 (up2 (stK Q n) (18 + 4 * boN Q n + 2) (qW (stK Q n) (boN Q n)) (nI (bpN Q n))) (18 + 4 * boN Q n + 3) (qW (stK Q n) (boN Q n)) (Q 16 n)) (18 + 4 * boN Q n) 8 (nI (qW (stK Q n) (boN Q n) + 1)) := by rw [e1, h65, h77, h86]; exact if_neg (show ¬ (firN (qAt (stK Q n) (boN Q n) (nI (bpN Q n))) (qW (stK Q n) (boN Q n)) < qW (stK Q n) (boN Q n) ∨ 10 ≤ qW (stK Q n) (boN Q n)) by omega)
                 have e2 : stC Q (n + 1) = stC Q n := by rw [e2, h65, h77, h86]; rfl
                 have ih := ih22 (n + 1) (up2 (up2 (up2 (up2 b2 79 (ixN Q n) 0) 77 (10 * boN Q n + qW (stK Q n) (boN Q n)) (nI (bpN Q n))) 78 (10 * boN Q n + qW (stK Q n) (boN Q n)) (Q 16 n)) 76 (boN Q n) (nI (qW (stK Q n) (boN Q n) + 1))) (by omega) (by rw [e1]; exact hR3.wait (by omega) hq9) hB3 h86x ht2 h72 (by omega)
                 rw [e2] at ih
                 exact ih)
          · refine V_aload_n C dX4_settle_80 rfl ?_
            refine V_iload C dX4_settle_81 rfl ?_
            refine V_callf (R_V C (c_X4_hasSeat hfl hWz hIz hR3 hoz) mi_X4_hasSeat mk_X4_146 rfl (by omega) rfl (rfl : vwCl[6]? = some (RX4, TX4, 24)) (by decide) rfl (Nat.le_of_ble_eq_true rfl) (by decide) dX4_settle_83) ?_
            refine V_ifb_eq C 104 dX4_settle_86 (by decide) (fun h86 => ?_) (fun h86 => ?_)
            · have h86 : isFullB (stK Q n) (boN Q n) = true := by simpa using h86
              refine V_aload_n C dX4_settle_104 rfl ?_
              refine V_iload_n C dX4_settle_105 rfl ?_
              refine V_iload C dX4_settle_106 rfl ?_
              refine V_callf (R_V C (c_X4_placeOf hfl hWz hR3 (by omega) (hIz.qd _ (by omega))) mi_X4_placeOf mk_X4_129 rfl (by omega) rfl (rfl : vwCl[6]? = some (RX4, TX4, 24)) (by decide) rfl (Nat.le_of_ble_eq_true rfl) (by decide) dX4_settle_108) ?_
              refine V_iconst (v := -1) C dX4_settle_111 (by decide) ?_
              refine V_icmp_ne C 165 dX4_settle_112 (by decide) (fun h112 => ?_) (fun h112 => ?_)
              · have h112 := fI_lt (by have := hWz.ql (i := boN Q n) (by omega); omega) h112
                refine V_aload_n C dX4_settle_165 rfl ?_
                refine V_callf (R_V C (c_X4_nextBid hfl hWq hIq (by first | exact hB3 | exact hB3.kp hK4.kq) (by omega)) mi_X4_nextBid mk_X4_139 rfl (by omega) rfl (rfl : vwCl[6]? = some (RX4, TX4, 24)) (by decide) rfl (Nat.le_of_ble_eq_true rfl) (by decide) dX4_settle_166) ?_
                refine V_istore_n2 C dX4_settle_169 (by decide) ?_
                refine V_goto C 22 dX4_settle_170 (by decide) ?_
                refine V_forget (lvLe.same (lvLe.same (lvLe.same (lvLe.drop (lvLe.drop (lvLe.drop lvLe.nil)))))) ?_
                have e1 : stK Q (n + 1) = wonA (stK Q n) (bpN Q n) (boN Q n) (Q 16 n) := rfl
                have e2 : stC Q (n + 1) = stC Q n + (if (nos (stK Q n) (boN Q n) (bpN Q n) (Q 16 n) && !isFullB (stK Q n) (boN Q n)) = true then 1 else 0) := rfl
                rw [nos_e] at e2
                unfold wonA at e1
                rw [nos_e] at e1
                first
                  | (have e1 : stK Q (n + 1) = stK Q n := by rw [e1, h65]; rfl
                     have e2 : stC Q (n + 1) = stC Q n := by rw [e2, h65]; rfl
                     have ih := ih22 (n + 1) (up2 b2 79 (ixN Q n) 0) (by omega) (by rw [e1]; exact hR3) hB3 h86x ht2 h72 (by omega)
                     rw [e2] at ih
                     exact ih)
                  | (have e1 : stK Q (n + 1) = stK Q n := by rw [e1, h77, Bool.and_false]; rfl
                     have e2 : stC Q (n + 1) = stC Q n := by rw [e2, h77, Bool.and_false]; rfl
                     have ih := ih22 (n + 1) (up2 b2 79 (ixN Q n) 0) (by omega) (by rw [e1]; exact hR3) hB3 h86x ht2 h72 (by omega)
                     rw [e2] at ih
                     exact ih)
                  | (have e1 : stK Q (n + 1) = giveA (stK Q n) (boN Q n) (bpN Q n) (Q 16 n) := by rw [e1, h65, h77, h86]; rfl
                     have e2 : stC Q (n + 1) = stC Q n + 1 := by rw [e2, h65, h77, h86]; rfl
                     have ih := ih22 (n + 1) b4 (by omega) (by rw [e1]; exact hR4) (hB3.kp hK4.kq) (fun k => (hK4.2.2.1 k).trans (h86x k)) (hK4.2.2.2.1.trans ht2) (hK4.2.2.2.2.trans h72) (by omega)
                     rw [e2] at ih
                     exact ih)
                  | (have e1 : stK Q (n + 1) = stK Q n := by rw [e1, h65, h77, h86]; exact if_pos (Or.inl h112)
                     have e2 : stC Q (n + 1) = stC Q n := by rw [e2, h65, h77, h86]; rfl
                     have ih := ih22 (n + 1) (up2 b2 79 (ixN Q n) 0) (by omega) (by rw [e1]; exact hR3) hB3 h86x ht2 h72 (by omega)
                     rw [e2] at ih
                     exact ih)
                  | (have e1 : stK Q (n + 1) = up2 (up2 (up2 (stK Q n) (18 + 4 * boN Q n + 2) (qW (stK Q n) (boN Q n)) (nI (bpN Q n))) (18 + 4 * boN Q n + 3) (qW (stK Q n) (boN Q n)) (Q 16 n)) (18 + 4 * boN Q n) 8 (nI (qW (stK Q n) (boN Q n) + 1)) := by rw [e1, h65, h77, h86]; exact if_neg (show ¬ (firN (qAt (stK Q n) (boN Q n) (nI (bpN Q n))) (qW (stK Q n) (boN Q n)) < qW (stK Q n) (boN Q n) ∨ 10 ≤ qW (stK Q n) (boN Q n)) by omega)
                     have e2 : stC Q (n + 1) = stC Q n := by rw [e2, h65, h77, h86]; rfl
                     have ih := ih22 (n + 1) (up2 (up2 (up2 (up2 b2 79 (ixN Q n) 0) 77 (10 * boN Q n + qW (stK Q n) (boN Q n)) (nI (bpN Q n))) 78 (10 * boN Q n + qW (stK Q n) (boN Q n)) (Q 16 n)) 76 (boN Q n) (nI (qW (stK Q n) (boN Q n) + 1))) (by omega) (by rw [e1]; exact hR3.wait (by omega) hq9) hB3 h86x ht2 h72 (by omega)
                     rw [e2] at ih
                     exact ih)
              · have h112 := (fI_m1 (by have := hWz.ql (i := boN Q n) (by omega); omega)).mp h112
                have hq9 := q_nine hWz hIz (by omega) (by omega) h112
                refine V_aload_n C dX4_settle_115 rfl ?_
                refine gt_X4_waiter C fk_X4_29 dX4_settle_116 ?_
                refine V_bipush (v := nI 10) C dX4_settle_119 (by decide) ?_
                refine V_iload C dX4_settle_121 rfl ?_
                refine V_imul C dX4_settle_123 ?_
                refine V_topi (pk_mul _ _) ?_
                refine V_aload_n C dX4_settle_124 rfl ?_
                refine gt_X4_waiting C fk_X4_26 dX4_settle_125 ?_
                refine V_iload C dX4_settle_128 rfl ?_
                refine la_m_waiting C _ rfl (by omega) dX4_settle_130 ?_
                refine V_topi ((hR3.qw (by omega)).trans (hWz.qe (by omega))) ?_
                refine V_iadd C dX4_settle_131 ?_
                refine V_topi (nI_add _ _) ?_
                refine V_iload_n C dX4_settle_132 rfl ?_
                refine sa_m_waiter C _ rfl (by omega) dX4_settle_133 ?_
                refine V_aload_n C dX4_settle_134 rfl ?_
                refine gt_X4_waits C fk_X4_32 dX4_settle_135 ?_
                refine V_bipush (v := nI 10) C dX4_settle_138 (by decide) ?_
                refine V_iload C dX4_settle_140 rfl ?_
                refine V_imul C dX4_settle_142 ?_
                refine V_topi (pk_mul _ _) ?_
                refine V_aload_n C dX4_settle_143 rfl ?_
                refine gt_X4_waiting C fk_X4_26 dX4_settle_144 ?_
                refine V_iload C dX4_settle_147 rfl ?_
                refine la_m_waiting C _ rfl (by omega) dX4_settle_149 ?_
                refine V_topi (show _ = nI (qW (stK Q n) (boN Q n)) from (hR3.qw (by omega)).trans (hWz.qe (by omega))) ?_
                refine V_iadd C dX4_settle_150 ?_
                refine V_topi (nI_add _ _) ?_
                refine V_iload C dX4_settle_151 rfl ?_
                refine sa_m_waits C _ rfl (by omega) dX4_settle_153 ?_
                refine V_aload_n C dX4_settle_154 rfl ?_
                refine gt_X4_waiting C fk_X4_26 dX4_settle_155 ?_
                refine V_iload C dX4_settle_158 rfl ?_
                refine V_dup2 C dX4_settle_160 rfl rfl ?_
                refine la_m_waiting C _ rfl (by omega) dX4_settle_161 ?_
                refine V_topi (show _ = nI (qW (stK Q n) (boN Q n)) from (hR3.qw (by omega)).trans (hWz.qe (by omega))) ?_
                refine V_iconst (v := 1) C dX4_settle_162 (by decide) ?_
                refine V_iadd C dX4_settle_163 ?_
                refine V_topi (nI_1 _) ?_
                refine sa_m_waiting C _ rfl (by omega) dX4_settle_164 ?_
                refine V_aload_n C dX4_settle_165 rfl ?_
                refine V_callf (R_V C (c_X4_nextBid hfl hWq hIq (by first | exact hB3 | exact hB3.kp hK4.kq) (by omega)) mi_X4_nextBid mk_X4_139 rfl (by omega) rfl (rfl : vwCl[6]? = some (RX4, TX4, 24)) (by decide) rfl (Nat.le_of_ble_eq_true rfl) (by decide) dX4_settle_166) ?_
                refine V_istore_n2 C dX4_settle_169 (by decide) ?_
                refine V_goto C 22 dX4_settle_170 (by decide) ?_
                refine V_forget (lvLe.same (lvLe.same (lvLe.same (lvLe.drop (lvLe.drop (lvLe.drop lvLe.nil)))))) ?_
                have e1 : stK Q (n + 1) = wonA (stK Q n) (bpN Q n) (boN Q n) (Q 16 n) := rfl
                have e2 : stC Q (n + 1) = stC Q n + (if (nos (stK Q n) (boN Q n) (bpN Q n) (Q 16 n) && !isFullB (stK Q n) (boN Q n)) = true then 1 else 0) := rfl
                rw [nos_e] at e2
                unfold wonA at e1
                rw [nos_e] at e1
                first
                  | (have e1 : stK Q (n + 1) = stK Q n := by rw [e1, h65]; rfl
                     have e2 : stC Q (n + 1) = stC Q n := by rw [e2, h65]; rfl
                     have ih := ih22 (n + 1) (up2 b2 79 (ixN Q n) 0) (by omega) (by rw [e1]; exact hR3) hB3 h86x ht2 h72 (by omega)
                     rw [e2] at ih
                     exact ih)
                  | (have e1 : stK Q (n + 1) = stK Q n := by rw [e1, h77, Bool.and_false]; rfl
                     have e2 : stC Q (n + 1) = stC Q n := by rw [e2, h77, Bool.and_false]; rfl
                     have ih := ih22 (n + 1) (up2 b2 79 (ixN Q n) 0) (by omega) (by rw [e1]; exact hR3) hB3 h86x ht2 h72 (by omega)
                     rw [e2] at ih
                     exact ih)
                  | (have e1 : stK Q (n + 1) = giveA (stK Q n) (boN Q n) (bpN Q n) (Q 16 n) := by rw [e1, h65, h77, h86]; rfl
                     have e2 : stC Q (n + 1) = stC Q n + 1 := by rw [e2, h65, h77, h86]; rfl
                     have ih := ih22 (n + 1) b4 (by omega) (by rw [e1]; exact hR4) (hB3.kp hK4.kq) (fun k => (hK4.2.2.1 k).trans (h86x k)) (hK4.2.2.2.1.trans ht2) (hK4.2.2.2.2.trans h72) (by omega)
                     rw [e2] at ih
                     exact ih)
                  | (have e1 : stK Q (n + 1) = stK Q n := by rw [e1, h65, h77, h86]; exact if_pos (Or.inl h112)
                     have e2 : stC Q (n + 1) = stC Q n := by rw [e2, h65, h77, h86]; rfl
                     have ih := ih22 (n + 1) (up2 b2 79 (ixN Q n) 0) (by omega) (by rw [e1]; exact hR3) hB3 h86x ht2 h72 (by omega)
                     rw [e2] at ih
                     exact ih)
                  | (have e1 : stK Q (n + 1) = up2 (up2 (up2 (stK Q n) (18 + 4 * boN Q n + 2) (qW (stK Q n) (boN Q n)) (nI (bpN Q n))) (18 + 4 * boN Q n + 3) (qW (stK Q n) (boN Q n)) (Q 16 n)) (18 + 4 * boN Q n) 8 (nI (qW (stK Q n) (boN Q n) + 1)) := by rw [e1, h65, h77, h86]; exact if_neg (show ¬ (firN (qAt (stK Q n) (boN Q n) (nI (bpN Q n))) (qW (stK Q n) (boN Q n)) < qW (stK Q n) (boN Q n) ∨ 10 ≤ qW (stK Q n) (boN Q n)) by omega)
                     have e2 : stC Q (n + 1) = stC Q n := by rw [e2, h65, h77, h86]; rfl
                     have ih := ih22 (n + 1) (up2 (up2 (up2 (up2 b2 79 (ixN Q n) 0) 77 (10 * boN Q n + qW (stK Q n) (boN Q n)) (nI (bpN Q n))) 78 (10 * boN Q n + qW (stK Q n) (boN Q n)) (Q 16 n)) 76 (boN Q n) (nI (qW (stK Q n) (boN Q n) + 1))) (by omega) (by rw [e1]; exact hR3.wait (by omega) hq9) hB3 h86x ht2 h72 (by omega)
                     rw [e2] at ih
                     exact ih)
            · have h86 : isFullB (stK Q n) (boN Q n) = false := by simpa using h86
              refine V_aload_n C dX4_settle_89 rfl ?_
              refine V_iload_n C dX4_settle_90 rfl ?_
              refine V_iload C dX4_settle_91 rfl ?_
              refine V_iload C dX4_settle_93 rfl ?_
              refine V_callv (R_V C (c_X4_give hfl hWz hIz hR3 (p := bpN Q n) (by omega) (by omega)) mi_X4_give mk_X4_149 rfl (by omega) rfl (rfl : vwCl[6]? = some (RX4, TX4, 24)) (by decide) rfl (Nat.le_of_ble_eq_true rfl) (by decide) dX4_settle_95) (fun a4 b4 hh => ?_)
              obtain ⟨ha4, hR4, hK4⟩ := hh
              replace ha4 := ha4.symm
              subst ha4
              refine V_iinc_1 C _ dX4_settle_98 (nI_1 _) (by decide) ?_
              refine V_goto C 165 dX4_settle_101 (by decide) ?_
              refine V_aload_n C dX4_settle_165 rfl ?_
              refine V_callf (R_V C (c_X4_nextBid hfl hWq hIq (by first | exact hB3 | exact hB3.kp hK4.kq) (by omega)) mi_X4_nextBid mk_X4_139 rfl (by omega) rfl (rfl : vwCl[6]? = some (RX4, TX4, 24)) (by decide) rfl (Nat.le_of_ble_eq_true rfl) (by decide) dX4_settle_166) ?_
              refine V_istore_n2 C dX4_settle_169 (by decide) ?_
              refine V_goto C 22 dX4_settle_170 (by decide) ?_
              refine V_forget (lvLe.same (lvLe.same (lvLe.same (lvLe.drop (lvLe.drop (lvLe.drop lvLe.nil)))))) ?_
              have e1 : stK Q (n + 1) = wonA (stK Q n) (bpN Q n) (boN Q n) (Q 16 n) := rfl
              have e2 : stC Q (n + 1) = stC Q n + (if (nos (stK Q n) (boN Q n) (bpN Q n) (Q 16 n) && !isFullB (stK Q n) (boN Q n)) = true then 1 else 0) := rfl
              rw [nos_e] at e2
              unfold wonA at e1
              rw [nos_e] at e1
              first
                | (have e1 : stK Q (n + 1) = stK Q n := by rw [e1, h65]; rfl
                   have e2 : stC Q (n + 1) = stC Q n := by rw [e2, h65]; rfl
                   have ih := ih22 (n + 1) (up2 b2 79 (ixN Q n) 0) (by omega) (by rw [e1]; exact hR3) hB3 h86x ht2 h72 (by omega)
                   rw [e2] at ih
                   exact ih)
                | (have e1 : stK Q (n + 1) = stK Q n := by rw [e1, h77, Bool.and_false]; rfl
                   have e2 : stC Q (n + 1) = stC Q n := by rw [e2, h77, Bool.and_false]; rfl
                   have ih := ih22 (n + 1) (up2 b2 79 (ixN Q n) 0) (by omega) (by rw [e1]; exact hR3) hB3 h86x ht2 h72 (by omega)
                   rw [e2] at ih
                   exact ih)
                | (have e1 : stK Q (n + 1) = giveA (stK Q n) (boN Q n) (bpN Q n) (Q 16 n) := by rw [e1, h65, h77, h86]; rfl
                   have e2 : stC Q (n + 1) = stC Q n + 1 := by rw [e2, h65, h77, h86]; rfl
                   have ih := ih22 (n + 1) b4 (by omega) (by rw [e1]; exact hR4) (hB3.kp hK4.kq) (fun k => (hK4.2.2.1 k).trans (h86x k)) (hK4.2.2.2.1.trans ht2) (hK4.2.2.2.2.trans h72) (by omega)
                   rw [e2] at ih
                   exact ih)
                | (have e1 : stK Q (n + 1) = stK Q n := by rw [e1, h65, h77, h86]; exact if_pos (Or.inl h112)
                   have e2 : stC Q (n + 1) = stC Q n := by rw [e2, h65, h77, h86]; rfl
                   have ih := ih22 (n + 1) (up2 b2 79 (ixN Q n) 0) (by omega) (by rw [e1]; exact hR3) hB3 h86x ht2 h72 (by omega)
                   rw [e2] at ih
                   exact ih)
                | (have e1 : stK Q (n + 1) = up2 (up2 (up2 (stK Q n) (18 + 4 * boN Q n + 2) (qW (stK Q n) (boN Q n)) (nI (bpN Q n))) (18 + 4 * boN Q n + 3) (qW (stK Q n) (boN Q n)) (Q 16 n)) (18 + 4 * boN Q n) 8 (nI (qW (stK Q n) (boN Q n) + 1)) := by rw [e1, h65, h77, h86]; exact if_neg (show ¬ (firN (qAt (stK Q n) (boN Q n) (nI (bpN Q n))) (qW (stK Q n) (boN Q n)) < qW (stK Q n) (boN Q n) ∨ 10 ≤ qW (stK Q n) (boN Q n)) by omega)
                   have e2 : stC Q (n + 1) = stC Q n := by rw [e2, h65, h77, h86]; rfl
                   have ih := ih22 (n + 1) (up2 (up2 (up2 (up2 b2 79 (ixN Q n) 0) 77 (10 * boN Q n + qW (stK Q n) (boN Q n)) (nI (bpN Q n))) 78 (10 * boN Q n + qW (stK Q n) (boN Q n)) (Q 16 n)) 76 (boN Q n) (nI (qW (stK Q n) (boN Q n) + 1))) (by omega) (by rw [e1]; exact hR3.wait (by omega) hq9) hB3 h86x ht2 h72 (by omega)
                   rw [e2] at ih
                   exact ih)
  exact L22 _ 0 _ (Nat.zero_le _) hRq hBq (fun _ => rfl) rfl rfl (Nat.lt_succ_self _)
