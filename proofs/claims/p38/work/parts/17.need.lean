abbrev eA : String := "java/lang/IllegalArgumentException"
abbrev eS : String := "java/lang/IllegalStateException"
abbrev eI : String := "java/lang/IndexOutOfBoundsException"
abbrev eU : String := "java/lang/UnsupportedOperationException"
abbrev eN : String := "java/util/NoSuchElementException"
abbrev eR : String := "java/lang/ArithmeticException"
/-- a check, and what it throws; checks one behind another -/
def gO (ok : Bool) (E : String) : Option String := if ok = true then none else some E
def gS (g1 g2 : Option String) : Option String := match g1 with
  | none => g2
  | some E => some E
def inB (v n : Int32) : Bool := decide (¬ v < 0) && decide (v < n)
theorem gO_n {ok : Bool} {E : String} : gO ok E = none ↔ ok = true := by cases ok <;> simp [gO]
theorem ix_of {v n : Int32} {N : Nat} {E : String} (h : gO (inB v n) E = none) (hn : n = nI N) (hN : N < 2 ^ 31) : ∃ j, j < N ∧ v = nI j := by
  subst hn
  have h2 := gO_n.mp h
  simp only [inB, Bool.and_eq_true, decide_eq_true_eq] at h2
  obtain ⟨j, hj, e⟩ := nI_of h2.1
  refine ⟨j, ?_, e⟩
  rw [e] at h2
  exact (nI_ltI hj hN).mp h2.2
def GX (g : Option String) (E : String) : Prop := g = some E
def GI (g : Option String) (F : Int32) (A' B' : Mem) : Int32 → Mem → Mem → Prop := fun r a' b' => g = none ∧ r = F ∧ a' = A' ∧ b' = B'
def GV (g : Option String) (A' B' : Mem) : Mem → Mem → Prop := fun a' b' => g = none ∧ a' = A' ∧ b' = B'
def GK (g : Option String) (K : Nat) (A' B' : Mem) : Nat → Mem → Mem → Prop := fun k a' b' => g = none ∧ k = K ∧ a' = A' ∧ b' = B'
section GXR
variable {p : Program} {l : Launch} {e : Env} {R : Room} {s : State} {m : MethodId} {args : Array Value} {below : List Frame} {meth : Method} {c : Code} {Q : State → Prop} {x : Sh} {nL : Nat} {a b A' B' : Mem} {o : Out} {cells slots pc mc ms mc' ms' : Nat} {lv : List (Option Value)} {st rest As : List Value} {cc : ByteArray} {own : String} {g : Option String} {F : Int32} {K : Nat} {ΦX' : String → Prop} {Qc : Array Value → State → Outcome → State → Prop}
theorem V_xcallg (C : CX p l s m meth c x cc own nL) (ht : ∀ z ∈ c.exceptionTable.toList, False) (hr : RUNX p l e R s m args below meth c x nL a b o cells slots pc mc ms st rest (QI x o (GI g F A' B')) (GX g) As) (hX : ∀ E, GX g E → ΦX' E) (hcs : cells + mc ≤ mc' ∧ slots + ms ≤ ms') (kk : g = none → VV p l e R s m args below meth c (vx_MQ below Qc (XCd ΦX' x a b o s.heap.size) args s mc' ms' (AW x s.heap.size)) x nL A' B' o (cells + mc) (slots + ms) (pc + 3) lv (.int F :: rest)) : VV p l e R s m args below meth c (vx_MQ below Qc (XCd ΦX' x a b o s.heap.size) args s mc' ms' (AW x s.heap.size)) x nL a b o cells slots pc lv st :=
  V_xcalli C ht hr hX hcs (fun r a' b' h => by obtain ⟨h0, rfl, rfl, rfl⟩ := h; exact kk h0)
theorem V_xcallg_v (C : CX p l s m meth c x cc own nL) (ht : ∀ z ∈ c.exceptionTable.toList, False) (hr : RUNX p l e R s m args below meth c x nL a b o cells slots pc mc ms st rest (QV x o (GV g A' B')) (GX g) As) (hX : ∀ E, GX g E → ΦX' E) (hcs : cells + mc ≤ mc' ∧ slots + ms ≤ ms') (kk : g = none → VV p l e R s m args below meth c (vx_MQ below Qc (XCd ΦX' x a b o s.heap.size) args s mc' ms' (AW x s.heap.size)) x nL A' B' o (cells + mc) (slots + ms) (pc + 3) lv rest) : VV p l e R s m args below meth c (vx_MQ below Qc (XCd ΦX' x a b o s.heap.size) args s mc' ms' (AW x s.heap.size)) x nL a b o cells slots pc lv st :=
  V_xcallv C ht hr hX hcs (fun a' b' h => by obtain ⟨h0, rfl, rfl⟩ := h; exact kk h0)
theorem V_xcallg_r (C : CX p l s m meth c x cc own nL) (ht : ∀ z ∈ c.exceptionTable.toList, False) (hr : RUNX p l e R s m args below meth c x nL a b o cells slots pc mc ms st rest (QR x o (GK g K A' B')) (GX g) As) (hX : ∀ E, GX g E → ΦX' E) (hcs : cells + mc ≤ mc' ∧ slots + ms ≤ ms') (kk : g = none → VV p l e R s m args below meth c (vx_MQ below Qc (XCd ΦX' x a b o s.heap.size) args s mc' ms' (AW x s.heap.size)) x nL A' B' o (cells + mc) (slots + ms) (pc + 3) lv (.ref (x.2.1 K) :: rest)) : VV p l e R s m args below meth c (vx_MQ below Qc (XCd ΦX' x a b o s.heap.size) args s mc' ms' (AW x s.heap.size)) x nL a b o cells slots pc lv st :=
  V_xcallr C ht hr hX hcs (fun k a' b' h => by obtain ⟨h0, rfl, rfl, rfl⟩ := h; exact kk h0)
end GXR
def fOk (f : Int32) : Bool := decide (f = 114) || decide (f = 109) || decide (f = 120)
def fNat (f : Int32) : Nat := if f = 114 then 0 else if f = 109 then 1 else 2
theorem fNat_lt (f : Int32) : fNat f < 3 := by unfold fNat; split <;> (try split) <;> omega
abbrev gP (a : Mem) (v : Int32) : Option String := gO (inB v (a 0 9)) eI
abbrev gE (a : Mem) (v : Int32) : Option String := gO (inB v (a 0 8)) eI
abbrev gQ (a : Mem) (v : Int32) : Option String := gO (inB v (a 0 10)) eI
abbrev gT (v : Int32) : Option String := gO (inB v 3) eI
abbrev gL (v : Int32) : Option String := gO (inB v 6) eA
abbrev gF (f : Int32) : Option String := gO (fOk f) eA
set_option maxHeartbeats 4000000 in
set_option maxRecDepth 100000 in
theorem c_X3_needPupil {l : Launch} {x : Sh} {a b : Mem} {o : Out} (hfl : l.stackTraces = false) {v : Int32} : XG l x yX3_needPupil cX3_needPupil 2 none 6 280 1 6 [.ref (x.2.1 0), .int v] a b o (QV x o (GV (gP a v) a b)) (GX (gP a v)) := by
  refine XG.of (maxL := 2) (ret := none) hfl (by decide) [some (.ref (x.2.1 0)), some (.int v)] rfl rfl (Nat.le_of_ble_eq_true rfl) ?_
  intro pP eE sS mM argsA belowB methM cC C hr ht
  refine V_iload_n C dX3_needPupil_0 rfl ?_
  refine V_if_lt C 12 dX3_needPupil_1 (by decide) (fun h1 => ?_) (fun h1 => ?_)
  · exact V_throwSW (text := "no such pupil") C ht tw_X3_IndexOutOfBoundsException (by decide +kernel) (by first | (simp [GX, gO, inB, h1, h9]; done) | (simp [GX, gO, inB, h1]; done)) dX3_needPupil_12 dX3_needPupil_15 dX3_needPupil_16 dX3_needPupil_19 dX3_needPupil_22 (by decide) (by decide)
  · refine V_iload_n C dX3_needPupil_4 rfl ?_
    refine V_aload_n C dX3_needPupil_5 rfl ?_
    refine gt_X3_pupilCount C fk_X3_65 dX3_needPupil_6 ?_
    refine V_icmp_lt C 23 dX3_needPupil_9 (by decide) (fun h9 => ?_) (fun h9 => ?_)
    · refine V_xret (by omega) (by omega) ?_
      exact V_vret C hr dX3_needPupil_23 ⟨by simp [gO, inB, h1, h9], rfl, rfl⟩
    · exact V_throwSW (text := "no such pupil") C ht tw_X3_IndexOutOfBoundsException (by decide +kernel) (by first | (simp [GX, gO, inB, h1, h9]; done) | (simp [GX, gO, inB, h1]; done)) dX3_needPupil_12 dX3_needPupil_15 dX3_needPupil_16 dX3_needPupil_19 dX3_needPupil_22 (by decide) (by decide)
set_option maxHeartbeats 4000000 in
set_option maxRecDepth 100000 in
theorem c_X3_needExam {l : Launch} {x : Sh} {a b : Mem} {o : Out} (hfl : l.stackTraces = false) {v : Int32} : XG l x yX3_needExam cX3_needExam 2 none 6 280 1 6 [.ref (x.2.1 0), .int v] a b o (QV x o (GV (gE a v) a b)) (GX (gE a v)) := by
  refine XG.of (maxL := 2) (ret := none) hfl (by decide) [some (.ref (x.2.1 0)), some (.int v)] rfl rfl (Nat.le_of_ble_eq_true rfl) ?_
  intro pP eE sS mM argsA belowB methM cC C hr ht
  refine V_iload_n C dX3_needExam_0 rfl ?_
  refine V_if_lt C 12 dX3_needExam_1 (by decide) (fun h1 => ?_) (fun h1 => ?_)
  · exact V_throwSW (text := "no such exam") C ht tw_X3_IndexOutOfBoundsException (by decide +kernel) (by first | (simp [GX, gO, inB, h1, h9]; done) | (simp [GX, gO, inB, h1]; done)) dX3_needExam_12 dX3_needExam_15 dX3_needExam_16 dX3_needExam_19 dX3_needExam_22 (by decide) (by decide)
  · refine V_iload_n C dX3_needExam_4 rfl ?_
    refine V_aload_n C dX3_needExam_5 rfl ?_
    refine gt_X3_examCount C fk_X3_60 dX3_needExam_6 ?_
    refine V_icmp_lt C 23 dX3_needExam_9 (by decide) (fun h9 => ?_) (fun h9 => ?_)
    · refine V_xret (by omega) (by omega) ?_
      exact V_vret C hr dX3_needExam_23 ⟨by simp [gO, inB, h1, h9], rfl, rfl⟩
    · exact V_throwSW (text := "no such exam") C ht tw_X3_IndexOutOfBoundsException (by decide +kernel) (by first | (simp [GX, gO, inB, h1, h9]; done) | (simp [GX, gO, inB, h1]; done)) dX3_needExam_12 dX3_needExam_15 dX3_needExam_16 dX3_needExam_19 dX3_needExam_22 (by decide) (by decide)
set_option maxHeartbeats 4000000 in
set_option maxRecDepth 100000 in
theorem c_X3_needOffer {l : Launch} {x : Sh} {a b : Mem} {o : Out} (hfl : l.stackTraces = false) {v : Int32} : XG l x yX3_needOffer cX3_needOffer 2 none 6 280 1 6 [.ref (x.2.1 0), .int v] a b o (QV x o (GV (gQ a v) a b)) (GX (gQ a v)) := by
  refine XG.of (maxL := 2) (ret := none) hfl (by decide) [some (.ref (x.2.1 0)), some (.int v)] rfl rfl (Nat.le_of_ble_eq_true rfl) ?_
  intro pP eE sS mM argsA belowB methM cC C hr ht
  refine V_iload_n C dX3_needOffer_0 rfl ?_
  refine V_if_lt C 12 dX3_needOffer_1 (by decide) (fun h1 => ?_) (fun h1 => ?_)
  · exact V_throwSW (text := "no such offer") C ht tw_X3_IndexOutOfBoundsException (by decide +kernel) (by first | (simp [GX, gO, inB, h1, h9]; done) | (simp [GX, gO, inB, h1]; done)) dX3_needOffer_12 dX3_needOffer_15 dX3_needOffer_16 dX3_needOffer_19 dX3_needOffer_22 (by decide) (by decide)
  · refine V_iload_n C dX3_needOffer_4 rfl ?_
    refine V_aload_n C dX3_needOffer_5 rfl ?_
    refine gt_X3_offerCount C fk_X3_91 dX3_needOffer_6 ?_
    refine V_icmp_lt C 23 dX3_needOffer_9 (by decide) (fun h9 => ?_) (fun h9 => ?_)
    · refine V_xret (by omega) (by omega) ?_
      exact V_vret C hr dX3_needOffer_23 ⟨by simp [gO, inB, h1, h9], rfl, rfl⟩
    · exact V_throwSW (text := "no such offer") C ht tw_X3_IndexOutOfBoundsException (by decide +kernel) (by first | (simp [GX, gO, inB, h1, h9]; done) | (simp [GX, gO, inB, h1]; done)) dX3_needOffer_12 dX3_needOffer_15 dX3_needOffer_16 dX3_needOffer_19 dX3_needOffer_22 (by decide) (by decide)
set_option maxHeartbeats 4000000 in
set_option maxRecDepth 100000 in
theorem c_X3_needStore {l : Launch} {x : Sh} {a b : Mem} {o : Out} (hfl : l.stackTraces = false) {v : Int32} : XG l x yX3_needStore cX3_needStore 1 none 6 280 1 6 [.int v] a b o (QV x o (GV (gT v) a b)) (GX (gT v)) := by
  refine XG.of (maxL := 1) (ret := none) hfl (by decide) [some (.int v)] rfl rfl (Nat.le_of_ble_eq_true rfl) ?_
  intro pP eE sS mM argsA belowB methM cC C hr ht
  refine V_iload_n C dX3_needStore_0 rfl ?_
  refine V_if_lt C 9 dX3_needStore_1 (by decide) (fun h1 => ?_) (fun h1 => ?_)
  · exact V_throwSW (text := "no such store") C ht tw_X3_IndexOutOfBoundsException (by decide +kernel) (by first | (simp [GX, gO, inB, h1, h6]; done) | (simp [GX, gO, inB, h1]; done)) dX3_needStore_9 dX3_needStore_12 dX3_needStore_13 dX3_needStore_16 dX3_needStore_19 (by decide) (by decide)
  · refine V_iload_n C dX3_needStore_4 rfl ?_
    refine V_iconst (v := 3) C dX3_needStore_5 (by decide) ?_
    refine V_icmp_lt C 20 dX3_needStore_6 (by decide) (fun h6 => ?_) (fun h6 => ?_)
    · refine V_xret (by omega) (by omega) ?_
      exact V_vret C hr dX3_needStore_20 ⟨by simp [gO, inB, h1, h6], rfl, rfl⟩
    · exact V_throwSW (text := "no such store") C ht tw_X3_IndexOutOfBoundsException (by decide +kernel) (by first | (simp [GX, gO, inB, h1, h6]; done) | (simp [GX, gO, inB, h1]; done)) dX3_needStore_9 dX3_needStore_12 dX3_needStore_13 dX3_needStore_16 dX3_needStore_19 (by decide) (by decide)
set_option maxHeartbeats 4000000 in
set_option maxRecDepth 100000 in
theorem c_X3_needSlot {l : Launch} {x : Sh} {a b : Mem} {o : Out} (hfl : l.stackTraces = false) {v : Int32} : XG l x yX3_needSlot cX3_needSlot 1 none 6 280 1 6 [.int v] a b o (QV x o (GV (gL v) a b)) (GX (gL v)) := by
  refine XG.of (maxL := 1) (ret := none) hfl (by decide) [some (.int v)] rfl rfl (Nat.le_of_ble_eq_true rfl) ?_
  intro pP eE sS mM argsA belowB methM cC C hr ht
  refine V_iload_n C dX3_needSlot_0 rfl ?_
  refine V_if_lt C 10 dX3_needSlot_1 (by decide) (fun h1 => ?_) (fun h1 => ?_)
  · exact V_throwSW (text := "slot out of range") C ht tw_X3_IllegalArgumentException (by decide +kernel) (by first | (simp [GX, gO, inB, h1, h7]; done) | (simp [GX, gO, inB, h1]; done)) dX3_needSlot_10 dX3_needSlot_13 dX3_needSlot_14 dX3_needSlot_17 dX3_needSlot_20 (by decide) (by decide)
  · refine V_iload_n C dX3_needSlot_4 rfl ?_
    refine V_bipush (v := 6) C dX3_needSlot_5 (by decide) ?_
    refine V_icmp_lt C 21 dX3_needSlot_7 (by decide) (fun h7 => ?_) (fun h7 => ?_)
    · refine V_xret (by omega) (by omega) ?_
      exact V_vret C hr dX3_needSlot_21 ⟨by simp [gO, inB, h1, h7], rfl, rfl⟩
    · exact V_throwSW (text := "slot out of range") C ht tw_X3_IllegalArgumentException (by decide +kernel) (by first | (simp [GX, gO, inB, h1, h7]; done) | (simp [GX, gO, inB, h1]; done)) dX3_needSlot_10 dX3_needSlot_13 dX3_needSlot_14 dX3_needSlot_17 dX3_needSlot_20 (by decide) (by decide)
set_option maxHeartbeats 4000000 in
set_option maxRecDepth 100000 in
theorem c_X3_fieldNumbered {l : Launch} {x : Sh} {a b : Mem} {o : Out} (hfl : l.stackTraces = false) {f : Int32} : XG l x yX3_fieldNumbered cX3_fieldNumbered 1 (some .int) 6 280 1 6 [.int f] a b o (QI x o (GI (gF f) (nI (fNat f)) a b)) (GX (gF f)) := by
  refine XG.of (maxL := 1) (ret := (some .int)) hfl (by decide) [some (.int f)] rfl rfl (Nat.le_of_ble_eq_true rfl) ?_
  intro pP eE sS mM argsA belowB methM cC C hr ht
  refine V_iload_n C dX3_fieldNumbered_0 rfl ?_
  refine V_bipush (v := 114) C dX3_fieldNumbered_1 (by decide) ?_
  refine V_icmp_ne C 8 dX3_fieldNumbered_3 (by decide) (fun h3 => ?_) (fun h3 => ?_)
  · refine V_iload_n C dX3_fieldNumbered_8 rfl ?_
    refine V_bipush (v := 109) C dX3_fieldNumbered_9 (by decide) ?_
    refine V_icmp_ne C 16 dX3_fieldNumbered_11 (by decide) (fun h11 => ?_) (fun h11 => ?_)
    · refine V_iload_n C dX3_fieldNumbered_16 rfl ?_
      refine V_bipush (v := 120) C dX3_fieldNumbered_17 (by decide) ?_
      refine V_icmp_ne C 24 dX3_fieldNumbered_19 (by decide) (fun h19 => ?_) (fun h19 => ?_)
      · exact V_throwSW (text := "no such field") C ht tw_X3_IllegalArgumentException (by decide +kernel) (by simp [GX, gO, fOk, h3, h11, h19]) dX3_fieldNumbered_24 dX3_fieldNumbered_27 dX3_fieldNumbered_28 dX3_fieldNumbered_31 dX3_fieldNumbered_34 (by decide) (by decide)
      · have h19 : f = 120 := by simpa using h19
        refine V_iconst (v := 2) C dX3_fieldNumbered_22 (by decide) ?_
        refine V_xret (by omega) (by omega) ?_
        exact V_ireti C hr dX3_fieldNumbered_23 ⟨by first | (simp [gO, fOk, h3]; done) | (simp [gO, fOk, h3, h11]; done) | (simp [gO, fOk, h3, h11, h19]; done), by first | (simp [fNat, h3]; rfl) | (simp [fNat, h3, h11]; rfl) | (simp [fNat, h3, h11, h19]; rfl), rfl, rfl⟩
    · have h11 : f = 109 := by simpa using h11
      refine V_iconst (v := 1) C dX3_fieldNumbered_14 (by decide) ?_
      refine V_xret (by omega) (by omega) ?_
      exact V_ireti C hr dX3_fieldNumbered_15 ⟨by first | (simp [gO, fOk, h3]; done) | (simp [gO, fOk, h3, h11]; done) | (simp [gO, fOk, h3, h11, h19]; done), by first | (simp [fNat, h3]; rfl) | (simp [fNat, h3, h11]; rfl) | (simp [fNat, h3, h11, h19]; rfl), rfl, rfl⟩
  · have h3 : f = 114 := by simpa using h3
    refine V_iconst (v := 0) C dX3_fieldNumbered_6 (by decide) ?_
    refine V_xret (by omega) (by omega) ?_
    exact V_ireti C hr dX3_fieldNumbered_7 ⟨by first | (simp [gO, fOk, h3]; done) | (simp [gO, fOk, h3, h11]; done) | (simp [gO, fOk, h3, h11, h19]; done), by first | (simp [fNat, h3]; rfl) | (simp [fNat, h3, h11]; rfl) | (simp [fNat, h3, h11, h19]; rfl), rfl, rfl⟩
set_option maxHeartbeats 4000000 in
set_option maxRecDepth 100000 in
theorem c_X3_offerNumbered {l : Launch} {x : Sh} {a b : Mem} {o : Out} (hfl : l.stackTraces = false) (hW : WC a) {v : Int32} : XG l x yX3_offerNumbered cX3_offerNumbered 2 (some (.object "Classfederation$Offer")) 7 320 1 6 [.ref (x.2.1 0), .int v] a b o (QR x o (GK (gQ a v) (18 + 4 * tn v) a b)) (GX (gQ a v)) := by
  refine XG.of (maxL := 2) (ret := (some (.object "Classfederation$Offer"))) hfl (by decide) [some (.ref (x.2.1 0)), some (.int v)] rfl rfl (Nat.le_of_ble_eq_true rfl) ?_
  intro pP eE sS mM argsA belowB methM cC C hr ht
  have ho12 := hW.ol
  refine V_aload_n C dX3_offerNumbered_0 rfl ?_
  refine V_iload_n C dX3_offerNumbered_1 rfl ?_
  refine V_xcallg_v C ht (RX_V C (c_X3_needOffer hfl) mi_X3_needOffer mk_X3_134 rfl (by omega) rfl (rfl : vwCl[5]? = some (RX3, TX3, 13)) (by decide) rfl (Nat.le_of_ble_eq_true rfl) (by decide) dX3_offerNumbered_2) (fun E hE => hE) (by decide) (fun hg2 => ?_)
  have hb2 := gO_n.mp hg2
  have hg2 := hg2
  obtain ⟨i, hi, hie⟩ := ix_of hg2 hW.oe (by omega)
  have ti : tn v = i := by rw [hie]; exact tn_nI (by omega)
  refine V_aload_n C dX3_offerNumbered_5 rfl ?_
  refine gt_X3_offers C fk_X3_25 dX3_offerNumbered_6 ?_
  refine V_iload_n C dX3_offerNumbered_9 rfl ?_
  refine la_offers C _ hie (by omega) dX3_offerNumbered_10 ?_
  refine V_xret (by omega) (by omega) ?_
  exact V_aret C hr dX3_offerNumbered_11 ⟨hg2, by rw [ti], rfl, rfl⟩
set_option maxHeartbeats 4000000 in
set_option maxRecDepth 100000 in
theorem c_X3_examHeldAt {l : Launch} {x : Sh} {a b : Mem} {o : Out} (hfl : l.stackTraces = false) (hW : WC a) {p : Nat} (hp : p < 10) {s : Int32} : XG l x yX3_examHeldAt cX3_examHeldAt 4 (some .int) 6 280 1 6 [.ref (x.2.1 0), .int (nI p), .int s] a b o (QI x o (GI (gO (anyN (haB a p s) (nO a)) eN) (a (18 + 4 * firN (haB a p s) (nO a)) 0) a b)) (GX (gO (anyN (haB a p s) (nO a)) eN)) := by
  refine XG.of (maxL := 4) (ret := (some .int)) hfl (by decide) [some (.ref (x.2.1 0)), some (.int (nI p)), some (.int s), none] rfl rfl (Nat.le_of_ble_eq_true rfl) ?_
  intro pP eE sS mM argsA belowB methM cC C hr ht
  have ho12 := hW.ol
  refine V_aload_n C dX3_examHeldAt_0 rfl ?_
  refine V_iload_n C dX3_examHeldAt_1 rfl ?_
  refine V_iload_n C dX3_examHeldAt_2 rfl ?_
  refine V_callf (R_V C (c_X3_offerHeldAt hfl hW hp) mi_X3_offerHeldAt mk_X3_309 rfl (by omega) rfl (rfl : vwCl[5]? = some (RX3, TX3, 13)) (by decide) rfl (Nat.le_of_ble_eq_true rfl) (by decide) dX3_examHeldAt_3) ?_
  refine V_istore_n3 C dX3_examHeldAt_6 (by decide) ?_
  refine V_iload_n C dX3_examHeldAt_7 rfl ?_
  refine V_iconst (v := -1) C dX3_examHeldAt_8 (by decide) ?_
  refine V_icmp_ne C 23 dX3_examHeldAt_9 (by decide) (fun h9 => ?_) (fun h9 => ?_)
  · have q7 : anyN (haB a p s) (nO a) = true := by
      cases hx : anyN (haB a p s) (nO a) with
      | true => rfl
      | false => exact absurd ((fI_any (n := nO a) (by omega)).mpr hx) h9
    have q8 : firN (haB a p s) (nO a) < nO a := firN_any.mpr q7
    have e8 : fI (haB a p s) (nO a) = nI (firN (haB a p s) (nO a)) := by rw [fI, if_pos q8]
    refine V_aload_n C dX3_examHeldAt_23 rfl ?_
    refine gt_X3_offers C fk_X3_25 dX3_examHeldAt_24 ?_
    refine V_iload_n C dX3_examHeldAt_27 rfl ?_
    refine la_offers C _ e8 (by omega) dX3_examHeldAt_28 ?_
    refine gt_X0_exam C (by omega) fk_X3_314 dX3_examHeldAt_29 ?_
    refine V_xret (by omega) (by omega) ?_
    exact V_ireti C hr dX3_examHeldAt_32 ⟨by simp [gO, q7], rfl, rfl, rfl⟩
  · have q7 : anyN (haB a p s) (nO a) = false := (fI_any (n := nO a) (by omega)).mp (by simpa using h9)
    exact V_throwNW (text := "no exam at this slot") C ht twn (by decide +kernel) (by simp [GX, gO, q7]) dX3_examHeldAt_12 dX3_examHeldAt_15 dX3_examHeldAt_16 dX3_examHeldAt_19 dX3_examHeldAt_22 (by decide) (by decide)
