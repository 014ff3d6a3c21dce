/-! floats: no answer of these is a NaN -/
def gd32 : FP.Core.Datum → Prop
  | .nan => False
  | .inf _ => True
  | .fin _ c q => c < 16777216 ∧ q ≤ 104
def nn32 (n : Nat) : Prop := n % 2147483648 ≤ 2139095040
theorem enc32 {d : FP.Core.Datum} (h : gd32 d) : nn32 (FP.Core.encode FP.Core.b32 d) := by
  have e1 : FP.Core.b32.tails = 8388608 := by decide
  have e2 : FP.Core.b32.exps = 256 := by decide
  have e3 : FP.Core.b32.qmin = -149 := by decide
  match d, h with
  | .inf s, _ =>
    simp only [FP.Core.encode, FP.Core.assemble, e1, e2]
    unfold nn32; cases s <;> decide
  | .fin s c q, h =>
    obtain ⟨h1, h2⟩ := h
    simp only [FP.Core.encode, FP.Core.assemble, e1, e2, e3]
    unfold nn32
    split
    · cases s
      · simp only [Bool.toNat_false]; omega
      · simp only [Bool.toNat_true]; omega
    · cases s
      · simp only [Bool.toNat_false]; omega
      · simp only [Bool.toNat_true]; omega
theorem rr32 (s : Bool) (a b : Nat) (q : Int) : gd32 (FP.Core.roundRatio FP.Core.b32 s a b q) := by
  have e1 : FP.Core.b32.tails = 8388608 := by decide
  have e3 : FP.Core.b32.qmin = -149 := by decide
  have e4 : FP.Core.b32.qmax = 104 := by decide
  have e5 : (2 : Nat) ^ FP.Core.b32.p = 16777216 := by decide
  unfold FP.Core.roundRatio
  split
  · rw [e3]; exact ⟨by decide, by decide⟩
  · unfold FP.Core.roundAt FP.Core.settle FP.Core.bound
    rw [e4, e5]
    split
    · split
      · rename_i h1 h2; exact ⟨h1, h2⟩
      · trivial
    · split
      · rename_i h1 h2; exact ⟨by rw [e1]; decide, h2⟩
      · trivial
theorem rd32 {d : FP.Core.Datum} (h : d ≠ .nan) : gd32 (FP.Core.round FP.Core.b32 d) := by
  match d, h with
  | .nan, h => exact absurd rfl h
  | .inf s, _ => trivial
  | .fin s c q, _ => exact rr32 s c 1 q
theorem qu32 {d1 d2 : FP.Core.Datum} (h1 : d1 ≠ .nan) (h2 : ∃ t c r, d2 = .fin t c r ∧ c ≠ 0) : gd32 (FP.Core.quotient FP.Core.b32 d1 d2) := by
  obtain ⟨t, c, r, rfl, hc⟩ := h2
  match d1, h1 with
  | .nan, h => exact absurd rfl h
  | .inf s, _ => trivial
  | .fin s c1 q, _ =>
    simp only [FP.Core.quotient, if_neg hc]
    exact rr32 _ c1 c _
theorem dec32 {n : Nat} (h : nn32 n) : FP.Core.decode FP.Core.b32 n ≠ .nan := by
  have e1 : FP.Core.b32.tails = 8388608 := by decide
  have e2 : FP.Core.b32.exps = 256 := by decide
  unfold FP.Core.decode FP.Core.fieldE FP.Core.fieldT
  rw [e1, e2]
  unfold nn32 at h
  split
  · split
    · intro z; cases z
    · rename_i h1 h2; exact absurd (by omega : n % 8388608 = 0) h2
  · split
    · intro z; cases z
    · intro z; cases z
theorem nnU32 (n : Nat) : nn32 (UInt32.ofNat n).toNat ↔ nn32 n := by
  unfold nn32
  have e : (UInt32.ofNat n).toNat = n % 4294967296 := by rfl
  rw [e]
  have : n % 4294967296 % 2147483648 = n % 2147483648 := by omega
  rw [this]
theorem vfU32 (r : UInt32) : vf_n32 r ↔ nn32 r.toNat := by
  unfold vf_n32 nn32
  rw [UInt32.le_iff_toNat_le, UInt32.toNat_and]
  have e1 : (0x7fffffff : UInt32).toNat = 2 ^ 31 - 1 := by decide
  have e2 : (0x7f800000 : UInt32).toNat = 2139095040 := by decide
  rw [e1, e2, Nat.and_two_pow_sub_one_eq_mod]
def gd64 : FP.Core.Datum → Prop
  | .nan => False
  | .inf _ => True
  | .fin _ c q => c < 9007199254740992 ∧ q ≤ 971
def nn64 (n : Nat) : Prop := n % 9223372036854775808 ≤ 9218868437227405312
theorem enc64 {d : FP.Core.Datum} (h : gd64 d) : nn64 (FP.Core.encode FP.Core.b64 d) := by
  have e1 : FP.Core.b64.tails = 4503599627370496 := by decide
  have e2 : FP.Core.b64.exps = 2048 := by decide
  have e3 : FP.Core.b64.qmin = -1074 := by decide
  match d, h with
  | .inf s, _ =>
    simp only [FP.Core.encode, FP.Core.assemble, e1, e2]
    unfold nn64; cases s <;> decide
  | .fin s c q, h =>
    obtain ⟨h1, h2⟩ := h
    simp only [FP.Core.encode, FP.Core.assemble, e1, e2, e3]
    unfold nn64
    split
    · cases s
      · simp only [Bool.toNat_false]; omega
      · simp only [Bool.toNat_true]; omega
    · cases s
      · simp only [Bool.toNat_false]; omega
      · simp only [Bool.toNat_true]; omega
theorem rr64 (s : Bool) (a b : Nat) (q : Int) : gd64 (FP.Core.roundRatio FP.Core.b64 s a b q) := by
  have e1 : FP.Core.b64.tails = 4503599627370496 := by decide
  have e3 : FP.Core.b64.qmin = -1074 := by decide
  have e4 : FP.Core.b64.qmax = 971 := by decide
  have e5 : (2 : Nat) ^ FP.Core.b64.p = 9007199254740992 := by decide
  unfold FP.Core.roundRatio
  split
  · rw [e3]; exact ⟨by decide, by decide⟩
  · unfold FP.Core.roundAt FP.Core.settle FP.Core.bound
    rw [e4, e5]
    split
    · split
      · rename_i h1 h2; exact ⟨h1, h2⟩
      · trivial
    · split
      · rename_i h1 h2; exact ⟨by rw [e1]; decide, h2⟩
      · trivial
theorem rd64 {d : FP.Core.Datum} (h : d ≠ .nan) : gd64 (FP.Core.round FP.Core.b64 d) := by
  match d, h with
  | .nan, h => exact absurd rfl h
  | .inf s, _ => trivial
  | .fin s c q, _ => exact rr64 s c 1 q
theorem qu64 {d1 d2 : FP.Core.Datum} (h1 : d1 ≠ .nan) (h2 : ∃ t c r, d2 = .fin t c r ∧ c ≠ 0) : gd64 (FP.Core.quotient FP.Core.b64 d1 d2) := by
  obtain ⟨t, c, r, rfl, hc⟩ := h2
  match d1, h1 with
  | .nan, h => exact absurd rfl h
  | .inf s, _ => trivial
  | .fin s c1 q, _ =>
    simp only [FP.Core.quotient, if_neg hc]
    exact rr64 _ c1 c _
theorem dec64 {n : Nat} (h : nn64 n) : FP.Core.decode FP.Core.b64 n ≠ .nan := by
  have e1 : FP.Core.b64.tails = 4503599627370496 := by decide
  have e2 : FP.Core.b64.exps = 2048 := by decide
  unfold FP.Core.decode FP.Core.fieldE FP.Core.fieldT
  rw [e1, e2]
  unfold nn64 at h
  split
  · split
    · intro z; cases z
    · rename_i h1 h2; exact absurd (by omega : n % 4503599627370496 = 0) h2
  · split
    · intro z; cases z
    · intro z; cases z
theorem nnU64 (n : Nat) : nn64 (UInt64.ofNat n).toNat ↔ nn64 n := by
  unfold nn64
  have e : (UInt64.ofNat n).toNat = n % 18446744073709551616 := by rfl
  rw [e]
  have : n % 18446744073709551616 % 9223372036854775808 = n % 9223372036854775808 := by omega
  rw [this]
theorem vfU64 (r : UInt64) : vf_n64 r ↔ nn64 r.toNat := by
  unfold vf_n64 nn64
  rw [UInt64.le_iff_toNat_le, UInt64.toNat_and]
  have e1 : (0x7fffffffffffffff : UInt64).toNat = 2 ^ 63 - 1 := by decide
  have e2 : (0x7ff0000000000000 : UInt64).toNat = 9218868437227405312 := by decide
  rw [e1, e2, Nat.and_two_pow_sub_one_eq_mod]

theorem i2f_nn (v : Int32) : nn32 (FP.i2f v).toNat := (nnU32 _).mpr (enc32 (rd32 (by intro z; cases z)))
theorem i2d_nn (v : Int32) : nn64 (FP.i2d v).toNat := (nnU64 _).mpr (enc64 (rd64 (by intro z; cases z)))
def finN : FP.Core.Datum → Bool
  | .fin _ c _ => c != 0
  | _ => false
theorem finN_e {d : FP.Core.Datum} (h : finN d = true) : ∃ t c r, d = .fin t c r ∧ c ≠ 0 := by
  match d, h with
  | .fin t c r, h => exact ⟨t, c, r, rfl, by simpa [finN] using h⟩
theorem i2f_ok : ∀ n, n < 73 → n ≠ 0 → finN (FP.Core.decode FP.Core.b32 (FP.i2f (nI n)).toNat) = true := by decide +kernel
theorem i2d_ok : ∀ n, n < 11 → n ≠ 0 → finN (FP.Core.decode FP.Core.b64 (FP.i2d (nI n)).toNat) = true := by decide +kernel
theorem fdiv_nn (v : Int32) {n : Nat} (h : n < 73) (h0 : n ≠ 0) : vf_n32 (FP.fdiv (FP.i2f v) (FP.i2f (nI n))) :=
  (vfU32 _).mpr ((nnU32 _).mpr (enc32 (qu32 (dec32 (i2f_nn v)) (finN_e (i2f_ok n h h0)))))
theorem ddiv_nn (v : Int32) {n : Nat} (h : n < 11) (h0 : n ≠ 0) : vf_n64 (FP.ddiv (FP.i2d v) (FP.i2d (nI n))) :=
  (vfU64 _).mpr ((nnU64 _).mpr (enc64 (qu64 (dec64 (i2d_nn v)) (finN_e (i2d_ok n h h0)))))
theorem f2d_nn {r : UInt32} (h : vf_n32 r) : vf_n64 (FP.f2d r) := by
  have hd := dec32 ((vfU32 r).mp h)
  have e : FP.Core.fIsNaN r = false := by unfold FP.Core.fIsNaN FP.Core.isNaN; exact decide_eq_false hd
  unfold FP.f2d
  rw [e]
  exact (vfU64 _).mpr ((nnU64 _).mpr (enc64 (rd64 hd)))
section VVF
variable {p : Program} {l : Launch} {e : Env} {R : Room} {s : State} {m : MethodId} {args : Array Value} {below : List Frame} {meth : Method} {c : Code} {Q : State → Prop} {x : Sh} {nL : Nat} {a b : Mem} {o : Out} {cells slots pc : Nat} {lv : List (Option Value)} {st rest : List Value} {cc : ByteArray} {own : String}
def QF (x : Sh) (o : Out) (Φ : UInt32 → Mem → Mem → Prop) (sz : Nat) : Array Value → State → Outcome → State → Prop := va_Qf (S := Mem × Mem) (fun r u => Φ r u.1 u.2) (fun u t => va_P x.1 vwCl (wd x u.1 u.2 o) t.heap) (AW x sz)
def QDD (x : Sh) (o : Out) (Φ : UInt64 → Mem → Mem → Prop) (sz : Nat) : Array Value → State → Outcome → State → Prop := va_Qd (S := Mem × Mem) (fun r u => Φ r u.1 u.2) (fun u t => va_P x.1 vwCl (wd x u.1 u.2 o) t.heap) (AW x sz)
def FF (F : UInt32) (A' B' : Mem) : UInt32 → Mem → Mem → Prop := fun r a' b' => r = F ∧ a' = A' ∧ b' = B'
def FD (F : UInt64) (A' B' : Mem) : UInt64 → Mem → Mem → Prop := fun r a' b' => r = F ∧ a' = A' ∧ b' = B'
def GF (g : Option String) (F : UInt32) (A' B' : Mem) : UInt32 → Mem → Mem → Prop := fun r a' b' => g = none ∧ r = F ∧ a' = A' ∧ b' = B'
def GD (g : Option String) (F : UInt64) (A' B' : Mem) : UInt64 → Mem → Mem → Prop := fun r a' b' => g = none ∧ r = F ∧ a' = A' ∧ b' = B'
theorem V_fret (C : CX p l s m meth c x cc own nL) {Φ : UInt32 → Mem → Mem → Prop} {v : UInt32} (hr : meth.sig.returnType = some .float) (hd : decode cc pc = .ok (.freturn, 1)) (h : Φ v a b) : VV p l e R s m args below meth c (MQ below (QF x o Φ s.heap.size) args s cells slots (AW x s.heap.size)) x nL a b o cells slots pc lv [.float v] :=
  fun H locs ls hP hS hL => W.fret C.1 C.2.1 hr (fun t ht hW => ⟨⟨v, (a, b), rfl, h, by show va_P _ _ _ t.heap; rw [ht]; exact hP⟩, hS.F ht⟩) hS.2.2 hd C.2.2.2.2.2.1
theorem V_dret (C : CX p l s m meth c x cc own nL) {Φ : UInt64 → Mem → Mem → Prop} {v : UInt64} (hr : meth.sig.returnType = some .double) (hd : decode cc pc = .ok (.dreturn, 1)) (h : Φ v a b) : VV p l e R s m args below meth c (MQ below (QDD x o Φ s.heap.size) args s cells slots (AW x s.heap.size)) x nL a b o cells slots pc lv [.double v] :=
  fun H locs ls hP hS hL => W.dret C.1 C.2.1 hr (fun t ht hW => ⟨⟨v, (a, b), rfl, h, by show va_P _ _ _ t.heap; rw [ht]; exact hP⟩, hS.F ht⟩) hS.2.2 hd C.2.2.2.2.2.1
theorem V_fdiv (C : CX p l s m meth c x cc own nL) {y1 y2 : UInt32} (hd : decode cc pc = .ok (.fdiv, 1)) (hne : vf_n32 (FP.fdiv y1 y2)) (kk : VV p l e R s m args below meth c Q x nL a b o cells slots (pc + 1) lv (.float (FP.fdiv y1 y2) :: st)) : VV p l e R s m args below meth c Q x nL a b o cells slots pc lv (.float y2 :: .float y1 :: st) := fun H locs ls hP hS hL => lv_fdiv C.1 C.2.1 hd hne (kk H locs ls hP hS hL)
theorem V_ddiv (C : CX p l s m meth c x cc own nL) {y1 y2 : UInt64} (hd : decode cc pc = .ok (.ddiv, 1)) (hne : vf_n64 (FP.ddiv y1 y2)) (kk : VV p l e R s m args below meth c Q x nL a b o cells slots (pc + 1) lv (.double (FP.ddiv y1 y2) :: st)) : VV p l e R s m args below meth c Q x nL a b o cells slots pc lv (.double y2 :: .double y1 :: st) := fun H locs ls hP hS hL => lv_ddiv C.1 C.2.1 hd hne (kk H locs ls hP hS hL)
theorem V_fconst0 (C : CX p l s m meth c x cc own nL) (hd : decode cc pc = .ok (.fconst 0, 1)) (kk : VV p l e R s m args below meth c Q x nL a b o cells slots (pc + 1) lv (.float FP.fconst0 :: st)) : VV p l e R s m args below meth c Q x nL a b o cells slots pc lv st := fun H locs ls hP hS hL => lv_fconst0 C.1 C.2.1 hd (kk H locs ls hP hS hL)
theorem V_dconst0 (C : CX p l s m meth c x cc own nL) (hd : decode cc pc = .ok (.dconst 0, 1)) (kk : VV p l e R s m args below meth c Q x nL a b o cells slots (pc + 1) lv (.double FP.dconst0 :: st)) : VV p l e R s m args below meth c Q x nL a b o cells slots pc lv st := fun H locs ls hP hS hL => lv_dconst0 C.1 C.2.1 hd (kk H locs ls hP hS hL)
end VVF
/-- all seats, and those taken -/
def sumK (f : Nat → Nat) : Nat → Nat
  | 0 => 0
  | n + 1 => sumK f n + f n
theorem sumK_le {f : Nat → Nat} {c n : Nat} (h : ∀ i, i < n → f i ≤ c) : sumK f n ≤ c * n := by
  induction n with
  | zero => simp [sumK]
  | succ n ih =>
    have h1 := ih (fun i hi => h i (by omega))
    have h2 := h n (by omega)
    rw [sumK, Nat.mul_succ]; omega
theorem sumK_ge {f : Nat → Nat} {n : Nat} (h : ∀ i, i < n → 1 ≤ f i) : n ≤ sumK f n := by
  induction n with
  | zero => exact Nat.zero_le _
  | succ n ih =>
    have h1 := ih (fun i hi => h i (by omega))
    have h2 := h n (by omega)
    rw [sumK]; omega
theorem sumK_congr {f g : Nat → Nat} {n : Nat} (h : ∀ i, i < n → f i = g i) : sumK f n = sumK g n := by
  induction n with
  | zero => rfl
  | succ n ih => rw [sumK, sumK, ih (fun i hi => h i (by omega)), h n (by omega)]
def gzero (v : Int32) : Option String := if v = 0 then some "java/lang/ArithmeticException" else none
def shF (t : Int32) (q : Int32) : UInt32 := FP.fdiv (FP.i2f t) (FP.i2f q)
def mnF (t : Int32) (q : Int32) : UInt64 := FP.ddiv (FP.i2d t) (FP.i2d q)

set_option maxHeartbeats 4000000 in
set_option maxRecDepth 100000 in
theorem c_X3_takenShare {l : Launch} {x : Sh} {a b : Mem} {o : Out} (hfl : l.stackTraces = false) (hW : WC a) (h1 : ∀ i, i < nO a → 1 ≤ stN a i) : XG l x yX3_takenShare cX3_takenShare 4 (some .float) 7 320 1 6 [.ref (x.2.1 0)] a b o (QF x o (GF (gzero (a 0 10)) (shF (nI (sumK (nTaken a) (nO a))) (nI (sumK (stN a) (nO a)))) a b)) (GX (gzero (a 0 10))) := by
  refine XG.of (maxL := 4) (ret := (some .float)) hfl (by decide) [some (.ref (x.2.1 0)), none, none, none] rfl rfl (Nat.le_of_ble_eq_true rfl) ?_
  intro pP eE sS mM argsA belowB methM cC C hr ht
  have ho12 := hW.ol
  have hst := @WC.stl a hW
  refine V_aload_n C dX3_takenShare_0 rfl ?_
  refine gt_X3_offerCount C fk_X3_91 dX3_takenShare_1 ?_
  refine V_if_ne C 18 dX3_takenShare_4 (by decide) (fun h4 => ?_) (fun h4 => ?_)
  · refine V_iconst (v := nI 0) C dX3_takenShare_18 (by decide) ?_
    refine V_istore_n1 C dX3_takenShare_19 (by decide) ?_
    refine V_iconst (v := nI 0) C dX3_takenShare_20 (by decide) ?_
    refine V_istore_n2 C dX3_takenShare_21 (by decide) ?_
    refine V_iconst (v := nI 0) C dX3_takenShare_22 (by decide) ?_
    refine V_istore_n3 C dX3_takenShare_23 (by decide) ?_
    have L24 : ∀ (fuel : Nat) (k : Nat), k ≤ nO a → nO a - k < fuel → VV pP l eE ({ frames := 7, cells := 1, slots := 6, locals := 320 } : Room) sS mM argsA belowB methM cC (vx_MQ belowB (QF x o (GF (gzero (a 0 10)) (shF (nI (sumK (nTaken a) (nO a))) (nI (sumK (stN a) (nO a)))) a b) sS.heap.size) (XCd (GX (gzero (a 0 10))) x a b o sS.heap.size) argsA sS 1 6 (AW x sS.heap.size)) x 4 a b o 0 0 24 [some (.ref (x.2.1 0)), some (.int (nI (sumK (nTaken a) k))), some (.int (nI (sumK (stN a) k))), some (.int (nI k))] [] := by
      intro fuel
      induction fuel with
      | zero => intro k hk hm; exact absurd hm (Nat.not_lt_zero _)
      | succ fuel ih24 =>
        intro k hk hm
        refine V_iload_n C dX3_takenShare_24 rfl ?_
        refine V_aload_n C dX3_takenShare_25 rfl ?_
        refine gt_X3_offerCount C fk_X3_91 dX3_takenShare_26 ?_
        refine V_topi hW.oe ?_
        refine V_lt C 62 dX3_takenShare_29 (by decide) (by omega) (by omega) (fun h29 => ?_) (fun h29 => ?_)
        · have e9 : k = nO a := by omega
          subst e9
          have h8 := sumK_le (f := stN a) (c := 6) (n := nO a) (fun i hi => hst (by omega))
          have h7 := sumK_ge h1
          have hn0 : nO a ≠ 0 := by
            intro z
            apply h4
            rw [hW.oe, z]
            rfl
          refine V_iload_n C dX3_takenShare_62 rfl ?_
          refine V_i2f C dX3_takenShare_63 ?_
          refine V_iload_n C dX3_takenShare_64 rfl ?_
          refine V_i2f C dX3_takenShare_65 ?_
          refine V_fdiv C dX3_takenShare_66 (fdiv_nn _ (by omega) (by omega)) ?_
          refine V_xret (by omega) (by omega) ?_
          exact V_fret C hr dX3_takenShare_67 ⟨by simp [gzero, h4], rfl, rfl, rfl⟩
        · refine V_iload_n C dX3_takenShare_32 rfl ?_
          refine V_aload_n C dX3_takenShare_33 rfl ?_
          refine gt_X3_offers C fk_X3_25 dX3_takenShare_34 ?_
          refine V_iload_n C dX3_takenShare_37 rfl ?_
          refine la_offers C _ rfl (by omega) dX3_takenShare_38 ?_
          refine V_callf (R_VN C (c_X0_countTaken hfl (by omega)) mi_X0_countTaken mk_X3_169 rfl (by omega) ((GE_C (by omega)).trans (GC_O (by omega))) (rfl : vwCl[2]? = some (RX0, TX0, 9)) (by decide) rfl (Nat.le_of_ble_eq_true rfl) (by decide) dX3_takenShare_39) ?_
          refine V_iadd C dX3_takenShare_42 ?_
          refine V_topi (nI_add _ _) ?_
          refine V_istore_n1 C dX3_takenShare_43 (by decide) ?_
          refine V_iload_n C dX3_takenShare_44 rfl ?_
          refine V_aload_n C dX3_takenShare_45 rfl ?_
          refine gt_X3_offers C fk_X3_25 dX3_takenShare_46 ?_
          refine V_iload_n C dX3_takenShare_49 rfl ?_
          refine la_offers C _ rfl (by omega) dX3_takenShare_50 ?_
          refine gt_X0_seats C (by omega) fk_X3_215 dX3_takenShare_51 ?_
          refine V_topi (hW.ste (by omega)) ?_
          refine V_iadd C dX3_takenShare_54 ?_
          refine V_topi (nI_add _ _) ?_
          refine V_istore_n2 C dX3_takenShare_55 (by decide) ?_
          refine V_iinc_3 C _ dX3_takenShare_56 (nI_1 _) (by decide) ?_
          refine V_goto C 24 dX3_takenShare_59 (by decide) ?_
          exact ih24 (k + 1) (by omega) (by omega)
    exact L24 _ 0 (Nat.zero_le _) (Nat.lt_succ_self _)
  · exact V_throwSW (text := "no offers") C ht tw_X3_ArithmeticException (by decide +kernel) (by simp [GX, gzero, h4]) dX3_takenShare_7 dX3_takenShare_10 dX3_takenShare_11 dX3_takenShare_14 dX3_takenShare_17 (by decide) (by decide)
set_option maxHeartbeats 4000000 in
set_option maxRecDepth 100000 in
theorem c_X3_meanPoints {l : Launch} {x : Sh} {a b : Mem} {o : Out} (hfl : l.stackTraces = false) (hW : WC a) : XG l x yX3_meanPoints cX3_meanPoints 3 (some .double) 7 320 1 6 [.ref (x.2.1 0)] a b o (QDD x o (GD (gzero (a 0 9)) (mnF (sumN (a 67) (nP a)) (a 0 9)) a b)) (GX (gzero (a 0 9))) := by
  refine XG.of (maxL := 3) (ret := (some .double)) hfl (by decide) [some (.ref (x.2.1 0)), none, none] rfl rfl (Nat.le_of_ble_eq_true rfl) ?_
  intro pP eE sS mM argsA belowB methM cC C hr ht
  have hp10 := hW.pl
  refine V_aload_n C dX3_meanPoints_0 rfl ?_
  refine gt_X3_pupilCount C fk_X3_65 dX3_meanPoints_1 ?_
  refine V_if_ne C 18 dX3_meanPoints_4 (by decide) (fun h4 => ?_) (fun h4 => ?_)
  · refine V_iconst (v := 0) C dX3_meanPoints_18 (by decide) ?_
    refine V_istore_n1 C dX3_meanPoints_19 (by decide) ?_
    refine V_iconst (v := nI 0) C dX3_meanPoints_20 (by decide) ?_
    refine V_istore_n2 C dX3_meanPoints_21 (by decide) ?_
    have L22 : ∀ (fuel : Nat) (k : Nat), k ≤ nP a → nP a - k < fuel → VV pP l eE ({ frames := 7, cells := 1, slots := 6, locals := 320 } : Room) sS mM argsA belowB methM cC (vx_MQ belowB (QDD x o (GD (gzero (a 0 9)) (mnF (sumN (a 67) (nP a)) (a 0 9)) a b) sS.heap.size) (XCd (GX (gzero (a 0 9))) x a b o sS.heap.size) argsA sS 1 6 (AW x sS.heap.size)) x 3 a b o 0 0 22 [some (.ref (x.2.1 0)), some (.int (sumN (a 67) k)), some (.int (nI k))] [] := by
      intro fuel
      induction fuel with
      | zero => intro k hk hm; exact absurd hm (Nat.not_lt_zero _)
      | succ fuel ih22 =>
        intro k hk hm
        refine V_iload_n C dX3_meanPoints_22 rfl ?_
        refine V_aload_n C dX3_meanPoints_23 rfl ?_
        refine gt_X3_pupilCount C fk_X3_65 dX3_meanPoints_24 ?_
        refine V_topi hW.pe ?_
        refine V_lt C 45 dX3_meanPoints_27 (by decide) (by omega) (by omega) (fun h27 => ?_) (fun h27 => ?_)
        · have e9 : k = nP a := by omega
          subst e9
          have hn0 : nP a ≠ 0 := by
            intro z
            apply h4
            rw [hW.pe, z]
            rfl
          refine V_iload_n C dX3_meanPoints_45 rfl ?_
          refine V_i2d C dX3_meanPoints_46 ?_
          refine V_aload_n C dX3_meanPoints_47 rfl ?_
          refine gt_X3_pupilCount C fk_X3_65 dX3_meanPoints_48 ?_
          refine V_topi hW.pe ?_
          refine V_i2d C dX3_meanPoints_51 ?_
          refine V_ddiv C dX3_meanPoints_52 (ddiv_nn _ (by omega) (by omega)) ?_
          refine V_xret (by omega) (by omega) ?_
          exact V_dret C hr dX3_meanPoints_53 ⟨by simp [gzero, h4], by rw [hW.pe]; rfl, rfl, rfl⟩
        · refine V_iload_n C dX3_meanPoints_30 rfl ?_
          refine V_aload_n C dX3_meanPoints_31 rfl ?_
          refine gt_X3_pointsLeft C fk_X3_34 dX3_meanPoints_32 ?_
          refine V_iload_n C dX3_meanPoints_35 rfl ?_
          refine la_left C _ rfl (by omega) dX3_meanPoints_36 ?_
          refine V_iadd C dX3_meanPoints_37 ?_
          refine V_istore_n1 C dX3_meanPoints_38 (by decide) ?_
          refine V_iinc_2 C _ dX3_meanPoints_39 (nI_1 _) (by decide) ?_
          refine V_goto C 22 dX3_meanPoints_42 (by decide) ?_
          exact ih22 (k + 1) (by omega) (by omega)
    exact L22 _ 0 (Nat.zero_le _) (Nat.lt_succ_self _)
  · exact V_throwSW (text := "no pupils") C ht tw_X3_ArithmeticException (by decide +kernel) (by simp [GX, gzero, h4]) dX3_meanPoints_7 dX3_meanPoints_10 dX3_meanPoints_11 dX3_meanPoints_14 dX3_meanPoints_17 (by decide) (by decide)
