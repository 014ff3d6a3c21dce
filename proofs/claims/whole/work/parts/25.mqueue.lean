/-! seats and queues -/
def KP (b b' : Mem) : Prop := (∀ k, b' 79 k = b 79 k) ∧ (∀ k, b' 80 k = b 80 k) ∧ (∀ k, b' 86 k = b 86 k) ∧ b' 70 0 = b 70 0 ∧ b' 70 7 = b 70 7
theorem KP.rf {b : Mem} : KP b b := ⟨fun _ => rfl, fun _ => rfl, fun _ => rfl, rfl, rfl⟩
theorem KP.tr {b b1 b2 : Mem} (h : KP b b1) (g : KP b1 b2) : KP b b2 := ⟨fun k => (g.1 k).trans (h.1 k), fun k => (g.2.1 k).trans (h.2.1 k), fun k => (g.2.2.1 k).trans (h.2.2.1 k), g.2.2.2.1.trans h.2.2.2.1, g.2.2.2.2.trans h.2.2.2.2⟩
theorem KP.up {b : Mem} {c k : Nat} {v : Int32} (h : c ≠ 79 ∧ c ≠ 80 ∧ c ≠ 86 ∧ (c ≠ 70 ∨ (k ≠ 0 ∧ k ≠ 7))) : KP b (up2 b c k v) := ⟨fun j => up2_o (by omega), fun j => up2_o (by omega), fun j => up2_o (by omega), up2_o (by omega), up2_o (by omega)⟩
def brB (b : Mem) (p : Nat) (v : Int32) : Mem := up2 (up2 b 84 p (b 84 p + v)) 70 6 (b 70 6 + v)
theorem RR.pay {q b : Mem} (h : RR q b) {p : Nat} {v : Int32} (hp : p < 10) : RR (payA q p v) (brB b p v) := by
  obtain ⟨r1, r2, r3, r4, r5, r6, r7, r8, r9, r10, r11, r12, r13, r14, r15, r16, r17, r18, r19⟩ := h
  refine ⟨?_, ?_, ?_, ?_, ?_, ?_, ?_, ?_, ?_, ?_, ?_, ?_, ?_, ?_, ?_, ?_, ?_, ?_, ?_⟩ <;> (simp only [payA, brB, up2]; grind)
theorem RR.paid {q b : Mem} (h : RR q b) {p i : Nat} {v : Int32} (hp : p < 10) (hi : i < 12) : RR (up2 q (18 + 4 * i + 1) p v) (up2 b 81 (p * 12 + i) v) := by
  obtain ⟨r1, r2, r3, r4, r5, r6, r7, r8, r9, r10, r11, r12, r13, r14, r15, r16, r17, r18, r19⟩ := h
  refine ⟨?_, ?_, ?_, ?_, ?_, ?_, ?_, ?_, ?_, ?_, ?_, ?_, ?_, ?_, ?_, ?_, ?_, ?_, ?_⟩ <;> (simp only [up2]; grind)
theorem RR.pts {q b : Mem} (h : RR q b) {p : Nat} {v : Int32} (hp : p < 10) : RR (up2 q 67 p v) (up2 b 84 p v) := by
  obtain ⟨r1, r2, r3, r4, r5, r6, r7, r8, r9, r10, r11, r12, r13, r14, r15, r16, r17, r18, r19⟩ := h
  refine ⟨?_, ?_, ?_, ?_, ?_, ?_, ?_, ?_, ?_, ?_, ?_, ?_, ?_, ?_, ?_, ?_, ?_, ?_, ?_⟩ <;> (simp only [up2]; grind)
/-- one leaves a queue: what the reference's cells are behind -/
def dlM (b : Mem) (i pl k : Nat) : Mem := fun c j => if (c = 77 ∨ c = 78) ∧ 10 * i + pl ≤ j ∧ j < 10 * i + k then b c (j + 1) else b c j
def lvM (q b : Mem) (i : Nat) (p : Int32) : Mem := if firN (qAt q i p) (qW q i) < qW q i then up2 (dlM b i (firN (qAt q i p) (qW q i)) (qW q i - 1)) 76 i (nI (qW q i - 1)) else b
theorem dlM_0 {b : Mem} {i pl : Nat} : b = dlM b i pl pl := by
  funext c j
  simp only [dlM]
  rw [if_neg (by omega)]
theorem dlM_s {b : Mem} {i pl k : Nat} (h : pl ≤ k) : up2 (up2 (dlM b i pl k) 77 (10 * i + k) (b 77 (10 * i + k + 1))) 78 (10 * i + k) (b 78 (10 * i + k + 1)) = dlM b i pl (k + 1) := by
  funext c j
  simp only [up2, dlM]
  grind
theorem RR.lv {q b : Mem} (h : RR q b) {i : Nat} {p : Int32} (hi : i < 12) (hw : qW q i ≤ 10) : RR (noMore q i p (qW q i)) (lvM q b i p) := by
  unfold noMore lvM
  by_cases hf : firN (qAt q i p) (qW q i) < qW q i
  · rw [if_pos hf, if_pos hf]
    generalize firN (qAt q i p) (qW q i) = pl at hf ⊢
    generalize qW q i = w at hf hw ⊢
    obtain ⟨r1, r2, r3, r4, r5, r6, r7, r8, r9, r10, r11, r12, r13, r14, r15, r16, r17, r18, r19⟩ := h
    refine ⟨?_, ?_, ?_, ?_, ?_, ?_, ?_, ?_, ?_, ?_, ?_, ?_, ?_, ?_, ?_, ?_, ?_, ?_, ?_⟩ <;> (simp only [delK, dlM, up2]; grind)
  · rw [if_neg hf, if_neg hf]
    exact h
theorem KP.lv {q b : Mem} {i : Nat} {p : Int32} : KP b (lvM q b i p) := by
  unfold lvM
  split
  · refine ⟨fun k => ?_, fun k => ?_, fun k => ?_, ?_, ?_⟩ <;> (rw [up2_o (by omega), dlM, if_neg (by omega)])
  · exact KP.rf

