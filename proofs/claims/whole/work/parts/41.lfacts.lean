theorem IQ.rs0 {q : Mem} (hI : IQ q) : ∀ i, i < nO q → anyN (rsB q i) (nO q) = false := fun i hi => anyN_f.mpr (fun j hj => by
  unfold rsB
  by_cases e : j = i
  · rw [decide_eq_true e]; rfl
  · by_cases g : q (18 + 4 * j) 2 = q (18 + 4 * i) 2
    · have h := hI.sh j i hj hi e g
      rw [decide_eq_false h, Bool.and_false]
    · rw [decide_eq_false g, Bool.and_false, Bool.false_and])
/-- the loop's test: six ints more -/
theorem six_go {n L : Nat} (hL : L ≤ 3072) (hn : n ≤ 3072) : (Int32.ofNat L - 6 < nI n ↔ L < n + 6) := by
  have e1 : (Int32.ofNat L - 6).toInt = (L : Int) - 6 := by
    have e6 : (6 : Int32).toInt = 6 := by decide
    have eL : (Int32.ofNat L).toInt = (L : Int) := nI_toInt (by omega)
    rw [Int32.toInt_sub, eL, e6]
    apply Int.bmod_eq_of_le <;> omega
  rw [Int32.lt_iff_toInt_lt, e1, nI_toInt (by omega)]
  omega
