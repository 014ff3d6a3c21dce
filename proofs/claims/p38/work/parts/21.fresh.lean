/-! fresh cells -/
def a00 : Mem := fun c j => if c = 4 ∨ c = 7 ∨ c = 10 then -1 else if c = 12 then nI j else if 18 ≤ c ∧ c < 66 ∧ (c - 18) % 4 = 1 then -1 else 0
theorem a00_0 {c j : Nat} (h : c ≠ 4 ∧ c ≠ 7 ∧ c ≠ 10 ∧ c ≠ 12 ∧ (c < 18 ∨ 66 ≤ c ∨ (c - 18) % 4 ≠ 1)) : a00 c j = 0 := by
  unfold a00
  rw [if_neg (by omega), if_neg (by omega), if_neg (by omega)]
theorem a00_p {i j : Nat} (hi : i < 12) : a00 (18 + 4 * i + 1) j = -1 := by
  unfold a00
  rw [if_neg (by omega), if_neg (by omega), if_pos (by omega)]
theorem hs_f {q : Mem} {i p : Nat} : hs q i p = false ↔ q (18 + 4 * i + 1) p = -1 := by simp [hs]
theorem a00_hs {i p : Nat} (hi : i < 12) : hs a00 i p = false := hs_f.mpr (a00_p hi)
theorem isN_0 (n : Nat) : isN 0 n := ⟨by decide, Nat.zero_le _⟩
theorem WC_00 : WC a00 := by
  have h0 : ∀ c j, c ≠ 4 ∧ c ≠ 7 ∧ c ≠ 10 ∧ c ≠ 12 ∧ (c < 18 ∨ 66 ≤ c ∨ (c - 18) % 4 ≠ 1) → a00 c j = 0 := fun c j h => a00_0 h
  refine ⟨?_, ?_, ?_, ?_, fun i hi => ?_, fun f hf => ?_, ?_, fun k hk => ?_, fun s hs => ?_⟩
  · rw [h0 _ _ (by omega)]; exact isN_0 _
  · rw [h0 _ _ (by omega)]; exact isN_0 _
  · rw [h0 _ _ (by omega)]; exact isN_0 _
  · rw [h0 _ _ (by omega)]; exact isN_0 _
  · refine ⟨?_, ?_, ?_, ?_, ?_, fun k hk => ?_⟩
    · rw [h0 _ _ (by omega)]; exact isN_0 _
    · rw [h0 _ _ (by omega)]; exact isN_0 _
    · rw [h0 _ _ (by omega)]; exact Or.inl rfl
    · rw [h0 _ _ (by omega)]; exact isN_0 _
    · rw [h0 _ _ (by omega)]; exact isN_0 _
    · rw [h0 _ _ (by omega)]; exact isN_0 _
  · show isN (a00 12 f) 2
    have : a00 12 f = nI f := by
      unfold a00
      rw [if_neg (by omega), if_pos rfl]
    rw [this]
    exact isN.of rfl (by omega) (by decide)
  · rw [h0 _ _ (by omega)]; exact isN_0 _
  · have : bW a00 = 0 := congrArg tn (h0 13 3 (by omega))
    omega
  · rw [h0 _ _ (by omega)]; exact Or.inl rfl
