/-! fresh cells -/
def a00 : Mem := fun c j => if c = 4 ∨ c = 7 ∨ c = 10 then -1 else if c = 12 then nI j else if 18 ≤ c ∧ c < 66 ∧ (c - 18) % 4 = 1 then -1 else 0
def b00 : Mem := fun c j => if c = 81 then -1 else if c = 82 ∧ j % 3 = 1 then -1 else if c = 83 then nI j else 0
theorem a00_0 {c j : Nat} (h : c ≠ 4 ∧ c ≠ 7 ∧ c ≠ 10 ∧ c ≠ 12 ∧ (c < 18 ∨ 66 ≤ c ∨ (c - 18) % 4 ≠ 1)) : a00 c j = 0 := by
  unfold a00
  rw [if_neg (by omega), if_neg (by omega), if_neg (by omega)]
theorem a00_p {i j : Nat} (hi : i < 12) : a00 (18 + 4 * i + 1) j = -1 := by
  unfold a00
  rw [if_neg (by omega), if_neg (by omega), if_pos (by omega)]
theorem a00_hs {i p : Nat} (hi : i < 12) : hs a00 i p = false := hs_f.mpr (a00_p hi)
theorem isN_0 (n : Nat) : isN 0 n := ⟨by decide, Nat.zero_le _⟩
theorem WC_00 : WC a00 := by
  have h0 : ∀ c j, c ≠ 4 ∧ c ≠ 7 ∧ c ≠ 10 ∧ c ≠ 12 ∧ (c < 18 ∨ 66 ≤ c ∨ (c - 18) % 4 ≠ 1) → a00 c j = 0 := fun c j h => a00_0 h
  refine ⟨?_, ?_, ?_, ?_, fun i hi => ?_, fun f hf => ?_, ?_, fun k hk => ?_, fun s hs => ?_⟩
  · rw [h0 _ _ (by omega)]; exact isN_0 _
  · rw [h0 _ _ (by omega)]; exact isN_0 _
  · rw [h0 _ _ (by omega)]; exact isN_0 _
  · rw [h0 _ _ (by omega)]; exact isN_0 _
  · refine ⟨?_, ?_, ?_, ?_, ?_, fun k hk => ?_⟩
    · rw [h0 _ _ (by omega)]; exact isN_0 _
    · rw [h0 _ _ (by omega)]; exact isN_0 _
    · rw [h0 _ _ (by omega)]; exact Or.inl rfl
    · rw [h0 _ _ (by omega)]; exact isN_0 _
    · rw [h0 _ _ (by omega)]; exact isN_0 _
    · rw [h0 _ _ (by omega)]; exact isN_0 _
  · show isN (a00 12 f) 2
    have : a00 12 f = nI f := by
      unfold a00
      rw [if_neg (by omega), if_pos rfl]
    rw [this]
    exact isN.of rfl (by omega) (by decide)
  · rw [h0 _ _ (by omega)]; exact isN_0 _
  · have : bW a00 = 0 := congrArg tn (h0 13 3 (by omega))
    omega
  · rw [h0 _ _ (by omega)]; exact Or.inl rfl
theorem IQ_00 : IQ a00 := by
  have h0 : ∀ c j, c ≠ 4 ∧ c ≠ 7 ∧ c ≠ 10 ∧ c ≠ 12 ∧ (c < 18 ∨ 66 ≤ c ∨ (c - 18) % 4 ≠ 1) → a00 c j = 0 := fun c j h => a00_0 h
  have eP : nP a00 = 0 := congrArg tn (h0 0 9 (by omega))
  have eO : nO a00 = 0 := congrArg tn (h0 0 10 (by omega))
  have eR : nR a00 = 0 := congrArg tn (h0 0 7 (by omega))
  have eB : bW a00 = 0 := congrArg tn (h0 13 3 (by omega))
  have eW : ∀ i, i < 12 → qW a00 i = 0 := fun i hi => congrArg tn (h0 (18 + 4 * i) 8 (by omega))
  refine ⟨fun p hp i j hij hj => by omega, fun p hp => by omega, fun i hi => by omega, fun i hi j k hj hk => by have := eW i hi; omega, fun i hi k hk => by have := eW i hi; omega, fun i hi k hk => by have := eW i hi; omega, fun i j hi => by omega, fun p h1 h2 => ⟨fun i hi => a00_hs hi, h0 _ _ (by omega)⟩, fun i h1 h2 => ⟨fun p hp => a00_hs h2, eW i h2⟩, fun i hi => by omega, fun r hr => by omega, fun p e hp he hx f s hf hs => ?_, fun k hk => by omega, fun j k hj hk => by omega, fun i p hi hp h => by rw [a00_hs hi] at h; cases h⟩
  unfold a00
  by_cases h : f = 1
  · subst h
    rw [if_pos (by omega), if_pos (by omega)]
  · rw [if_neg (by omega), if_neg (by omega), if_neg (by omega), if_neg (by omega), if_neg (by omega), if_neg (by omega)]
theorem RR_00 : RR a00 b00 := by
  refine ⟨?_, ?_, ?_, ?_, ?_, ?_, ?_, ?_, ?_, ?_, ?_, ?_, ?_, ?_, ?_, ?_, ?_, ?_, ?_⟩ <;> (simp only [a00, b00]; grind)
theorem JJ_00 : JJ a00 b00 0 := by
  have h0 : ∀ c j, c ≠ 4 ∧ c ≠ 7 ∧ c ≠ 10 ∧ c ≠ 12 ∧ (c < 18 ∨ 66 ≤ c ∨ (c - 18) % 4 ≠ 1) → a00 c j = 0 := fun c j h => a00_0 h
  have eO : nO a00 = 0 := congrArg tn (h0 0 10 (by omega))
  have eB : bW a00 = 0 := congrArg tn (h0 13 3 (by omega))
  have hb : ∀ c j, c ≠ 81 → c ≠ 82 → c ≠ 83 → b00 c j = 0 := fun c j h1 h2 h3 => by
    unfold b00
    rw [if_neg h1, if_neg (fun z => h2 z.1), if_neg h3]
  refine ⟨WC_00, IQ_00, RR_00, ⟨?_, fun j _ hj => by omega, fun m hm _ => hb _ _ (by decide) (by decide) (by decide), fun j hj => by omega, fun i j hi hj => by omega⟩, fun p e z hp he hz => ?_⟩
  · rw [hb _ _ (by decide) (by decide) (by decide)]
    exact ⟨by decide, by decide⟩
  · rw [hb _ _ (by decide) (by decide) (by decide)]
    unfold hsE
    rw [eO]
    rfl

