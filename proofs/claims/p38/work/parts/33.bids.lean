/-! the bids of a round as the law tells them; the round settled -/
theorem insPl_lt {g : Nat → Int32} {V : Int32} : ∀ n k, insPl g V n ≤ k → k < n → g k < V := by
  intro n
  induction n with
  | zero => intro k _ h; omega
  | succ n ih =>
    intro k h1 h2
    simp only [insPl] at h1
    split at h1
    · rename_i h
      by_cases e : k = n
      · subst e; exact h
      · exact ih k h1 (by omega)
    · omega
theorem insPl_ge {g : Nat → Int32} {V : Int32} : ∀ n, 0 < insPl g V n → ¬ g (insPl g V n - 1) < V := by
  intro n
  induction n with
  | zero => intro h; simp [insPl] at h
  | succ n ih =>
    simp only [insPl]
    split
    · exact ih
    · rename_i h
      intro _
      exact h
/-- p bids for offer 0, in the order in which they are taken: ord by place, rk by pupil -/
def RB (p : Nat) (bd ord rk : Nat → Nat) (a : Mem) : Prop := a 13 3 = nI p ∧ (∀ k, k < p → a 14 k = nI (ord k) ∧ a 15 k = 0 ∧ a 16 k = nI (bd (ord k)) ∧ ord k < p ∧ rk (ord k) = k) ∧ (∀ q, q < p → rk q < p ∧ ord (rk q) = q) ∧ (∀ q, p ≤ q → p ≤ rk q) ∧ ∀ j k, j < k → k < p → bd (ord k) < bd (ord j) ∨ (bd (ord k) = bd (ord j) ∧ ord j < ord k)
theorem RB.same {p : Nat} {bd ord rk : Nat → Nat} {a a' : Mem} (h : RB p bd ord rk a) (E : ∀ c k, 13 ≤ c → c < 17 → a' c k = a c k) : RB p bd ord rk a' :=
  ⟨(E 13 3 (by omega) (by omega)).trans h.1, fun k hk => ⟨(E 14 k (by omega) (by omega)).trans (h.2.1 k hk).1, (E 15 k (by omega) (by omega)).trans (h.2.1 k hk).2.1, (E 16 k (by omega) (by omega)).trans (h.2.1 k hk).2.2.1, (h.2.1 k hk).2.2.2⟩, h.2.2⟩
theorem RB.bid {p : Nat} {bd ord rk : Nat → Nat} {a : Mem} (h : RB p bd ord rk a) (hp : p < 10) (hb : ∀ q, bd q < 1000) : ∃ ord' rk' : Nat → Nat, RB (p + 1) bd ord' rk' (tellA a (nI p) 0 (nI (bd p)) p) := by
  obtain ⟨h1, h2, h3, h4, h5⟩ := h
  have hpos := insPl_le (g := a 16) (V := nI (bd p)) (n := p)
  have hlt := insPl_lt (g := a 16) (V := nI (bd p)) p
  have hge := insPl_ge (g := a 16) (V := nI (bd p)) p
  have ex : tellA a (nI p) 0 (nI (bd p)) p = tellP a (nI p) 0 (nI (bd p)) p (insPl (a 16) (nI (bd p)) p) := by
    unfold tellA
    rw [if_neg (by omega)]
  rw [ex]
  generalize insPl (a 16) (nI (bd p)) p = pl at hpos hlt hge
  have hbp := hb p
  have hlo : ∀ k, pl ≤ k → k < p → bd (ord k) < bd p := fun k g1 g2 => by
    have g3 := hlt k g1 g2
    rw [(h2 k g2).2.2.1] at g3
    have := hb (ord k)
    exact (nI_ltI (by omega) (by omega)).mp g3
  have hhi : ∀ k, k < pl → bd p ≤ bd (ord k) := fun k g => by
    have g1 := hge (by omega)
    rw [(h2 (pl - 1) (by omega)).2.2.1] at g1
    have hb2 := hb (ord (pl - 1))
    have g2 : ¬ bd (ord (pl - 1)) < bd p := fun z => g1 ((nI_ltI (by omega) (by omega)).mpr z)
    by_cases e : k = pl - 1
    · subst e; omega
    · have := h5 k (pl - 1) (by omega) (by omega)
      omega
  have t13 : tellP a (nI p) 0 (nI (bd p)) p pl 13 3 = nI (p + 1) := by simp [tellP]
  have t14 : ∀ k, tellP a (nI p) 0 (nI (bd p)) p pl 14 k = if k = pl then nI p else if pl < k ∧ k ≤ p then a 14 (k - 1) else a 14 k := fun k => by simp [tellP]
  have t15 : ∀ k, tellP a (nI p) 0 (nI (bd p)) p pl 15 k = if k = pl then 0 else if pl < k ∧ k ≤ p then a 15 (k - 1) else a 15 k := fun k => by simp [tellP]
  have t16 : ∀ k, tellP a (nI p) 0 (nI (bd p)) p pl 16 k = if k = pl then nI (bd p) else if pl < k ∧ k ≤ p then a 16 (k - 1) else a 16 k := fun k => by simp [tellP]
  obtain ⟨ord', ho⟩ : ∃ f : Nat → Nat, ∀ k, f k = if k < pl then ord k else if k = pl then p else ord (k - 1) := ⟨_, fun _ => rfl⟩
  obtain ⟨rk', hr⟩ : ∃ f : Nat → Nat, ∀ q, f q = if q = p then pl else if rk q < pl then rk q else rk q + 1 := ⟨_, fun _ => rfl⟩
  refine ⟨ord', rk', t13, fun k hk => ?_, fun q hq => ?_, fun q hq => ?_, fun j k hjk hk => ?_⟩
  · rcases Nat.lt_trichotomy k pl with g | g | g
    · obtain ⟨g1, g2, g3, g4, g5⟩ := h2 k (by omega)
      have n1 : ¬ k = pl := by omega
      have n2 : ¬ (pl < k ∧ k ≤ p) := by omega
      have n3 : ¬ ord k = p := by omega
      have eo : ord' k = ord k := by rw [ho, if_pos g]
      rw [eo]
      exact ⟨by rw [t14, if_neg n1, if_neg n2, g1], by rw [t15, if_neg n1, if_neg n2, g2], by rw [t16, if_neg n1, if_neg n2, g3], by omega, by rw [hr, if_neg n3, g5, if_pos g]⟩
    · subst g
      have eo : ord' k = p := by rw [ho, if_neg (Nat.lt_irrefl _), if_pos rfl]
      rw [eo]
      exact ⟨by rw [t14, if_pos rfl], by rw [t15, if_pos rfl], by rw [t16, if_pos rfl], by omega, by rw [hr, if_pos rfl]⟩
    · obtain ⟨g1, g2, g3, g4, g5⟩ := h2 (k - 1) (by omega)
      have n1 : ¬ k = pl := by omega
      have n2 : pl < k ∧ k ≤ p := by omega
      have n3 : ¬ ord (k - 1) = p := by omega
      have n4 : ¬ k < pl := by omega
      have n5 : ¬ k - 1 < pl := by omega
      have eo : ord' k = ord (k - 1) := by rw [ho, if_neg n4, if_neg n1]
      rw [eo]
      exact ⟨by rw [t14, if_neg n1, if_pos n2, g1], by rw [t15, if_neg n1, if_pos n2, g2], by rw [t16, if_neg n1, if_pos n2, g3], by omega, by rw [hr, if_neg n3, g5, if_neg n5]; omega⟩
  · rw [hr]
    by_cases e : q = p
    · rw [if_pos e, ho, if_neg (Nat.lt_irrefl _), if_pos rfl]
      exact ⟨by omega, e.symm⟩
    · obtain ⟨g1, g2⟩ := h3 q (by omega)
      rw [if_neg e]
      by_cases g : rk q < pl
      · rw [if_pos g, ho, if_pos g]
        exact ⟨by omega, g2⟩
      · have n4 : ¬ rk q + 1 < pl := by omega
        have n1 : ¬ rk q + 1 = pl := by omega
        rw [if_neg g, ho, if_neg n4, if_neg n1]
        exact ⟨by omega, g2⟩
  · have := h4 q (by omega)
    have n1 : ¬ q = p := by omega
    have n2 : ¬ rk q < pl := by omega
    rw [hr, if_neg n1, if_neg n2]
    omega
  · rw [ho k, ho j]
    by_cases a1 : k < pl
    · rw [if_pos a1, if_pos (show j < pl by omega)]
      exact h5 j k hjk (by omega)
    · rw [if_neg a1]
      by_cases a2 : k = pl
      · rw [if_pos a2, if_pos (show j < pl by omega)]
        have := hhi j (by omega)
        have := (h2 j (by omega)).2.2.2.1
        omega
      · rw [if_neg a2]
        by_cases a3 : j < pl
        · rw [if_pos a3]
          have g1 := hhi j a3
          have g2 := hlo (k - 1) (by omega) (by omega)
          omega
        · rw [if_neg a3]
          by_cases a4 : j = pl
          · rw [if_pos a4]
            have g2 := hlo (k - 1) (by omega) (by omega)
            omega
          · rw [if_neg a4]
            exact h5 (j - 1) (k - 1) (by omega) (by omega)
theorem bAt_no {p : Nat} {bd ord rk : Nat → Nat} {a : Mem} (h : RB p bd ord rk a) (hp : p < 10) : ∀ k, k < p → bAt a (nI p) 0 k = false ∧ smB a (nI p) k = 0 := fun k hk => by
  obtain ⟨h1, h2, h3, h4, h5⟩ := h.2.1 k hk
  have hne : ¬ a 14 k = nI p := by
    rw [h1]
    intro z
    have := (nI_eq (by omega) (by omega)).mp z
    omega
  exact ⟨by simp [bAt, hne], by unfold smB; rw [if_neg hne]⟩
theorem sumN_0 {f : Nat → Int32} : ∀ n, (∀ k, k < n → f k = 0) → sumN f n = 0 := by
  intro n
  induction n with
  | zero => intro _; rfl
  | succ n ih =>
    intro h
    rw [sumN, ih (fun k hk => h k (by omega)), h n (by omega)]
    rfl
theorem v_rng : ∀ b, b < 101 → 0 < b → (decide (¬ nI b < 1) && decide (nI b ≤ 100)) = true := by decide +kernel
section BID
variable {S p : Nat} {rg : Nat → Nat → Int32} {mx pt pd : Nat → Int32} {qw rf : Int32} {a : Mem} {bd ord rk : Nat → Nat}
theorem RB.w (h : RB p bd ord rk a) (hp : p < 100) : bW a = p := by
  show tn (a 13 3) = p
  rw [h.1]
  exact tn_nI (by omega)
theorem bid_out (h : RB p bd ord rk a) (hp : p < 10) : outA a (nI p) 0 p = a ∧ ptB a (nI p) 0 p = 0 := by
  have e : firN (bAt a (nI p) 0) p = p := firN_eq (Nat.le_refl _) (fun j hj => (bAt_no h hp j hj).1) (fun z => absurd z (Nat.lt_irrefl _))
  unfold outA ptB
  rw [e, if_neg (Nat.lt_irrefl _), if_neg (Nat.lt_irrefl _)]
  exact ⟨rfl, rfl⟩
theorem bid_s (h : RB p bd ord rk a) (hp : p < 10) {v : Int32} : s3_bid a (nI p) 0 v = v := by
  unfold s3_bid
  rw [h.w (by omega), (bid_out h hp).2, sumN_0 p (fun k hk => (bAt_no h hp k hk).2)]
  simp
theorem bid_a (h : RB p bd ord rk a) (hp : p < 10) {v : Int32} : a3_bid a (nI p) 0 v = tellA a (nI p) 0 v p := by
  unfold a3_bid
  rw [h.w (by omega), (bid_out h hp).1, h.w (by omega)]
theorem bid_cl (hM : MD S (p + 1) rg mx pt pd qw rf 0 a) : clB a (tn 0) = false := by
  show decide (¬ a 69 (sl a 0) = 0) = false
  rw [hM.ksl, hM.ksat]
  rfl
theorem bid_g (hM : MD S (p + 1) rg mx pt pd qw rf 0 a) (h : RB p bd ord rk a) (hp : p < 10) (hpt : pt p = 100) (hb1 : 0 < bd p) (hb2 : bd p < 101) : gn (g3_bid a (nI p) 0 (nI (bd p))) = 0 := by
  have hv := v_rng _ hb2 hb1
  unfold g3_bid
  rw [gn_S0 (hM.kgP (by omega) (by omega)), gn_S0 hM.kgQ, gn_S0 (gn_Ot hv)]
  refine gn_Ot ?_
  rw [bid_cl hM, bid_s h hp, tn_nI (by omega), hM.kpt (by omega), hpt]
  simp only [Bool.and_eq_true] at hv
  rw [hv.2]
  rfl
theorem bid_x (hM : MD S (p + 1) rg mx pt pd qw rf 0 a) (hp : p < 10) : gn (g3_bid a (nI p) 0 101) = -2000000002 := by
  unfold g3_bid
  rw [gn_S0 (hM.kgP (by omega) (by omega)), gn_S0 hM.kgQ]
  refine gn_Sx ?_ (by decide)
  rw [gn_Of (by decide)]
  exact cE_A
end BID
