/-! what the class answers there -/
section ANS
variable {S np N p : Nat} {rg : Nat → Nat → Int32} {mx pt pd : Nat → Int32} {qw rf sat : Int32} {a : Mem} {bd ord rk : Nat → Nat} {hh br : Nat → Bool}
theorem ans_pupil (M : MD S np rg mx pt pd qw rf sat a) (hn : np < 10) : gn (g3_pupil a) = 0 := by
  refine gn_Ot (decide_eq_true ?_)
  rw [M.ke9, show (10 : Int32) = nI 10 by decide]
  exact nI_lt hn (by decide)
theorem kpupil (M : MD S np rg mx pt pd qw rf sat a) (hn : np < 10) : up2 (up2 a 67 (nP a) 100) 0 9 (nI (nP a + 1)) = up2 (up2 a 67 np 100) 0 9 (nI (np + 1)) := by rw [M.knP (by omega)]
theorem MD.kpupil (M : MD S np rg mx pt pd qw rf sat a) : MD S (np + 1) rg mx (fun q => if q = np then 100 else pt q) pd qw rf sat (up2 (up2 a 67 np 100) 0 9 (nI (np + 1))) := by
  refine M.kre (fun c k h => (up2_o (by omega)).trans (up2_o (by omega))) up2_s ((up2_o (by omega)).trans ((up2_o (by omega)).trans M.krf)) ((up2_o (by omega)).trans ((up2_o (by omega)).trans M.kq)) (fun q hq => (up2_o (by omega)).trans ((up2_o (by omega)).trans (M.kpd hq))) (fun q hq => ?_) ((up2_o (by omega)).trans ((up2_o (by omega)).trans M.ksat)) (fun s q h1 hq => ?_) (fun q hq => ?_)
  · rw [up2_o (by omega)]
    by_cases e : q = np
    · rw [if_pos e, e, up2_s]
    · rw [if_neg e, up2_o (by omega)]
      exact M.kpt hq
  · rw [up2_o (by omega), up2_o (by omega)]
    exact M.krg h1 hq
  · rw [up2_o (by omega), up2_o (by omega)]
    exact M.kmx hq
theorem tellA_o {P O V : Int32} {w c k : Nat} (h : c < 13 ∨ 17 ≤ c) : tellA a P O V w c k = a c k := by
  unfold tellA
  split
  · rfl
  · unfold tellP
    rw [if_neg (by omega), if_neg (by omega), if_neg (by omega), if_neg (by omega), if_neg (by omega)]
theorem MD.kbid (M : MD S np rg mx pt pd qw rf sat a) {P O V : Int32} {w : Nat} : MD S np rg mx pt pd qw rf sat (tellA a P O V w) := M.ksame (fun c k h => tellA_o (by omega))
theorem f114 : fNat 114 = 0 ∧ fNat 120 = 2 ∧ gn (gF 114) = 0 ∧ gn (gF 120) = 0 := by decide +kernel
theorem ans_wr (M : MD S np rg mx pt pd qw rf sat a) (hp : p < np) (hn : np ≤ 10) {s : Nat} (hs : s < 3) {v : Int32} (hv : v = 0 ∨ v = 1) : gn (g3_write a (nI s) (nI p) 0 114 v) = 0 ∧ a (3 + (tn (nI s) * 3 + fNat 114)) (tn (nI p) * 6 + tn 0) = rg s p ∧ up2 a (3 + (tn (nI s) * 3 + fNat 114)) (tn (nI p) * 6 + tn 0) v = up2 a (3 + s * 3) (p * 6) v := by
  rw [tn_nI (by omega), tn_nI (by omega), f114.1]
  refine ⟨?_, M.krg hs (by omega), rfl⟩
  have hT : gn (gT (nI s)) = 0 := gn_Ot (inB_t (n := 3) hs (by decide))
  unfold g3_write
  rw [gn_S0 hT, gn_S0 (M.kgP hp hn), gn_S0 M.kgE, gn_S0 f114.2.2.1, f114.1]
  refine gn_Ot ?_
  rcases hv with rfl | rfl <;> decide
theorem ans_wx (M : MD S np rg mx pt pd qw rf sat a) (hp : p < np) (hn : np ≤ 10) : gn (g3_write a 2 (nI p) 0 120 (nI p)) = 0 ∧ a (3 + (tn 2 * 3 + fNat 120)) (tn (nI p) * 6 + tn 0) = mx p ∧ up2 a (3 + (tn 2 * 3 + fNat 120)) (tn (nI p) * 6 + tn 0) (nI p) = up2 a 11 (p * 6) (nI p) := by
  rw [tn_nI (by omega), f114.2.1]
  refine ⟨?_, M.kmx (by omega), rfl⟩
  have hT : gn (gT 2) = 0 := gn_Ot (inB_t (q := 2) (n := 3) (by decide) (by decide))
  unfold g3_write
  rw [gn_S0 hT, gn_S0 (M.kgP hp hn), gn_S0 M.kgE, gn_S0 f114.2.2.2, f114.2.1]
  refine gn_Ot ?_
  have : ∀ p, p < 10 → rngB (nI 2) (nI p) = true := by decide +kernel
  exact this p (by omega)
theorem MD.kwr (M : MD S np rg mx pt pd qw rf sat a) {s : Nat} (hs : s < 3) {v : Int32} : MD S np (fun s' q => if s' = s ∧ q = p then v else rg s' q) mx pt pd qw rf sat (up2 a (3 + s * 3) (p * 6) v) := by
  refine M.kre (fun c k h => up2_o (by omega)) ((up2_o (by omega)).trans M.ke9) ((up2_o (by omega)).trans M.krf) ((up2_o (by omega)).trans M.kq) (fun q hq => (up2_o (by omega)).trans (M.kpd hq)) (fun q hq => (up2_o (by omega)).trans (M.kpt hq)) ((up2_o (by omega)).trans M.ksat) (fun s' q h1 hq => ?_) (fun q hq => (up2_o (by omega)).trans (M.kmx hq))
  by_cases e : s' = s ∧ q = p
  · rw [if_pos e, e.1, e.2, up2_s]
  · rw [if_neg e, up2_o (by omega)]
    exact M.krg h1 hq
theorem MD.kwx (M : MD S np rg mx pt pd qw rf sat a) {v : Int32} : MD S np rg (fun q => if q = p then v else mx q) pt pd qw rf sat (up2 a 11 (p * 6) v) := by
  refine M.kre (fun c k h => up2_o (by omega)) ((up2_o (by omega)).trans M.ke9) ((up2_o (by omega)).trans M.krf) ((up2_o (by omega)).trans M.kq) (fun q hq => (up2_o (by omega)).trans (M.kpd hq)) (fun q hq => (up2_o (by omega)).trans (M.kpt hq)) ((up2_o (by omega)).trans M.ksat) (fun s' q h1 hq => (up2_o (by omega)).trans (M.krg h1 hq)) (fun q hq => ?_)
  by_cases e : q = p
  · rw [if_pos e, e, up2_s]
  · rw [if_neg e, up2_o (by omega)]
    exact M.kmx hq
/-- a seat for each of whom hh says so -/
def PD1 (bd : Nat → Nat) (hh : Nat → Bool) (q : Nat) : Int32 := if hh q = true then nI (bd q) else -1
theorem ans_hs (M : MD S np rg mx pt (PD1 bd hh) qw rf sat a) (hb : ∀ q, bd q ≤ 100) {q : Nat} (hq : q < 10) : hs a 0 q = hh q := by
  rw [M.khs hq]
  unfold PD1
  have := hb q
  cases hh q with
  | true => rw [if_pos rfl]; exact decide_eq_true (nI_ne_m1 (by omega))
  | false => rw [if_neg (by decide)]; rfl
theorem ans_seat (M : MD S np rg mx pt (PD1 bd hh) qw rf sat a) (hb : ∀ q, bd q ≤ 100) (hp : p < np) (hn : np ≤ 10) : (if gn (g3_seat a (nI p) 0 0) = 0 then fI (hfB a (tn (nI p)) 0 0) (nO a) else gn (g3_seat a (nI p) 0 0)) = if hh p = true then 0 else -2000000005 := by
  have hq : p < 10 := by omega
  have e : hfB a p 0 0 0 = hh p := by
    unfold hfB
    rw [M.kof0, ans_hs M hb hq, Bool.true_and]
  have eg : gn (g3_seat a (nI p) 0 0) = gn (gO (hh p) eN) := by
    unfold g3_seat
    rw [gn_S0 (M.kgP hp hn), gn_S0 M.kgE, tn_nI (by omega), M.knO, anyN_1, e]
  rw [eg, tn_nI (by omega), M.knO, fI, firN_1, e]
  cases hh p with
  | true => rfl
  | false => rw [gn_Of rfl, if_neg (by rw [cE_N]; decide), cE_N]; rfl
theorem ans_points (M : MD S np rg mx pt pd qw rf sat a) (hp : p < np) (hn : np ≤ 10) : gn (gP a (nI p)) = 0 ∧ a 67 (tn (nI p)) = pt p := by
  rw [tn_nI (by omega)]
  exact ⟨M.kgP hp hn, M.kpt (by omega)⟩
theorem ans_more (M : MD S np rg mx pt (PD1 bd hh) qw rf sat a) (hb : ∀ q, bd q ≤ 100) (hp : p < np) (hn : np ≤ 10) : (if gn (g3_at a (nI p) 2) = 0 then a (3 + (ow a 2 * 3 + 2)) (tn (nI p) * 6 + exN a (firN (haB a (tn (nI p)) 2) (nO a))) else gn (g3_at a (nI p) 2)) = if hh p = true then mx p else -2000000005 := by
  have hq : p < 10 := by omega
  have e : haB a p 2 0 = hh p := by
    unfold haB
    rw [ans_hs M hb hq]
    show (decide (a 18 1 = 2) && _) = _
    rw [M.kc1]
    rfl
  have eg : gn (g3_at a (nI p) 2) = gn (gO (hh p) eN) := by
    unfold g3_at
    rw [gn_S0 (M.kgP hp hn), gn_S0 (gn_Ot (by decide)), tn_nI (by omega), M.knO, anyN_1, e]
  have eo : ow a 2 = 2 := by
    show tn (a 12 2) = 2
    rw [M.ko2]
    rfl
  rw [eg, tn_nI (by omega), M.knO, firN_1, e, eo]
  cases hh p with
  | true =>
    rw [gn_Ot rfl, if_pos rfl, if_pos rfl, if_pos rfl, M.kex]
    exact M.kmx hq
  | false => rw [gn_Of rfl, if_neg (by rw [cE_N]; decide), cE_N]; rfl
theorem ans_more6 (M : MD S np rg mx pt pd qw rf sat a) (hp : p < np) (hn : np ≤ 10) : gn (g3_at a (nI p) 6) = -2000000002 := by
  unfold g3_at
  rw [gn_S0 (M.kgP hp hn)]
  refine gn_Sx ?_ (by decide)
  rw [gn_Of (by decide)]
  exact cE_A
theorem ans_sat (M : MD S np rg mx pt (PD1 bd hh) qw rf 1 a) (hb : ∀ q, bd q ≤ 100) (hp : p < np) (hn : np ≤ 10) : gn (g3_maySit a (nI p) 0) = 0 ∧ bI (hsB a (nI p) 0 0) = bI (hh p) := by
  have hq : p < 10 := by omega
  have e : hfB a p 0 0 0 = hh p := by
    unfold hfB
    rw [M.kof0, ans_hs M hb hq, Bool.true_and]
  refine ⟨by unfold g3_maySit; rw [gn_S0 (M.kgP hp hn)]; exact M.kgE, ?_⟩
  unfold hsB
  rw [tn_nI (by omega), M.knO, anyN_1, firN_1, e]
  cases hh p with
  | false => rfl
  | true =>
    rw [if_pos rfl]
    have : clB a 0 = true := by
      show decide (¬ a 69 (sl a 0) = 0) = true
      rw [M.ksl, M.ksat]
      rfl
    rw [this]
    rfl
/-! the sitting -/
theorem ls_all (hN : N ≤ 10) (M : MD S N rg mx pt (PD1 bd hh) qw rf sat a) (hb : ∀ q, bd q ≤ 100) (hr : ∀ q, q < N → rgB a q 0 = !br q) : ∀ n, n ≤ N → MD S N rg mx (fun q => if q < n ∧ (hh q && br q) = true then pt q + nI (bd q) else pt q) (fun q => if q < n ∧ (hh q && br q) = true then -1 else PD1 bd hh q) qw (rf + nI (sumK (fun q => if (hh q && br q) = true then bd q else 0) n)) sat (lsK a 0 n) := by
  intro n
  induction n with
  | zero =>
    intro _
    have h0 : rf + nI (sumK (fun q => if (hh q && br q) = true then bd q else 0) 0) = rf := by
      show rf + nI 0 = rf
      rw [nI_0]
      simp
    rw [h0]
    exact M.kto (fun _ _ _ _ => rfl) (fun _ _ => rfl) (fun q _ => by rw [if_neg (by omega)]) (fun q _ => by rw [if_neg (by omega)])
  | succ n ih =>
    intro hn
    have L := ih (by omega)
    have eL : lsK a 0 (n + 1) = if (hh n && br n) = true then payA (up2 (lsK a 0 n) 19 n (-1)) n (a 19 n) else lsK a 0 n := by
      show (if (hs a 0 n && !rgB a n (exN a 0)) = true then payA (up2 (lsK a 0 n) 19 n (-1)) n (a 19 n) else lsK a 0 n) = _
      rw [M.kex, hr n (by omega), ans_hs M hb (by omega), Bool.not_not]
    have eS : sumK (fun q => if (hh q && br q) = true then bd q else 0) (n + 1) = sumK (fun q => if (hh q && br q) = true then bd q else 0) n + (if (hh n && br n) = true then bd n else 0) := rfl
    rw [eL, eS]
    by_cases g : (hh n && br n) = true
    · rw [if_pos g, if_pos g]
      have hd : a 19 n = nI (bd n) := by
        rw [M.kpd (by omega)]
        unfold PD1
        rw [if_pos (by simp only [Bool.and_eq_true] at g; exact g.1)]
      have h67 : lsK a 0 n 67 n = pt n := by rw [L.kpt (by omega), if_neg (by omega)]
      have h12 := L.krf
      unfold payA
      generalize hX : up2 (up2 (up2 (lsK a 0 n) 19 n (-1)) 67 n (up2 (lsK a 0 n) 19 n (-1) 67 n + a 19 n)) 0 12 (up2 (lsK a 0 n) 19 n (-1) 0 12 + a 19 n) = X
      have E : ∀ c j, (c ≠ 19 ∨ j ≠ n) → (c ≠ 67 ∨ j ≠ n) → (c ≠ 0 ∨ j ≠ 12) → X c j = lsK a 0 n c j := fun c j h1 h2 h3 => by
        rw [← hX]
        exact (up2_o (by omega)).trans ((up2_o (by omega)).trans (up2_o (by omega)))
      refine L.kre (fun c j h => E c j (by omega) (by omega) (by omega)) ((E 0 9 (by omega) (by omega) (by omega)).trans L.ke9) ?_ ((E 18 8 (by omega) (by omega) (by omega)).trans L.kq) (fun q hq => ?_) (fun q hq => ?_) ((E 69 2 (by omega) (by omega) (by omega)).trans L.ksat) (fun s q h1 hq => (E (3 + s * 3) (q * 6) (by omega) (by omega) (by omega)).trans (L.krg h1 hq)) (fun q hq => (E 11 (q * 6) (by omega) (by omega) (by omega)).trans (L.kmx hq))
      · rw [← hX, up2_s, up2_o (by omega), h12, hd, ← nI_add, Int32.add_assoc]
      · by_cases e : q = n
        · subst e
          rw [← hX, up2_o (by omega), up2_o (by omega), up2_s, if_pos ⟨by omega, g⟩]
        · rw [E 19 q (by omega) (by omega) (by omega), L.kpd hq]
          by_cases e2 : q < n ∧ (hh q && br q) = true
          · rw [if_pos e2, if_pos ⟨by omega, e2.2⟩]
          · rw [if_neg e2, if_neg (fun z => e2 ⟨by omega, z.2⟩)]
      · by_cases e : q = n
        · subst e
          rw [← hX, up2_o (by omega), up2_s, up2_o (by omega), h67, hd, if_pos ⟨by omega, g⟩]
        · rw [E 67 q (by omega) (by omega) (by omega), L.kpt hq]
          by_cases e2 : q < n ∧ (hh q && br q) = true
          · rw [if_pos e2, if_pos ⟨by omega, e2.2⟩]
          · rw [if_neg e2, if_neg (fun z => e2 ⟨by omega, z.2⟩)]
    · rw [if_neg g, if_neg g, Nat.add_zero]
      refine L.kto (fun _ _ _ _ => rfl) (fun _ _ => rfl) (fun q _ => ?_) (fun q _ => ?_)
      · by_cases e2 : q < n ∧ (hh q && br q) = true
        · rw [if_pos e2, if_pos ⟨by omega, e2.2⟩]
        · rw [if_neg e2, if_neg (fun z => e2 ⟨by
            by_cases e3 : q = n
            · subst e3; exact absurd z.2 g
            · omega, z.2⟩)]
      · by_cases e2 : q < n ∧ (hh q && br q) = true
        · rw [if_pos e2, if_pos ⟨by omega, e2.2⟩]
        · rw [if_neg e2, if_neg (fun z => e2 ⟨by
            by_cases e3 : q = n
            · subst e3; exact absurd z.2 g
            · omega, z.2⟩)]
theorem ans_sit (hN : N ≤ 10) (M : MD S N rg mx pt (PD1 bd hh) qw rf 0 a) (hb : ∀ q, bd q ≤ 100) (hr : ∀ q, q < N → rgB a q 0 = !br q) : gn (g3_sit a 2) = 0 ∧ nI (siC a 2 (nO a)) = nI (cntN (fun q => hh q && !br q) N) ∧ up2 (siK a 2 (nO a)) 69 (tn 2) 1 = up2 (lsK a 0 N) 69 2 1 := by
  have eP := M.knP (by omega)
  refine ⟨?_, ?_, ?_⟩
  · unfold g3_sit
    rw [gn_S0 (gn_Ot (by decide))]
    refine gn_Ot (decide_eq_true ?_)
    show a 69 2 = 0
    exact M.ksat
  · rw [M.knO]
    show nI (0 + (if a 18 1 = 2 then cntN (satB a 0) (nP a) else 0)) = _
    rw [if_pos M.kc1, eP, Nat.zero_add]
    congr 1
    exact cntN_congr (fun q hq => by
      unfold satB
      rw [M.kex, hr q hq, ans_hs M hb (by omega)])
  · rw [M.knO]
    show up2 (if a 18 1 = 2 then lsK a 0 (nP a) else a) 69 2 1 = _
    rw [if_pos M.kc1, eP]
/-- behind the sitting -/
theorem MD.ksit (M : MD S np rg mx pt pd qw rf sat a) : MD S np rg mx pt pd qw rf 1 (up2 a 69 2 1) :=
  M.kre (fun c k h => up2_o (by omega)) ((up2_o (by omega)).trans M.ke9) ((up2_o (by omega)).trans M.krf) ((up2_o (by omega)).trans M.kq) (fun q hq => (up2_o (by omega)).trans (M.kpd hq)) (fun q hq => (up2_o (by omega)).trans (M.kpt hq)) up2_s (fun s' q h1 hq => (up2_o (by omega)).trans (M.krg h1 hq)) (fun q hq => (up2_o (by omega)).trans (M.kmx hq))
theorem cnt_split {f g : Nat → Bool} : ∀ n, cntN (fun q => f q && !g q) n + cntN (fun q => f q && g q) n = cntN f n := by
  intro n
  induction n with
  | zero => rfl
  | succ n ih =>
    simp only [cntN]
    by_cases hf : f n = true <;> by_cases hg : g n = true <;> simp [hf, hg] <;> omega
end ANS
