/-! sit -/
theorem IQ.ls {q : Mem} (hW : WC q) (hI : IQ q) {i : Nat} (hi : i < 12) : ∀ n, n ≤ 10 → IQ (lsK q i n) := by
  intro n
  induction n with
  | zero => intro _; exact hI
  | succ n ih =>
    intro hn
    simp only [lsK]
    split
    · rename_i h
      rw [Bool.and_eq_true] at h
      have e : lsK q i n (18 + 4 * i + 1) n = q (18 + 4 * i + 1) n := lsK_o n (by omega) (by omega) (by omega)
      rw [← e]
      refine (ih (by omega)).unseat (hW.ls hi n) hi (by omega) ?_
      unfold hs at h ⊢
      rw [e]
      exact h.1
    · exact ih (by omega)
theorem IQ.si {q : Mem} (hW : WC q) (hI : IQ q) {s : Int32} : ∀ n, n ≤ 12 → IQ (siK q s n) := by
  intro n
  induction n with
  | zero => intro _; exact hI
  | succ n ih =>
    intro hn
    simp only [siK]
    split
    · exact (ih (by omega)).ls (hW.si n (by omega)) (by omega) _ (hW.si n (by omega)).pl
    · exact ih (by omega)
/-- within an offer: those at the slot are asked -/
def zsK (q : Mem) (s : Int32) (i p : Nat) : Mem := if q (18 + 4 * i) 1 = s then lsK (siK q s i) i p else siK q s i
def zsC (q : Mem) (s : Int32) (i p : Nat) : Nat := siC q s i + (if q (18 + 4 * i) 1 = s then cntN (satB (siK q s i) i) p else 0)
theorem siK_f {q : Mem} {s : Int32} {i : Nat} (hi : i < 12) (f : Nat) : siK q s i (18 + 4 * i) f = q (18 + 4 * i) f := siK_s i (by omega) (by omega) (by omega)
theorem siK_P {q : Mem} {s : Int32} {i : Nat} : nP (siK q s i) = nP q := congrArg tn (siK_s i (by omega) (by omega) (by omega))
theorem zsK_e {q : Mem} {s : Int32} {i : Nat} : zsK q s i (nP q) = siK q s (i + 1) ∧ zsC q s i (nP q) = siC q s (i + 1) := by
  unfold zsK zsC
  rw [siK, siC, siK_P]
  exact ⟨rfl, rfl⟩
theorem zsK_o {q : Mem} {s : Int32} {i p c k : Nat} (h1 : c ≠ 67) (h2 : c ≠ 0 ∨ k ≠ 12) (h3 : c < 18 ∨ 66 ≤ c ∨ (c - 18) % 4 ≠ 1 ∨ (c = 18 + 4 * i + 1 ∧ p ≤ k) ∨ 18 + 4 * i + 1 < c) (hi : i < 12 := by omega) : zsK q s i p c k = q c k := by
  unfold zsK
  split
  · rw [lsK_o p h1 h2 (by omega)]
    exact siK_s i h1 h2 (by omega)
  · exact siK_s i h1 h2 (by omega)
theorem zsK_W {q : Mem} (hW : WC q) {s : Int32} {i p : Nat} (hi : i < 12) : WC (zsK q s i p) := by
  unfold zsK
  split
  · exact (hW.si i (by omega)).ls hi p
  · exact hW.si i (by omega)
theorem zsK_I {q : Mem} (hW : WC q) (hI : IQ q) {s : Int32} {i p : Nat} (hi : i < 12) (hp : p ≤ 10) : IQ (zsK q s i p) := by
  unfold zsK
  split
  · exact (hI.si hW i (by omega)).ls (hW.si i (by omega)) hi p hp
  · exact hI.si hW i (by omega)
theorem zsK_rg {q : Mem} {s : Int32} {i j : Nat} {p e : Nat} (hi : i < 12) : rgB (zsK q s i j) p e = rgB q p e := rgB_congr (fun r hr => zsK_o (by omega) (by omega) (by omega))
theorem siK_rg {q : Mem} {s : Int32} {i : Nat} {p e : Nat} : rgB (siK q s i) p e = rgB q p e := rgB_congr (fun r hr => siK_s i (by omega) (by omega) (Or.inl (by omega)))
theorem siK_hs {q : Mem} {s : Int32} {i p : Nat} (hi : i < 12) : hs (siK q s i) i p = hs q i p := by
  unfold hs
  rw [siK_s i (by omega) (by omega) (by omega)]
theorem siK_sat {q : Mem} {s : Int32} {i p : Nat} (hi : i < 12) : satB (siK q s i) i p = (hs q i p && rgB q p (exN q i)) := by
  unfold satB
  rw [siK_hs hi, siK_rg, show exN (siK q s i) i = exN q i from congrArg tn (siK_f hi 0)]
theorem zsK_un {q : Mem} {s : Int32} {i p : Nat} (hi : i < 12) (h : q (18 + 4 * i) 1 = s) (h1 : hs q i p = true) (h2 : rgB q p (exN q i) = false) : zsK q s i (p + 1) = payA (up2 (zsK q s i p) (18 + 4 * i + 1) p (-1)) p (q (18 + 4 * i + 1) p) := by
  unfold zsK
  rw [if_pos h, if_pos h]
  simp only [lsK]
  rw [siK_hs hi, siK_rg, show exN (siK q s i) i = exN q i from congrArg tn (siK_f hi 0), h1, h2, if_pos (by decide), siK_s i (by omega) (by omega) (by omega)]
theorem zsK_no {q : Mem} {s : Int32} {i p : Nat} (hi : i < 12) (h1 : hs q i p = false ∨ rgB q p (exN q i) = true) : zsK q s i (p + 1) = zsK q s i p := by
  unfold zsK
  split
  · simp only [lsK]
    rw [siK_hs hi, siK_rg, show exN (siK q s i) i = exN q i from congrArg tn (siK_f hi 0)]
    rcases h1 with g | g
    · rw [g, if_neg (by simp)]
    · rw [g, if_neg (by simp)]
  · rfl
theorem zsC_t {q : Mem} {s : Int32} {i p : Nat} (hi : i < 12) (h : q (18 + 4 * i) 1 = s) (h1 : hs q i p = true) (h2 : rgB q p (exN q i) = true) : zsC q s i (p + 1) = zsC q s i p + 1 := by
  unfold zsC
  rw [if_pos h, if_pos h, cntN, siK_sat hi, h1, h2]
  rfl
theorem zsC_f {q : Mem} {s : Int32} {i p : Nat} (hi : i < 12) (h1 : hs q i p = false ∨ rgB q p (exN q i) = false) : zsC q s i (p + 1) = zsC q s i p := by
  unfold zsC
  split
  · rw [cntN, siK_sat hi]
    rcases h1 with g | g
    · rw [g]; rfl
    · rw [g, Bool.and_false]; rfl
  · rfl
/-- who sits now -/
def nwB (q : Mem) (s : Int32) (pp : Nat) (e z : Int32) (j : Nat) : Bool := decide (q (18 + 4 * j) 1 = s) && isOfB q j e z && hs q j pp && rgB q pp (exN q j)
def HSI (q b2 : Mem) (s : Int32) (i p : Nat) : Prop := ∀ pp e z, pp < 10 → e < 6 → z < 2 → b2 86 (2 * (pp * 6 + e) + z) = bI (hsE q pp (nI e) (nI z) || anyN (nwB q s pp (nI e) (nI z)) i || (decide (pp < p) && nwB q s pp (nI e) (nI z) i))
theorem HSI.no {q b2 : Mem} {s : Int32} {i p : Nat} (h : HSI q b2 s i p) (h1 : hs q i p = false ∨ rgB q p (exN q i) = false) : HSI q b2 s i (p + 1) := by
  intro pp e z hp he hz
  rw [h pp e z hp he hz]
  by_cases g : pp = p
  · subst g
    have : nwB q s pp (nI e) (nI z) i = false := by
      unfold nwB
      rcases h1 with g | g
      · rw [g]; simp
      · rw [g]; simp
    rw [this, Bool.and_false, Bool.and_false]
  · have : decide (pp < p + 1) = decide (pp < p) := decide_eq_decide.mpr (by omega)
    rw [this]
theorem HSI.yes {q b2 : Mem} (hW : WC q) {s : Int32} {i p : Nat} (hi : i < 12) (hp9 : p < 10) (h : HSI q b2 s i p) (hs1 : q (18 + 4 * i) 1 = s) (h1 : hs q i p = true) (h2 : rgB q p (exN q i) = true) : HSI q (up2 b2 86 (2 * (p * 6 + exN q i) + zNat (q (18 + 4 * i) 4)) 1) s i (p + 1) := by
  have he5 := hW.exl hi
  have hz3 : nI (zNat (q (18 + 4 * i) 4)) = q (18 + 4 * i) 4 := by rcases hW.zz hi with g | g <;> rw [g] <;> rfl
  have hz2 : zNat (q (18 + 4 * i) 4) < 2 := by unfold zNat; split <;> omega
  intro pp e z hp he hz
  by_cases g : pp = p
  · subst g
    by_cases g2 : e = exN q i ∧ z = zNat (q (18 + 4 * i) 4)
    · obtain ⟨rfl, rfl⟩ := g2
      rw [up2_s]
      have : nwB q s pp (nI (exN q i)) (nI (zNat (q (18 + 4 * i) 4))) i = true := by
        unfold nwB isOfB
        rw [hz3, ← hW.exe hi, h1, h2, hs1]
        simp
      rw [this, decide_eq_true (by omega)]
      simp [bI]
    · rw [up2_o (by omega), h pp e z hp he hz]
      have : nwB q s pp (nI e) (nI z) i = false := by
        unfold nwB isOfB
        by_cases g3 : q (18 + 4 * i) 0 = nI e ∧ q (18 + 4 * i) 4 = nI z
        · exfalso
          apply g2
          have a1 : exN q i = e := by unfold exN; rw [g3.1]; exact tn_nI (by omega)
          refine ⟨a1.symm, ?_⟩
          have a2 := hz3.trans g3.2
          exact ((nI_eq (by omega) (by omega)).mp a2).symm
        · have : (decide (q (18 + 4 * i) 0 = nI e) && decide (q (18 + 4 * i) 4 = nI z)) = false := by
            cases hx : (decide (q (18 + 4 * i) 0 = nI e) && decide (q (18 + 4 * i) 4 = nI z)) with
            | false => rfl
            | true =>
              rw [Bool.and_eq_true, decide_eq_true_eq, decide_eq_true_eq] at hx
              exact absurd hx g3
          rw [this]; simp
      rw [this, Bool.and_false, Bool.and_false]
  · rw [up2_o (by omega), h pp e z hp he hz]
    have : decide (pp < p + 1) = decide (pp < p) := decide_eq_decide.mpr (by omega)
    rw [this]
theorem HSI.out {q b2 : Mem} (hI : IQ q) {s : Int32} {i p : Nat} (hi : i < 12) (h : HSI q b2 s i p) (hx : p = nP q ∨ ¬ q (18 + 4 * i) 1 = s) : HSI q b2 s (i + 1) 0 := by
  intro pp e z hp he hz
  rw [h pp e z hp he hz]
  have e1 : (decide (pp < p) && nwB q s pp (nI e) (nI z) i) = nwB q s pp (nI e) (nI z) i := by
    rcases hx with g | g
    · by_cases g2 : pp < p
      · rw [decide_eq_true g2, Bool.true_and]
      · have : nwB q s pp (nI e) (nI z) i = false := by
          unfold nwB
          rw [(hI.pb pp (by omega) hp).1 i hi]
          simp
        rw [this, Bool.and_false]
    · have : nwB q s pp (nI e) (nI z) i = false := by
        unfold nwB
        rw [decide_eq_false g]
        simp
      rw [this, Bool.and_false]
  rw [e1]
  simp [anyN, Bool.or_assoc]
theorem siK_hsn {q : Mem} (hW : WC q) (hI : IQ q) {s : Int32} {pp : Nat} (hp : pp < 10) : ∀ n i, i < n → n ≤ 12 → hs (siK q s n) i pp = (if q (18 + 4 * i) 1 = s then hs q i pp && rgB q pp (exN q i) else hs q i pp) := by
  intro n
  induction n with
  | zero => intro i hi; omega
  | succ n ih =>
    intro i hi hn
    by_cases e : i = n
    · subst e
      simp only [siK]
      by_cases g : q (18 + 4 * i) 1 = s
      · rw [if_pos g, if_pos g]
        have key : ∀ m, m ≤ 10 → hs (lsK (siK q s i) i m) i pp = (if pp < m then hs q i pp && rgB q pp (exN q i) else hs q i pp) := by
          intro m
          induction m with
          | zero => intro _; rw [if_neg (show ¬ pp < 0 by omega)]; exact siK_hs (by omega)
          | succ m ihm =>
            intro hm
            have ihm := ihm (by omega)
            simp only [lsK]
            rw [siK_hs (by omega), siK_rg, show exN (siK q s i) i = exN q i from congrArg tn (siK_f (by omega) 0)]
            by_cases c : pp = m
            · subst c
              rw [if_neg (show ¬ pp < pp by omega)] at ihm
              rw [if_pos (show pp < pp + 1 by omega)]
              cases h3 : hs q i pp with
              | false =>
                rw [if_neg (by simp), ihm, h3]
                rfl
              | true =>
                cases h4 : rgB q pp (exN q i) with
                | true =>
                  rw [if_neg (by simp), ihm, h3]
                  rfl
                | false =>
                  rw [if_pos (by simp), Bool.and_false, hs_f]
                  unfold payA
                  rw [up2_o (by omega), up2_o (by omega), up2_s]
            · have e2 : (if pp < m + 1 then hs q i pp && rgB q pp (exN q i) else hs q i pp) = (if pp < m then hs q i pp && rgB q pp (exN q i) else hs q i pp) := by
                by_cases c2 : pp < m
                · rw [if_pos c2, if_pos (show pp < m + 1 by omega)]
                · rw [if_neg c2, if_neg (show ¬ pp < m + 1 by omega)]
              rw [e2, ← ihm]
              by_cases c3 : (hs q i m && !rgB q m (exN q i)) = true
              · rw [if_pos c3]
                unfold hs payA
                rw [up2_o (by omega), up2_o (by omega), up2_o (by omega)]
              · rw [if_neg c3]
        have hPl := hW.pl
        rw [key (nP (siK q s i)) (by rw [siK_P]; exact hPl), siK_P]
        by_cases c : pp < nP q
        · rw [if_pos c]
        · rw [if_neg c, (hI.pb pp (by omega) hp).1 i (by omega)]
          rfl
      · rw [if_neg g, if_neg g]
        exact siK_hs (by omega)
    · rw [← ih i (by omega) (by omega)]
      simp only [siK]
      split
      · unfold hs
        rw [lsK_o _ (by omega) (by omega) (by omega)]
      · rfl
/-- behind the sitting -/
theorem HSI.fin {q b2 : Mem} (hW : WC q) (hI : IQ q) {n : Nat} (hn : n < 6) (h0 : q 69 n = 0) (h : HSI q b2 (nI n) (nO q) 0) : HH (up2 (siK q (nI n) (nO q)) 69 n 1) b2 := by
  have hl := hW.ol
  intro pp e z hp he hz
  rw [h pp e z hp he hz]
  congr 1
  generalize hq : up2 (siK q (nI n) (nO q)) 69 n 1 = q'
  have E : ∀ c k, c ≠ 67 → (c ≠ 0 ∨ k ≠ 12) → (c < 18 ∨ 66 ≤ c ∨ (c - 18) % 4 ≠ 1) → (c ≠ 69 ∨ k ≠ n) → q' c k = q c k := fun c k h1 h2 h3 h4 => by
    rw [← hq, up2_o (by omega)]
    by_cases g : 66 ≤ c
    · exact siK_s _ h1 h2 (by omega)
    · exact siK_s _ h1 h2 (by omega)
  have eO : nO q' = nO q := congrArg tn (E 0 10 (by omega) (by omega) (by omega) (by omega))
  unfold hsE
  rw [eO, show (decide (pp < 0) && nwB q (nI n) pp (nI e) (nI z) (nO q)) = false from rfl, Bool.or_false, ← anyN_or]
  apply anyN_congr
  intro i hi
  have ei : isOfB q' i (nI e) (nI z) = isOfB q i (nI e) (nI z) := by
    unfold isOfB
    rw [E _ _ (by omega) (by omega) (by omega) (by omega), E _ _ (by omega) (by omega) (by omega) (by omega)]
  have eh : hs q' i pp = (if q (18 + 4 * i) 1 = nI n then hs q i pp && rgB q pp (exN q i) else hs q i pp) := by
    rw [← siK_hsn hW hI (s := nI n) hp (nO q) i hi hl, ← hq]
    unfold hs
    rw [up2_o (by omega)]
  have es : sl q' i = sl q i := congrArg tn (E _ _ (by omega) (by omega) (by omega) (by omega))
  have hsl : q (18 + 4 * i) 1 = nI (sl q i) := hW.sle (by omega)
  have hs5 := hW.sll (i := i) (by omega)
  have ec : clB q' i = (decide (q (18 + 4 * i) 1 = nI n) || clB q i) := by
    unfold clB
    rw [es]
    by_cases g : sl q i = n
    · rw [g, decide_eq_true (show q (18 + 4 * i) 1 = nI n by rw [hsl, g]), ← hq, up2_s]
      rfl
    · rw [decide_eq_false (show ¬ q (18 + 4 * i) 1 = nI n by rw [hsl, nI_eq (by omega) (by omega)]; exact g), E _ _ (by omega) (by omega) (by omega) (by omega)]
      rfl
  unfold hfB nwB
  rw [ei, eh, ec]
  by_cases g : q (18 + 4 * i) 1 = nI n
  · have c0 : clB q i = false := by
      have : sl q i = n := by unfold sl; rw [g]; exact tn_nI (by omega)
      unfold clB
      rw [this, h0]
      rfl
    rw [if_pos g, decide_eq_true g, c0]
    cases isOfB q i (nI e) (nI z) <;> cases hs q i pp <;> cases rgB q pp (exN q i) <;> rfl
  · rw [if_neg g, decide_eq_false g]
    cases isOfB q i (nI e) (nI z) <;> cases hs q i pp <;> cases clB q i <;> rfl
theorem RR.s69 {q b : Mem} (h : RR q b) {n : Nat} {v : Int32} (hn : n < 6) : RR (up2 q 69 n v) (up2 b 85 n v) := by
  obtain ⟨r1, r2, r3, r4, r5, r6, r7, r8, r9, r10, r11, r12, r13, r14, r15, r16, r17, r18, r19⟩ := h
  refine ⟨?_, ?_, ?_, ?_, ?_, ?_, ?_, ?_, ?_, ?_, ?_, ?_, ?_, ?_, ?_, ?_, ?_, ?_, ?_⟩ <;> (simp only [up2]; grind)
def KS (b b' : Mem) : Prop := (∀ k, b' 79 k = b 79 k) ∧ (∀ k, b' 80 k = b 80 k) ∧ b' 70 7 = b 70 7
theorem KS.rf {b : Mem} : KS b b := ⟨fun _ => rfl, fun _ => rfl, rfl⟩
theorem KS.tr {b b1 b2 : Mem} (h : KS b b1) (g : KS b1 b2) : KS b b2 := ⟨fun k => (g.1 k).trans (h.1 k), fun k => (g.2.1 k).trans (h.2.1 k), g.2.2.trans h.2.2⟩
theorem KS.up {b : Mem} {c k : Nat} {v : Int32} (h : c ≠ 79 ∧ c ≠ 80 ∧ (c ≠ 70 ∨ k ≠ 7)) : KS b (up2 b c k v) := ⟨fun j => up2_o (by omega), fun j => up2_o (by omega), up2_o (by omega)⟩
theorem KP.ks {b b' : Mem} (h : KP b b') : KS b b' := ⟨h.1, h.2.1, h.2.2.2.2⟩
theorem RR.u86 {q b : Mem} (h : RR q b) {m : Nat} {v : Int32} : RR q (up2 b 86 m v) := h

set_option maxHeartbeats 4000000 in
set_option maxRecDepth 100000 in
theorem c_X4_sit {l : Launch} {x : Sh} {a b : Mem} {o : Out} (hfl : l.stackTraces = false) {q : Mem} (hW : WC q) (hI : IQ q) (hR : RR q b) {s : Int32} (hH : HH q b) : MG l x yX4_sit cX4_sit 6 (some .int) 7 320 [.ref (x.2.1 70), .int s] a b o (QI x o (fun r a2 b2 => a2 = a ∧ r = rd (g3_sit q s) (nI (siC q s (nO q))) ∧ b2 70 0 = cd [eA, eU] (g3_sit q s) ∧ KS b b2 ∧ ((g3_sit q s) = none → RR (up2 (siK q s (nO q)) 69 (tn s) 1) b2 ∧ HH (up2 (siK q s (nO q)) 69 (tn s) 1) b2) ∧ ((g3_sit q s) ≠ none → RR q b2 ∧ HH q b2))) := by
  refine MG.of (maxL := 6) (ret := (some .int)) hfl (by decide) [some (.ref (x.2.1 70)), some (.int s), none, none, none, none] rfl rfl (Nat.le_of_ble_eq_true rfl) ?_
  intro pP eE sS mM argsA belowB methM cC C hr
  have ho12 := hW.ol
  have hp10 := hW.pl
  have he6 := hW.el
  obtain ⟨gg, hG⟩ : ∃ gg, gg = (g3_sit q s) := ⟨_, rfl⟩
  rw [← hG]
  refine V_aload_n C dX4_sit_0 rfl ?_
  refine V_iload_n C dX4_sit_1 rfl ?_
  refine V_callf (R_S C (c_X4_isSlot hfl) mi_X4_isSlot mk_X4_83 rfl (by decide) rfl (Nat.le_of_ble_eq_true rfl) (by decide) dX4_sit_2) ?_
  refine V_ifb_ne C 12 dX4_sit_5 (by decide) (fun h5 => ?_) (fun h5 => ?_)
  · obtain ⟨sy, hsy, sye⟩ := ix_of (N := 6) (E := eI) (gO_n.mpr h5) rfl (by decide)
    subst sye
    have tsy : tn (nI sy) = sy := tn_nI (by omega)
    try rw [tsy]
    refine V_iconst (v := 0) C dX4_sit_12 (by decide) ?_
    refine pt_X4_thrown C fk_X4_59 dX4_sit_13 ?_
    refine V_aload_n C dX4_sit_16 rfl ?_
    refine gt_X4_thrown C fk_X4_59 dX4_sit_17 ?_
    refine V_topi (show _ = (0 : Int32) from rfl) ?_
    refine V_if_ne C 41 dX4_sit_20 (by decide) (fun h20 => ?_) (fun h20 => ?_)
    · exact absurd h20 (by decide)
    · refine V_aload_n C dX4_sit_23 rfl ?_
      refine V_aload_n C dX4_sit_24 rfl ?_
      refine gt_X4_isSat C fk_X4_53 dX4_sit_25 ?_
      refine V_iload_n C dX4_sit_28 rfl ?_
      refine la_m_isSat C _ rfl (by omega) dX4_sit_29 ?_
      refine V_topi (hR.th.sat (by omega)) ?_
      refine V_if_eq C 37 dX4_sit_30 (by decide) (fun h30 => ?_) (fun h30 => ?_)
      · refine V_iconst (v := 0) C dX4_sit_37 (by decide) ?_
        refine pt_X4_thrown C fk_X4_59 dX4_sit_38 ?_
        refine V_aload_n C dX4_sit_41 rfl ?_
        refine gt_X4_thrown C fk_X4_59 dX4_sit_42 ?_
        refine V_topi (show _ = (0 : Int32) from rfl) ?_
        refine V_if_le C 50 dX4_sit_45 (by decide) (fun h45 => ?_) (fun h45 => ?_)
        · refine V_iconst (v := nI 0) C dX4_sit_50 (by decide) ?_
          refine V_istore_n2 C dX4_sit_51 (by decide) ?_
          refine V_iconst (v := nI 0) C dX4_sit_52 (by decide) ?_
          refine V_istore_n3 C dX4_sit_53 (by decide) ?_
          have L54 : ∀ (fuel : Nat) (i : Nat) (b2 : Mem), i ≤ nO q → RR (siK q (nI sy) i) b2 → HSI q b2 (nI sy) i 0 → KS b b2 → b2 70 0 = 0 → nO q - i < fuel → VV pP l eE ({ frames := 7, cells := 0, slots := 0, locals := 320 } : Room) sS mM argsA belowB methM cC (MQ belowB (QI x o (fun r a2 b2 => a2 = a ∧ r = rd gg (nI (siC q (nI sy) (nO q))) ∧ b2 70 0 = cd [eA, eU] gg ∧ KS b b2 ∧ (gg = none → RR (up2 (siK q (nI sy) (nO q)) 69 (sy) 1) b2 ∧ HH (up2 (siK q (nI sy) (nO q)) 69 (sy) 1) b2) ∧ (gg ≠ none → RR q b2 ∧ HH q b2)) sS.heap.size) argsA sS 0 0 (AW x sS.heap.size)) x 6 a b2 o 0 0 54 [some (.ref (x.2.1 70)), some (.int (nI sy)), some (.int (nI (siC q (nI sy) i))), some (.int (nI i)), none, none] [] := by
            intro fuel
            induction fuel with
            | zero => intro i b2 hi hR2 hH2 hK2 ht2 hm; exact absurd hm (Nat.not_lt_zero _)
            | succ fuel ih54 =>
              intro i b2 hi hR2 hH2 hK2 ht2 hm
              refine V_iload_n C dX4_sit_54 rfl ?_
              refine V_aload_n C dX4_sit_55 rfl ?_
              refine gt_X4_offers C fk_X4_73 dX4_sit_56 ?_
              refine V_topi ((hR2.c4.trans (siK_s i (by omega) (by omega) (by omega))).trans hW.oe) ?_
              refine V_lt C 185 dX4_sit_59 (by decide) (by omega) (by omega) (fun h59 => ?_) (fun h59 => ?_)
              · have e9 : i = nO q := by omega
                subst e9
                refine V_aload_n C dX4_sit_185 rfl ?_
                refine gt_X4_isSat C fk_X4_53 dX4_sit_186 ?_
                refine V_iload_n C dX4_sit_189 rfl ?_
                refine V_iconst (v := 1) C dX4_sit_190 (by decide) ?_
                refine sa_m_isSat C _ rfl (by omega) (by first | exact Or.inl rfl | exact Or.inr rfl | exact bI_or _ | assumption) dX4_sit_191 ?_
                refine V_iload_n C dX4_sit_192 rfl ?_
                have hg : gg = none := hG.trans (by first | (simp [g3_sit, gS, gO, h5, h20, h30, h45, h59]; done) | (simp [g3_sit, gS, gO, tsy, h5, h20, h30, h45, h59]; done))
                exact V_ireti C hr dX4_sit_193 ⟨rfl, by rw [hg]; rfl, by rw [hg]; exact ht2, hK2.tr (KS.up (by omega)), fun _ => ⟨hR2.s69 (by omega), hH2.fin hW hI (by omega) h30⟩, fun z => absurd hg z⟩
              · have he5 := hW.exl (i := i) (by omega)
                have hz2 : zNat (q (18 + 4 * i) 4) < 2 := by unfold zNat; split <;> omega
                refine V_iconst (v := nI 0) C dX4_sit_62 (by decide) ?_
                refine V_istore_4 C dX4_sit_63 (by decide) ?_
                have L65 : ∀ (fuel : Nat) (p : Nat) (b2 : Mem), p ≤ nP q → RR (zsK q (nI sy) i p) b2 → HSI q b2 (nI sy) i p → KS b b2 → b2 70 0 = 0 → nP q - p < fuel → VV pP l eE ({ frames := 7, cells := 0, slots := 0, locals := 320 } : Room) sS mM argsA belowB methM cC (MQ belowB (QI x o (fun r a2 b2 => a2 = a ∧ r = rd gg (nI (siC q (nI sy) (nO q))) ∧ b2 70 0 = cd [eA, eU] gg ∧ KS b b2 ∧ (gg = none → RR (up2 (siK q (nI sy) (nO q)) 69 (sy) 1) b2 ∧ HH (up2 (siK q (nI sy) (nO q)) 69 (sy) 1) b2) ∧ (gg ≠ none → RR q b2 ∧ HH q b2)) sS.heap.size) argsA sS 0 0 (AW x sS.heap.size)) x 6 a b2 o 0 0 65 [some (.ref (x.2.1 70)), some (.int (nI sy)), some (.int (nI (zsC q (nI sy) i p))), some (.int (nI i)), some (.int (nI p)), none] [] := by
                  intro fuel
                  induction fuel with
                  | zero => intro p b2 hp hR2 hH2 hK2 ht2 hm; exact absurd hm (Nat.not_lt_zero _)
                  | succ fuel ih65 =>
                    intro p b2 hp hR2 hH2 hK2 ht2 hm
                    refine V_iload C dX4_sit_65 rfl ?_
                    refine V_aload_n C dX4_sit_67 rfl ?_
                    refine gt_X4_pupils C fk_X4_63 dX4_sit_68 ?_
                    refine V_topi ((hR2.c3.trans (zsK_o (by omega) (by omega) (by omega))).trans hW.pe) ?_
                    refine V_lt C 179 dX4_sit_71 (by decide) (by omega) (by omega) (fun h71 => ?_) (fun h71 => ?_)
                    · have hx7 : p = nP q ∨ ¬ q (18 + 4 * i) 1 = nI sy := Or.inl (by omega)
                      refine V_iinc_3 C _ dX4_sit_179 (nI_1 _) (by decide) ?_
                      refine V_goto C 54 dX4_sit_182 (by decide) ?_
                      refine V_forget (lvLe.same (lvLe.same (lvLe.same (lvLe.same (lvLe.drop (lvLe.same lvLe.nil)))))) ?_
                      have e1 : zsK q (nI sy) i p = siK q (nI sy) (i + 1) ∧ zsC q (nI sy) i p = siC q (nI sy) (i + 1) := by
                        rcases hx7 with g | g
                        · rw [g]; exact zsK_e
                        · constructor
                          · rw [zsK, if_neg g, siK, if_neg g]
                          · rw [zsC, if_neg g, siC, if_neg g]
                      rw [e1.2]
                      exact ih54 (i + 1) _ (by omega) (by rw [← e1.1]; exact hR2) (hH2.out hI (by omega) hx7) hK2 ht2 (by omega)
                    · have hWz := zsK_W hW (s := nI sy) (i := i) (p := p) (by omega)
                      have hIz := zsK_I hW hI (s := nI sy) (i := i) (p := p) (by omega) (by omega)
                      refine V_aload_n C dX4_sit_74 rfl ?_
                      refine gt_X4_slot C fk_X4_16 dX4_sit_75 ?_
                      refine V_iload_n C dX4_sit_78 rfl ?_
                      refine la_m_slot C _ rfl (by omega) dX4_sit_79 ?_
                      refine V_topi ((hR2.sl (by omega)).trans (zsK_o (by omega) (by omega) (by omega))) ?_
                      refine V_iload_n C dX4_sit_80 rfl ?_
                      refine V_icmp_ne C 179 dX4_sit_81 (by decide) (fun h81 => ?_) (fun h81 => ?_)
                      · have hx7 : p = nP q ∨ ¬ q (18 + 4 * i) 1 = nI sy := Or.inr h81
                        refine V_iinc_3 C _ dX4_sit_179 (nI_1 _) (by decide) ?_
                        refine V_goto C 54 dX4_sit_182 (by decide) ?_
                        refine V_forget (lvLe.same (lvLe.same (lvLe.same (lvLe.same (lvLe.drop (lvLe.same lvLe.nil)))))) ?_
                        have e1 : zsK q (nI sy) i p = siK q (nI sy) (i + 1) ∧ zsC q (nI sy) i p = siC q (nI sy) (i + 1) := by
                          rcases hx7 with g | g
                          · rw [g]; exact zsK_e
                          · constructor
                            · rw [zsK, if_neg g, siK, if_neg g]
                            · rw [zsC, if_neg g, siC, if_neg g]
                        rw [e1.2]
                        exact ih54 (i + 1) _ (by omega) (by rw [← e1.1]; exact hR2) (hH2.out hI (by omega) hx7) hK2 ht2 (by omega)
                      · refine V_aload_n C dX4_sit_84 rfl ?_
                        refine gt_X4_paid C fk_X4_41 dX4_sit_85 ?_
                        refine V_iload C dX4_sit_88 rfl ?_
                        refine V_iload_n C dX4_sit_90 rfl ?_
                        refine V_callf (R_S C (c_X4_pair hfl) mi_X4_pair mk_X4_96 rfl (by decide) rfl (Nat.le_of_ble_eq_true rfl) (by decide) dX4_sit_91) ?_
                        refine la_m_paid C _ rfl (by omega) dX4_sit_94 ?_
                        refine V_topi ((hR2.pd (by omega) (by omega)).trans (zsK_o (by omega) (by omega) (by omega))) ?_
                        refine V_istore_5 C dX4_sit_95 (by decide) ?_
                        refine V_iload C dX4_sit_97 rfl ?_
                        refine V_iconst (v := -1) C dX4_sit_99 (by decide) ?_
                        refine V_icmp_eq C 147 dX4_sit_100 (by decide) (fun h100 => ?_) (fun h100 => ?_)
                        · refine V_iload C dX4_sit_147 rfl ?_
                          refine V_iconst (v := -1) C dX4_sit_149 (by decide) ?_
                          refine V_icmp_eq C 173 dX4_sit_150 (by decide) (fun h150 => ?_) (fun h150 => ?_)
                          · refine V_iinc_4 C _ dX4_sit_173 (nI_1 _) (by decide) ?_
                            refine V_goto C 65 dX4_sit_176 (by decide) ?_
                            refine V_forget (lvLe.same (lvLe.same (lvLe.same (lvLe.same (lvLe.same (lvLe.drop lvLe.nil)))))) ?_
                            first
                              | (have ih := ih65 (p + 1) (up2 b2 86 (2 * (p * 6 + exN q i) + zNat (q (18 + 4 * i) 4)) 1) (by omega) (by rw [zsK_no (by omega) (Or.inr h115)]; exact hR2.u86) (hH2.yes hW (by omega) (by omega) h81 (hs_t.mpr h100) h115) (hK2.tr (KS.up (by omega))) ht2 (by omega)
                                 rw [zsC_t (by omega) h81 (hs_t.mpr h100) h115] at ih
                                 exact ih)
                              | (have ih := ih65 (p + 1) (up2 (brB b2 p (q (18 + 4 * i + 1) p)) 81 (p * 12 + i) (-1)) (by omega) (by rw [zsK_un (by omega) h81 (hs_t.mpr h100) h115]; exact hR2.un (by omega) (by omega)) (hH2.no (Or.inr h115)) (hK2.tr (KP.br.ks.tr (KS.up (by omega)))) ht2 (by omega)
                                 rw [zsC_f (by omega) (Or.inr h115)] at ih
                                 exact ih)
                              | (have ih := ih65 (p + 1) b2 (by omega) (by rw [zsK_no (by omega) (Or.inl (hs_f.mpr h100))]; exact hR2) (hH2.no (Or.inl (hs_f.mpr h100))) hK2 ht2 (by omega)
                                 rw [zsC_f (by omega) (Or.inl (hs_f.mpr h100))] at ih
                                 exact ih)
                          · exact absurd h100 h150
                        · refine V_aload_n C dX4_sit_103 rfl ?_
                          refine V_iload C dX4_sit_104 rfl ?_
                          refine V_aload_n C dX4_sit_106 rfl ?_
                          refine gt_X4_exam C fk_X4_13 dX4_sit_107 ?_
                          refine V_iload_n C dX4_sit_110 rfl ?_
                          refine la_m_exam C _ rfl (by omega) dX4_sit_111 ?_
                          refine V_topi (((hR2.ex (by omega)).trans (zsK_o (by omega) (by omega) (by omega))).trans (hW.exe (by omega))) ?_
                          refine V_callf (R_V C (c_X4_sits hfl hWz hIz hR2 (by omega) (by omega)) mi_X4_sits mk_X4_113 rfl (by omega) rfl (rfl : vwCl[6]? = some (RX4, TX4, 24)) (by decide) rfl (Nat.le_of_ble_eq_true rfl) (by decide) dX4_sit_112) ?_
                          rw [zsK_rg (by omega)]
                          refine V_ifb_eq C 147 dX4_sit_115 (by decide) (fun h115 => ?_) (fun h115 => ?_)
                          · refine V_iload C dX4_sit_147 rfl ?_
                            refine V_iconst (v := -1) C dX4_sit_149 (by decide) ?_
                            refine V_icmp_eq C 173 dX4_sit_150 (by decide) (fun h150 => ?_) (fun h150 => ?_)
                            · exact absurd h150 h100
                            · refine V_aload_n C dX4_sit_153 rfl ?_
                              refine V_iload C dX4_sit_154 rfl ?_
                              refine V_iload C dX4_sit_156 rfl ?_
                              refine V_callfv (R_V C (c_X4_bring hfl (by omega)) mi_X4_bring mk_X4_162 rfl (by omega) rfl (rfl : vwCl[6]? = some (RX4, TX4, 24)) (by decide) rfl (Nat.le_of_ble_eq_true rfl) (by decide) dX4_sit_158) ?_
                              refine V_aload_n C dX4_sit_161 rfl ?_
                              refine gt_X4_paid C fk_X4_41 dX4_sit_162 ?_
                              refine V_iload C dX4_sit_165 rfl ?_
                              refine V_iload_n C dX4_sit_167 rfl ?_
                              refine V_callf (R_S C (c_X4_pair hfl) mi_X4_pair mk_X4_96 rfl (by decide) rfl (Nat.le_of_ble_eq_true rfl) (by decide) dX4_sit_168) ?_
                              refine V_iconst (v := -1) C dX4_sit_171 (by decide) ?_
                              refine sa_m_paid C _ rfl (by omega) dX4_sit_172 ?_
                              refine V_iinc_4 C _ dX4_sit_173 (nI_1 _) (by decide) ?_
                              refine V_goto C 65 dX4_sit_176 (by decide) ?_
                              refine V_forget (lvLe.same (lvLe.same (lvLe.same (lvLe.same (lvLe.same (lvLe.drop lvLe.nil)))))) ?_
                              first
                                | (have ih := ih65 (p + 1) (up2 b2 86 (2 * (p * 6 + exN q i) + zNat (q (18 + 4 * i) 4)) 1) (by omega) (by rw [zsK_no (by omega) (Or.inr h115)]; exact hR2.u86) (hH2.yes hW (by omega) (by omega) h81 (hs_t.mpr h100) h115) (hK2.tr (KS.up (by omega))) ht2 (by omega)
                                   rw [zsC_t (by omega) h81 (hs_t.mpr h100) h115] at ih
                                   exact ih)
                                | (have ih := ih65 (p + 1) (up2 (brB b2 p (q (18 + 4 * i + 1) p)) 81 (p * 12 + i) (-1)) (by omega) (by rw [zsK_un (by omega) h81 (hs_t.mpr h100) h115]; exact hR2.un (by omega) (by omega)) (hH2.no (Or.inr h115)) (hK2.tr (KP.br.ks.tr (KS.up (by omega)))) ht2 (by omega)
                                   rw [zsC_f (by omega) (Or.inr h115)] at ih
                                   exact ih)
                                | (have ih := ih65 (p + 1) b2 (by omega) (by rw [zsK_no (by omega) (Or.inl (hs_f.mpr h100))]; exact hR2) (hH2.no (Or.inl (hs_f.mpr h100))) hK2 ht2 (by omega)
                                   rw [zsC_f (by omega) (Or.inl (hs_f.mpr h100))] at ih
                                   exact ih)
                          · refine V_aload_n C dX4_sit_118 rfl ?_
                            refine gt_X4_hasSat C fk_X4_56 dX4_sit_119 ?_
                            refine V_iload C dX4_sit_122 rfl ?_
                            refine V_aload_n C dX4_sit_124 rfl ?_
                            refine gt_X4_exam C fk_X4_13 dX4_sit_125 ?_
                            refine V_iload_n C dX4_sit_128 rfl ?_
                            refine la_m_exam C _ rfl (by omega) dX4_sit_129 ?_
                            refine V_topi (((hR2.ex (by omega)).trans (zsK_o (by omega) (by omega) (by omega))).trans (hW.exe (by omega))) ?_
                            refine V_aload_n C dX4_sit_130 rfl ?_
                            refine gt_X4_isResit C fk_X4_22 dX4_sit_131 ?_
                            refine V_iload_n C dX4_sit_134 rfl ?_
                            refine la_m_isResit C _ rfl (by omega) dX4_sit_135 ?_
                            refine V_topi ((hR2.zz (by omega)).trans (zsK_o (by omega) (by omega) (by omega))) ?_
                            refine V_callf (R_S C (c_X4_satCell hfl) mi_X4_satCell mk_X4_178 rfl (by decide) rfl (Nat.le_of_ble_eq_true rfl) (by decide) dX4_sit_136) ?_
                            refine V_iconst (v := 1) C dX4_sit_139 (by decide) ?_
                            refine sa_m_hasSat C _ rfl (by omega) (by first | exact Or.inl rfl | exact Or.inr rfl | exact bI_or _ | assumption) dX4_sit_140 ?_
                            refine V_iinc_2 C _ dX4_sit_141 (nI_1 _) (by decide) ?_
                            refine V_goto C 173 dX4_sit_144 (by decide) ?_
                            refine V_iinc_4 C _ dX4_sit_173 (nI_1 _) (by decide) ?_
                            refine V_goto C 65 dX4_sit_176 (by decide) ?_
                            refine V_forget (lvLe.same (lvLe.same (lvLe.same (lvLe.same (lvLe.same (lvLe.drop lvLe.nil)))))) ?_
                            first
                              | (have ih := ih65 (p + 1) (up2 b2 86 (2 * (p * 6 + exN q i) + zNat (q (18 + 4 * i) 4)) 1) (by omega) (by rw [zsK_no (by omega) (Or.inr h115)]; exact hR2.u86) (hH2.yes hW (by omega) (by omega) h81 (hs_t.mpr h100) h115) (hK2.tr (KS.up (by omega))) ht2 (by omega)
                                 rw [zsC_t (by omega) h81 (hs_t.mpr h100) h115] at ih
                                 exact ih)
                              | (have ih := ih65 (p + 1) (up2 (brB b2 p (q (18 + 4 * i + 1) p)) 81 (p * 12 + i) (-1)) (by omega) (by rw [zsK_un (by omega) h81 (hs_t.mpr h100) h115]; exact hR2.un (by omega) (by omega)) (hH2.no (Or.inr h115)) (hK2.tr (KP.br.ks.tr (KS.up (by omega)))) ht2 (by omega)
                                 rw [zsC_f (by omega) (Or.inr h115)] at ih
                                 exact ih)
                              | (have ih := ih65 (p + 1) b2 (by omega) (by rw [zsK_no (by omega) (Or.inl (hs_f.mpr h100))]; exact hR2) (hH2.no (Or.inl (hs_f.mpr h100))) hK2 ht2 (by omega)
                                 rw [zsC_f (by omega) (Or.inl (hs_f.mpr h100))] at ih
                                 exact ih)
                have e1 : zsK q (nI sy) i 0 = siK q (nI sy) i := by unfold zsK; split <;> rfl
                have e2 : zsC q (nI sy) i 0 = siC q (nI sy) i := by unfold zsC; split <;> rfl
                have L := L65 _ 0 _ (Nat.zero_le _) (by rw [e1]; exact hR2) hH2 hK2 ht2 (Nat.lt_succ_self _)
                rw [e2] at L
                exact L
          exact L54 _ 0 (up2 (up2 b 70 0 0) 70 0 0) (Nat.zero_le _) hR (fun pp e z h1 h2 h3 => (hH pp e z h1 h2 h3).trans (by simp [anyN])) ((KS.up (by omega)).tr (KS.up (by omega))) rfl (Nat.lt_succ_self _)
        · exact absurd h45 (by decide)
      · refine V_iconst (v := 2) C dX4_sit_33 (by decide) ?_
        refine V_goto C 38 dX4_sit_34 (by decide) ?_
        refine pt_X4_thrown C fk_X4_59 dX4_sit_38 ?_
        refine V_aload_n C dX4_sit_41 rfl ?_
        refine gt_X4_thrown C fk_X4_59 dX4_sit_42 ?_
        refine V_topi (show _ = (2 : Int32) from rfl) ?_
        refine V_if_le C 50 dX4_sit_45 (by decide) (fun h45 => ?_) (fun h45 => ?_)
        · exact absurd h45 (by decide)
        · refine V_iconst (v := 0) C dX4_sit_48 (by decide) ?_
          have hg : gg = some eU := hG.trans (by first | (simp [g3_sit, gS, gO, h5, h20, h30, h45]; done) | (simp [g3_sit, gS, gO, tsy, h5, h20, h30, h45]; done))
          exact V_ireti C hr dX4_sit_49 ⟨rfl, by rw [hg]; rfl, by rw [hg]; rfl, (by first | exact KS.up (by omega) | exact (KS.up (by omega)).tr (KS.up (by omega))), fun z => (by rw [hg] at z; cases z), fun _ => ⟨hR, hH⟩⟩
  · refine V_iconst (v := 1) C dX4_sit_8 (by decide) ?_
    refine V_goto C 13 dX4_sit_9 (by decide) ?_
    refine pt_X4_thrown C fk_X4_59 dX4_sit_13 ?_
    refine V_aload_n C dX4_sit_16 rfl ?_
    refine gt_X4_thrown C fk_X4_59 dX4_sit_17 ?_
    refine V_topi (show _ = (1 : Int32) from rfl) ?_
    refine V_if_ne C 41 dX4_sit_20 (by decide) (fun h20 => ?_) (fun h20 => ?_)
    · refine V_aload_n C dX4_sit_41 rfl ?_
      refine gt_X4_thrown C fk_X4_59 dX4_sit_42 ?_
      refine V_topi (show _ = (1 : Int32) from rfl) ?_
      refine V_if_le C 50 dX4_sit_45 (by decide) (fun h45 => ?_) (fun h45 => ?_)
      · exact absurd h45 (by decide)
      · refine V_iconst (v := 0) C dX4_sit_48 (by decide) ?_
        have hg : gg = some eA := hG.trans (by first | (simp [g3_sit, gS, gO, h5, h20, h45]; done) | (simp [g3_sit, gS, gO, tsy, h5, h20, h45]; done))
        exact V_ireti C hr dX4_sit_49 ⟨rfl, by rw [hg]; rfl, by rw [hg]; rfl, (by first | exact KS.up (by omega) | exact (KS.up (by omega)).tr (KS.up (by omega))), fun z => (by rw [hg] at z; cases z), fun _ => ⟨hR, hH⟩⟩
    · exact absurd h20 (by decide)
