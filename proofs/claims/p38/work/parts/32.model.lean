/-! rights that change behind a seat: what is known of the class's cells -/
/-- S seats, np pupils; rights by store and pupil, minutes, points, what was paid, how many wait, refunds, whether the slot was sat -/
def MD (S np : Nat) (rg : Nat → Nat → Int32) (mx pt pd : Nat → Int32) (qw rf sat : Int32) (a : Mem) : Prop :=
  (a 0 8 = 1 ∧ a 0 9 = nI np ∧ a 0 10 = 1 ∧ a 0 12 = rf) ∧ (a 18 0 = 0 ∧ a 18 1 = 2 ∧ a 18 3 = nI S ∧ a 18 4 = 0 ∧ a 18 8 = qw) ∧ (∀ q, q < 10 → a 19 q = pd q) ∧ (∀ q, q < 10 → a 67 q = pt q) ∧ (∀ q, q < 10 → a 68 q = 0) ∧ a 69 2 = sat ∧ (a 12 1 = 1 ∧ a 12 2 = 2) ∧ (∀ s q, s < 3 → q < 10 → a (3 + s * 3) (q * 6) = rg s q) ∧ (∀ q, q < 10 → a 7 (q * 6) = -1) ∧ (∀ q, q < 10 → a 11 (q * 6) = mx q)
section MDS
variable {S np np' : Nat} {rg rg' : Nat → Nat → Int32} {mx pt pd mx' pt' pd' : Nat → Int32} {qw rf sat qw' rf' sat' : Int32} {a a' : Mem}
theorem MD.ke8 (h : MD S np rg mx pt pd qw rf sat a) : a 0 8 = 1 := h.1.1
theorem MD.ke9 (h : MD S np rg mx pt pd qw rf sat a) : a 0 9 = nI np := h.1.2.1
theorem MD.ke10 (h : MD S np rg mx pt pd qw rf sat a) : a 0 10 = 1 := h.1.2.2.1
theorem MD.krf (h : MD S np rg mx pt pd qw rf sat a) : a 0 12 = rf := h.1.2.2.2
theorem MD.kc0 (h : MD S np rg mx pt pd qw rf sat a) : a 18 0 = 0 := h.2.1.1
theorem MD.kc1 (h : MD S np rg mx pt pd qw rf sat a) : a 18 1 = 2 := h.2.1.2.1
theorem MD.kc3 (h : MD S np rg mx pt pd qw rf sat a) : a 18 3 = nI S := h.2.1.2.2.1
theorem MD.kc4 (h : MD S np rg mx pt pd qw rf sat a) : a 18 4 = 0 := h.2.1.2.2.2.1
theorem MD.kq (h : MD S np rg mx pt pd qw rf sat a) : a 18 8 = qw := h.2.1.2.2.2.2
theorem MD.kpd (h : MD S np rg mx pt pd qw rf sat a) {q : Nat} (hq : q < 10) : a 19 q = pd q := h.2.2.1 q hq
theorem MD.kpt (h : MD S np rg mx pt pd qw rf sat a) {q : Nat} (hq : q < 10) : a 67 q = pt q := h.2.2.2.1 q hq
theorem MD.kfo (h : MD S np rg mx pt pd qw rf sat a) {q : Nat} (hq : q < 10) : a 68 q = 0 := h.2.2.2.2.1 q hq
theorem MD.ksat (h : MD S np rg mx pt pd qw rf sat a) : a 69 2 = sat := h.2.2.2.2.2.1
theorem MD.ko1 (h : MD S np rg mx pt pd qw rf sat a) : a 12 1 = 1 := h.2.2.2.2.2.2.1.1
theorem MD.ko2 (h : MD S np rg mx pt pd qw rf sat a) : a 12 2 = 2 := h.2.2.2.2.2.2.1.2
theorem MD.krg (h : MD S np rg mx pt pd qw rf sat a) {s q : Nat} (hs : s < 3) (hq : q < 10) : a (3 + s * 3) (q * 6) = rg s q := h.2.2.2.2.2.2.2.1 s q hs hq
theorem MD.kmk (h : MD S np rg mx pt pd qw rf sat a) {q : Nat} (hq : q < 10) : a 7 (q * 6) = -1 := h.2.2.2.2.2.2.2.2.1 q hq
theorem MD.kmx (h : MD S np rg mx pt pd qw rf sat a) {q : Nat} (hq : q < 10) : a 11 (q * 6) = mx q := h.2.2.2.2.2.2.2.2.2 q hq
theorem MD.kre (h : MD S np rg mx pt pd qw rf sat a) (E : ∀ c k, ((c = 0 ∧ (k = 8 ∨ k = 10)) ∨ (c = 18 ∧ k < 5 ∧ k ≠ 2) ∨ c = 68 ∨ c = 12 ∨ c = 7) → a' c k = a c k) (e9 : a' 0 9 = nI np') (e12 : a' 0 12 = rf') (e8 : a' 18 8 = qw') (e19 : ∀ q, q < 10 → a' 19 q = pd' q) (e67 : ∀ q, q < 10 → a' 67 q = pt' q) (e69 : a' 69 2 = sat') (er : ∀ s q, s < 3 → q < 10 → a' (3 + s * 3) (q * 6) = rg' s q) (em : ∀ q, q < 10 → a' 11 (q * 6) = mx' q) : MD S np' rg' mx' pt' pd' qw' rf' sat' a' :=
  ⟨⟨(E 0 8 (by omega)).trans h.ke8, e9, (E 0 10 (by omega)).trans h.ke10, e12⟩, ⟨(E 18 0 (by omega)).trans h.kc0, (E 18 1 (by omega)).trans h.kc1, (E 18 3 (by omega)).trans h.kc3, (E 18 4 (by omega)).trans h.kc4, e8⟩, e19, e67, fun q hq => (E 68 q (by omega)).trans (h.kfo hq), e69, ⟨(E 12 1 (by omega)).trans h.ko1, (E 12 2 (by omega)).trans h.ko2⟩, er, fun q hq => (E 7 (q * 6) (by omega)).trans (h.kmk hq), em⟩
/-- what MD doesn't speak of -/
theorem MD.ksame (h : MD S np rg mx pt pd qw rf sat a) (E : ∀ c k, ((c = 0 ∧ k ≠ 7 ∧ k ≠ 11) ∨ (3 ≤ c ∧ c < 13) ∨ (c = 18 ∧ k ≠ 2) ∨ c = 19 ∨ (67 ≤ c ∧ c < 70)) → a' c k = a c k) : MD S np rg mx pt pd qw rf sat a' :=
  h.kre (fun c k hk => E c k (by omega)) ((E 0 9 (by omega)).trans h.ke9) ((E 0 12 (by omega)).trans h.krf) ((E 18 8 (by omega)).trans h.kq) (fun q hq => (E 19 q (by omega)).trans (h.kpd hq)) (fun q hq => (E 67 q (by omega)).trans (h.kpt hq)) ((E 69 2 (by omega)).trans h.ksat) (fun s q hs hq => (E (3 + s * 3) (q * 6) (by omega)).trans (h.krg hs hq)) (fun q hq => (E 11 (q * 6) (by omega)).trans (h.kmx hq))
theorem MD.kto (h : MD S np rg mx pt pd qw rf sat a) (h1 : ∀ s q, s < 3 → q < 10 → rg s q = rg' s q) (h2 : ∀ q, q < 10 → mx q = mx' q) (h3 : ∀ q, q < 10 → pt q = pt' q) (h4 : ∀ q, q < 10 → pd q = pd' q) : MD S np rg' mx' pt' pd' qw rf sat a :=
  h.kre (fun _ _ _ => rfl) h.ke9 h.krf h.kq (fun q hq => (h.kpd hq).trans (h4 q hq)) (fun q hq => (h.kpt hq).trans (h3 q hq)) h.ksat (fun s q hs hq => (h.krg hs hq).trans (h1 s q hs hq)) (fun q hq => (h.kmx hq).trans (h2 q hq))
theorem MD.knE (h : MD S np rg mx pt pd qw rf sat a) : nE a = 1 := by show tn (a 0 8) = 1; rw [h.ke8]; rfl
theorem MD.knP (h : MD S np rg mx pt pd qw rf sat a) (hn : np < 100) : nP a = np := by show tn (a 0 9) = np; rw [h.ke9]; exact tn_nI (by omega)
theorem MD.knO (h : MD S np rg mx pt pd qw rf sat a) : nO a = 1 := by show tn (a 0 10) = 1; rw [h.ke10]; rfl
theorem MD.kst (h : MD S np rg mx pt pd qw rf sat a) (hS : S < 100) : stN a 0 = S := by show tn (a 18 3) = S; rw [h.kc3]; exact tn_nI (by omega)
theorem MD.ksl (h : MD S np rg mx pt pd qw rf sat a) : sl a 0 = 2 := by show tn (a 18 1) = 2; rw [h.kc1]; rfl
theorem MD.kex (h : MD S np rg mx pt pd qw rf sat a) : exN a 0 = 0 := by show tn (a 18 0) = 0; rw [h.kc0]; rfl
theorem inB_t {q n : Nat} (h : q < n) (hn : n < 2 ^ 31) : inB (nI q) (nI n) = true := by
  unfold inB
  rw [decide_eq_true (nI_pos (by omega)), decide_eq_true (nI_lt h hn)]
  rfl
theorem gn_S0 {g1 g2 : Option String} (h : gn g1 = 0) : gn (gS g1 g2) = gn g2 := by rw [gn_S, if_pos h]
theorem gn_Sx {g1 g2 : Option String} {v : Int32} (h : gn g1 = v) (hv : v ≠ 0) : gn (gS g1 g2) = v := by rw [gn_S, if_neg (by rw [h]; exact hv), h]
theorem gn_Ot {ok : Bool} {E : String} (h : ok = true) : gn (gO ok E) = 0 := by rw [gn_O, if_pos h]
theorem gn_Of {ok : Bool} {E : String} (h : ok = false) : gn (gO ok E) = cE E := by rw [gn_O, if_neg (by rw [h]; decide)]
theorem MD.kgP (h : MD S np rg mx pt pd qw rf sat a) {q : Nat} (hq : q < np) (hn : np ≤ 10) : gn (gP a (nI q)) = 0 := gn_Ot (by rw [h.ke9]; exact inB_t hq (by omega))
theorem MD.kgE (h : MD S np rg mx pt pd qw rf sat a) : gn (gE a 0) = 0 := gn_Ot (by rw [h.ke8]; decide)
theorem MD.kgQ (h : MD S np rg mx pt pd qw rf sat a) : gn (gQ a 0) = 0 := gn_Ot (by rw [h.ke10]; decide)
theorem MD.khs (h : MD S np rg mx pt pd qw rf sat a) {q : Nat} (hq : q < 10) : hs a 0 q = decide (¬ pd q = -1) := by
  show decide (¬ a 19 q = -1) = _
  rw [h.kpd hq]
theorem anyN_1 {f : Nat → Bool} : anyN f 1 = f 0 := by simp [anyN]
theorem firN_1 {f : Nat → Bool} : firN f 1 = if f 0 = true then 0 else 1 := by simp [firN]
theorem MD.kof0 (h : MD S np rg mx pt pd qw rf sat a) : isOfB a 0 0 0 = true := by
  show (decide (a 18 0 = 0) && decide (a 18 4 = 0)) = true
  rw [h.kc0, h.kc4]
  rfl
theorem MD.khf (h : MD S np rg mx pt pd qw rf sat a) {q : Nat} (hq : q < 10) : hfB a q 0 0 0 = decide (¬ pd q = -1) := by
  unfold hfB
  rw [h.kof0, h.khs hq, Bool.true_and]
theorem MD.kha (h : MD S np rg mx pt pd qw rf sat a) {q : Nat} (hq : q < 10) : haB a q 2 0 = decide (¬ pd q = -1) := by
  unfold haB
  rw [h.khs hq]
  show (decide (a 18 1 = 2) && _) = _
  rw [h.kc1]
  rfl
theorem MD.krT (h : MD S np rg mx pt pd qw rf sat a) {q : Nat} (hq : q < 10) (h0 : rg 0 q = 1) (h1 : rg 1 q = 1) (h2 : rg 2 q = 1) : rgB a q 0 = true := by
  have e0 : a 3 (q * 6) = 1 := (h.krg (s := 0) (by decide) hq).trans h0
  have e1 : a 6 (q * 6) = 1 := (h.krg (s := 1) (by decide) hq).trans h1
  have e2 : a 9 (q * 6) = 1 := (h.krg (s := 2) (by decide) hq).trans h2
  simp [rgB, agB, anyN, agN, e0, e1, e2]
theorem MD.krF (h : MD S np rg mx pt pd qw rf sat a) {q : Nat} (hq : q < 10) (h0 : rg 0 q = 1) (h1 : rg 1 q = 0) : rgB a q 0 = false := by
  have e0 : a 3 (q * 6) = 1 := (h.krg (s := 0) (by decide) hq).trans h0
  have e1 : a 6 (q * 6) = 0 := (h.krg (s := 1) (by decide) hq).trans h1
  simp [rgB, agB, anyN, agN, e0, e1]
/-- nothing is wanting but a seat -/
theorem MD.knos (h : MD S np rg mx pt pd qw rf 0 a) {q : Nat} {V : Int32} (hq : q < 10) (h0 : rg 0 q = 1) (h1 : rg 1 q = 1) (h2 : rg 2 q = 1) (hp : pd q = -1) (hv : ¬ pt q < V) : nos a 0 q V = true := by
  have k1 : clB a 0 = false := by
    unfold clB
    rw [h.ksl, h.ksat]
    rfl
  have k2 : mayB a 0 q = true := by
    unfold mayB
    rw [h.kex, h.krT hq h0 h1 h2]
    show (true && (if a 18 4 = 0 then decide (a (3 + (tn (a 12 1) * 3 + 1)) (q * 6 + 0) = -1) else roB a q 0)) = true
    rw [h.kc4, if_pos rfl, h.ko1]
    show decide (a 7 (q * 6) = -1) = true
    rw [h.kmk hq]
    rfl
  have k3 : anyN (hfB a q (a (18 + 4 * 0) 0) (a (18 + 4 * 0) 4)) (nO a) = false := by
    show anyN (hfB a q (a 18 0) (a 18 4)) (tn (a 0 10)) = false
    rw [h.kc0, h.kc4, h.ke10]
    show anyN _ 1 = false
    rw [anyN_1, h.khf hq, hp]
    rfl
  have k4 : anyN (haB a q (a (18 + 4 * 0) 1)) (nO a) = false := by
    show anyN (haB a q (a 18 1)) (tn (a 0 10)) = false
    rw [h.kc1, h.ke10]
    show anyN _ 1 = false
    rw [anyN_1, h.kha hq, hp]
    rfl
  unfold nos
  rw [k1, k2, k3, k4, h.kpt hq, decide_eq_true hv]
  rfl
end MDS
