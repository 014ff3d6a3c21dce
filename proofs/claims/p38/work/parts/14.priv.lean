abbrev tn (v : Int32) : Nat := v.toNatClampNeg
theorem tn_nI {n : Nat} (h : n < 2 ^ 31) : tn (nI n) = n := nI_clamp h
/-- a natural of at most n -/
def isN (v : Int32) (n : Nat) : Prop := v = nI (tn v) ∧ tn v ≤ n
theorem isN.of {v : Int32} {n k : Nat} (h : v = nI k) (hk : k ≤ n) (hn : n < 2 ^ 31) : isN v n := by
  subst h
  refine ⟨by rw [tn_nI (by omega)], by rw [tn_nI (by omega)]; exact hk⟩
theorem bI_of01 {v : Int32} (h : v = 0 ∨ v = 1) : v = bI (decide (¬ v = 0)) := by rcases h with rfl | rfl <;> rfl
abbrev nR (a : Mem) : Nat := tn (a 0 7)
abbrev nE (a : Mem) : Nat := tn (a 0 8)
abbrev nP (a : Mem) : Nat := tn (a 0 9)
abbrev nO (a : Mem) : Nat := tn (a 0 10)
abbrev sl (a : Mem) (i : Nat) : Nat := tn (a (18 + 4 * i) 1)
abbrev exN (a : Mem) (i : Nat) : Nat := tn (a (18 + 4 * i) 0)
abbrev ow (a : Mem) (f : Nat) : Nat := tn (a 12 f)
abbrev bW (a : Mem) : Nat := tn (a 13 3)
abbrev wtN (a : Mem) (i k : Nat) : Nat := tn (a (18 + 4 * i + 2) k)
/-- what is well formed in the class's cells -/
def WO (a : Mem) (i : Nat) : Prop := isN (a (18 + 4 * i) 0) 5 ∧ isN (a (18 + 4 * i) 1) 5 ∧ (a (18 + 4 * i) 4 = 0 ∨ a (18 + 4 * i) 4 = 1) ∧ isN (a (18 + 4 * i) 8) 10 ∧ isN (a (18 + 4 * i) 3) 6 ∧ ∀ k, k < qW a i → isN (a (18 + 4 * i + 2) k) 9
def WC (a : Mem) : Prop := isN (a 0 7) 3 ∧ isN (a 0 8) 6 ∧ isN (a 0 9) 10 ∧ isN (a 0 10) 12 ∧ (∀ i, i < 12 → WO a i) ∧ (∀ f, f < 3 → isN (a 12 f) 2) ∧ isN (a 13 3) 120 ∧ (∀ k, k < bW a → isN (a 14 k) 9 ∧ isN (a 15 k) 11) ∧ ∀ s, s < 6 → (a 69 s = 0 ∨ a 69 s = 1)
theorem WC.r {a : Mem} (h : WC a) : isN (a 0 7) 3 := h.1
theorem WC.e {a : Mem} (h : WC a) : isN (a 0 8) 6 := h.2.1
theorem WC.p {a : Mem} (h : WC a) : isN (a 0 9) 10 := h.2.2.1
theorem WC.o {a : Mem} (h : WC a) : isN (a 0 10) 12 := h.2.2.2.1
theorem WC.off {a : Mem} (h : WC a) {i : Nat} (hi : i < 12) : WO a i := h.2.2.2.2.1 i hi
theorem WC.own {a : Mem} (h : WC a) {f : Nat} (hf : f < 3) : isN (a 12 f) 2 := h.2.2.2.2.2.1 f hf
theorem WC.b {a : Mem} (h : WC a) : isN (a 13 3) 120 := h.2.2.2.2.2.2.1
theorem WC.bd {a : Mem} (h : WC a) {k : Nat} (hk : k < bW a) : isN (a 14 k) 9 ∧ isN (a 15 k) 11 := h.2.2.2.2.2.2.2.1 k hk
theorem WC.sat {a : Mem} (h : WC a) {s : Nat} (hs : s < 6) : a 69 s = 0 ∨ a 69 s = 1 := h.2.2.2.2.2.2.2.2 s hs
abbrev stN (a : Mem) (i : Nat) : Nat := tn (a (18 + 4 * i) 3)
abbrev bpN (a : Mem) (k : Nat) : Nat := tn (a 14 k)
abbrev boN (a : Mem) (k : Nat) : Nat := tn (a 15 k)
theorem WC.re {a : Mem} (h : WC a) : a 0 7 = nI (nR a) := h.r.1
theorem WC.rl {a : Mem} (h : WC a) : nR a ≤ 3 := h.r.2
theorem WC.ee {a : Mem} (h : WC a) : a 0 8 = nI (nE a) := h.e.1
theorem WC.el {a : Mem} (h : WC a) : nE a ≤ 6 := h.e.2
theorem WC.pe {a : Mem} (h : WC a) : a 0 9 = nI (nP a) := h.p.1
theorem WC.pl {a : Mem} (h : WC a) : nP a ≤ 10 := h.p.2
theorem WC.oe {a : Mem} (h : WC a) : a 0 10 = nI (nO a) := h.o.1
theorem WC.ol {a : Mem} (h : WC a) : nO a ≤ 12 := h.o.2
theorem WC.exe {a : Mem} (h : WC a) {i : Nat} (hi : i < 12) : a (18 + 4 * i) 0 = nI (exN a i) := (h.off hi).1.1
theorem WC.exl {a : Mem} (h : WC a) {i : Nat} (hi : i < 12) : exN a i ≤ 5 := (h.off hi).1.2
theorem WC.sle {a : Mem} (h : WC a) {i : Nat} (hi : i < 12) : a (18 + 4 * i) 1 = nI (sl a i) := (h.off hi).2.1.1
theorem WC.sll {a : Mem} (h : WC a) {i : Nat} (hi : i < 12) : sl a i ≤ 5 := (h.off hi).2.1.2
theorem WC.zz {a : Mem} (h : WC a) {i : Nat} (hi : i < 12) : a (18 + 4 * i) 4 = 0 ∨ a (18 + 4 * i) 4 = 1 := (h.off hi).2.2.1
theorem WC.qe {a : Mem} (h : WC a) {i : Nat} (hi : i < 12) : a (18 + 4 * i) 8 = nI (qW a i) := (h.off hi).2.2.2.1.1
theorem WC.ql {a : Mem} (h : WC a) {i : Nat} (hi : i < 12) : qW a i ≤ 10 := (h.off hi).2.2.2.1.2
theorem WC.ste {a : Mem} (h : WC a) {i : Nat} (hi : i < 12) : a (18 + 4 * i) 3 = nI (stN a i) := (h.off hi).2.2.2.2.1.1
theorem WC.stl {a : Mem} (h : WC a) {i : Nat} (hi : i < 12) : stN a i ≤ 6 := (h.off hi).2.2.2.2.1.2
theorem WC.wte {a : Mem} (h : WC a) {i : Nat} (hi : i < 12) {k : Nat} (hk : k < qW a i) : a (18 + 4 * i + 2) k = nI (wtN a i k) := ((h.off hi).2.2.2.2.2 k hk).1
theorem WC.wtl {a : Mem} (h : WC a) {i : Nat} (hi : i < 12) {k : Nat} (hk : k < qW a i) : wtN a i k ≤ 9 := ((h.off hi).2.2.2.2.2 k hk).2
theorem WC.owe {a : Mem} (h : WC a) {k : Nat} (hk : k < 3) : a 12 k = nI (ow a k) := (h.own hk).1
theorem WC.owl {a : Mem} (h : WC a) {k : Nat} (hk : k < 3) : ow a k ≤ 2 := (h.own hk).2
theorem WC.be {a : Mem} (h : WC a) : a 13 3 = nI (bW a) := h.b.1
theorem WC.bl {a : Mem} (h : WC a) : bW a ≤ 120 := h.b.2
theorem WC.bpe {a : Mem} (h : WC a) {k : Nat} (hk : k < bW a) : a 14 k = nI (bpN a k) := (h.bd hk).1.1
theorem WC.bpl {a : Mem} (h : WC a) {k : Nat} (hk : k < bW a) : bpN a k ≤ 9 := (h.bd hk).1.2
theorem WC.boe {a : Mem} (h : WC a) {k : Nat} (hk : k < bW a) : a 15 k = nI (boN a k) := (h.bd hk).2.1
theorem WC.bol {a : Mem} (h : WC a) {k : Nat} (hk : k < bW a) : boN a k ≤ 11 := (h.bd hk).2.2
def clB (a : Mem) (i : Nat) : Bool := decide (¬ a 69 (sl a i) = 0)
def rtB (a : Mem) (r s : Int32) (i : Nat) : Bool := decide (a (18 + 4 * i) 2 = r) && decide (a (18 + 4 * i) 1 = s)
def hfB (a : Mem) (p : Nat) (ex z : Int32) (i : Nat) : Bool := isOfB a i ex z && hs a i p
def haB (a : Mem) (p : Nat) (s : Int32) (i : Nat) : Bool := decide (a (18 + 4 * i) 1 = s) && hs a i p
def mayB (a : Mem) (i p : Nat) : Bool := rgB a p (exN a i) && (if a (18 + 4 * i) 4 = 0 then decide (a (3 + (ow a 1 * 3 + 1)) (p * 6 + exN a i) = -1) else roB a p (exN a i))
def nos (a : Mem) (i p : Nat) (V : Int32) : Bool := !clB a i && decide (¬ a 67 p < V) && mayB a i p && !anyN (hfB a p (a (18 + 4 * i) 0) (a (18 + 4 * i) 4)) (nO a) && !anyN (haB a p (a (18 + 4 * i) 1)) (nO a)
theorem firN_any {f : Nat → Bool} {n : Nat} : firN f n < n ↔ anyN f n = true := by
  constructor
  · intro h; exact anyN_t h (firN_yes h)
  · intro h
    obtain ⟨i, hi, hf⟩ := anyN_iff.mp h
    rcases Nat.lt_or_ge (firN f n) n with g | g
    · exact g
    · have := firN_no (f := f) (n := n) i (by omega)
      rw [hf] at this; cases this
theorem fI_any {f : Nat → Bool} {n : Nat} (hn : n < 2 ^ 31) : fI f n = -1 ↔ anyN f n = false := by
  rw [fI_m1 hn, firN_any]
  cases anyN f n <;> simp
/-- one pupil leaves the queues of all offers of an exam -/
def gvA (a : Mem) (ex z p : Int32) (n : Nat) : Mem := fun c k => if 18 ≤ c ∧ (c - 18) / 4 < n ∧ isOfB a ((c - 18) / 4) ex z = true then noMore a ((c - 18) / 4) p (qW a ((c - 18) / 4)) c k else a c k
def giveA (a : Mem) (i p : Nat) (V : Int32) : Mem := gvA (up2 (up2 a 67 p (a 67 p - V)) (18 + 4 * i + 1) p V) (a (18 + 4 * i) 0) (a (18 + 4 * i) 4) (nI p) (nO a)
theorem noMore_in {a a' : Mem} {i w c k : Nat} {p : Int32} (h : ∀ c k, 18 + 4 * i ≤ c → c < 18 + 4 * i + 4 → a' c k = a c k) (h1 : 18 + 4 * i ≤ c) (h2 : c < 18 + 4 * i + 4) : noMore a' i p w c k = noMore a i p w c k := by
  have e : qAt a' i p = qAt a i p := by
    funext k
    simp only [qAt]
    rw [h _ _ (by omega) (by omega)]
  simp only [noMore, e]
  split
  · simp only [delK]
    rw [h c (k + 1) h1 h2, h c k h1 h2]
  · exact h c k h1 h2
theorem noMore_out {a : Mem} {i w c k : Nat} {p : Int32} (h : c < 18 + 4 * i ∨ 18 + 4 * i + 4 ≤ c) : noMore a i p w c k = a c k := by
  simp only [noMore]
  split
  · simp only [delK]
    rw [if_neg (by omega), if_neg (by omega)]
  · rfl
theorem noMore_01 {a : Mem} {i w c k : Nat} {p : Int32} (h : (c = 18 + 4 * i ∧ k ≠ 8) ∨ c = 18 + 4 * i + 1) : noMore a i p w c k = a c k := by
  simp only [noMore]
  split
  · simp only [delK]
    rw [if_neg (by omega), if_neg (by omega)]
  · rfl
theorem gvA_0 {a : Mem} {ex z p : Int32} : gvA a ex z p 0 = a := by
  funext c k
  simp only [gvA]
  rw [if_neg (by omega)]
theorem gvA_hi {a : Mem} {ex z p : Int32} {n c k : Nat} (h : 18 + 4 * n ≤ c ∨ c < 18) : gvA a ex z p n c k = a c k := by
  simp only [gvA]
  rw [if_neg (by omega)]
theorem gvA_01 {a : Mem} {ex z p : Int32} {n c k : Nat} (h : c < 18 ∨ 66 ≤ c ∨ ((c - 18) % 4 = 0 ∧ k ≠ 8) ∨ (c - 18) % 4 = 1) (hn : n ≤ 12) : gvA a ex z p n c k = a c k := by
  simp only [gvA]
  split
  · rename_i h2
    exact noMore_01 (by omega)
  · rfl
theorem gvA_in {a : Mem} {ex z p : Int32} {n i c k : Nat} (hi : i < n) (h1 : 18 + 4 * i ≤ c) (h2 : c < 18 + 4 * i + 4) : gvA a ex z p n c k = if isOfB a i ex z = true then noMore a i p (qW a i) c k else a c k := by
  have e : (c - 18) / 4 = i := by omega
  simp only [gvA, e]
  by_cases h : isOfB a i ex z = true
  · rw [if_pos ⟨by omega, hi, h⟩, if_pos h]
  · rw [if_neg (fun q => h q.2.2), if_neg h]
theorem gvA_is {a : Mem} {ex z p : Int32} {n i : Nat} {e2 z2 : Int32} (hn : n ≤ 12) : isOfB (gvA a ex z p n) i e2 z2 = isOfB a i e2 z2 := by
  simp only [isOfB]
  rw [gvA_01 (by omega) hn, gvA_01 (by omega) hn]
theorem gvA_t {a : Mem} {ex z p : Int32} {n : Nat} (h : isOfB a n ex z = true) : noMore (gvA a ex z p n) n p (qW a n) = gvA a ex z p (n + 1) := by
  funext c k
  by_cases hc : 18 + 4 * n ≤ c ∧ c < 18 + 4 * n + 4
  · rw [noMore_in (a := a) (fun c k h1 h2 => gvA_hi (Or.inl h1)) hc.1 hc.2, gvA_in (by omega) hc.1 hc.2, if_pos h]
  · rw [noMore_out (by omega)]
    simp only [gvA]
    by_cases h1 : 18 ≤ c ∧ (c - 18) / 4 < n ∧ isOfB a ((c - 18) / 4) ex z = true
    · rw [if_pos h1, if_pos ⟨h1.1, by omega, h1.2.2⟩]
    · rw [if_neg h1, if_neg (by intro q; exact h1 ⟨q.1, by omega, q.2.2⟩)]
theorem gvA_f {a : Mem} {ex z p : Int32} {n : Nat} (h : isOfB a n ex z = false) : gvA a ex z p n = gvA a ex z p (n + 1) := by
  funext c k
  by_cases hc : 18 + 4 * n ≤ c ∧ c < 18 + 4 * n + 4
  · rw [gvA_hi (Or.inl hc.1), gvA_in (by omega) hc.1 hc.2, if_neg (by rw [h]; decide)]
  · simp only [gvA]
    by_cases h1 : 18 ≤ c ∧ (c - 18) / 4 < n ∧ isOfB a ((c - 18) / 4) ex z = true
    · rw [if_pos h1, if_pos ⟨h1.1, by omega, h1.2.2⟩]
    · rw [if_neg h1, if_neg (by intro q; exact h1 ⟨q.1, by omega, q.2.2⟩)]
theorem firN_le' {f : Nat → Bool} {n m : Nat} (h : n ≤ m) : firN f n ≤ m := Nat.le_trans (firN_le f n) h
theorem qW_noMore {a : Mem} {i : Nat} {p : Int32} (h : isN (a (18 + 4 * i) 8) 10) : qW (noMore a i p (qW a i)) i = if firN (qAt a i p) (qW a i) < qW a i then qW a i - 1 else qW a i := by
  have hw : qW a i ≤ 10 := h.2
  by_cases hf : firN (qAt a i p) (qW a i) < qW a i
  · rw [if_pos hf]
    show tn (noMore a i p (qW a i) (18 + 4 * i) 8) = _
    simp only [noMore]
    rw [if_pos hf, delK_8, tn_nI (by omega)]
  · rw [if_neg hf]
    show tn (noMore a i p (qW a i) (18 + 4 * i) 8) = _
    simp only [noMore]
    rw [if_neg hf]
    rfl
theorem WO_noMore {a : Mem} {i : Nat} {p : Int32} (h : WO a i) : WO (noMore a i p (qW a i)) i := by
  obtain ⟨h1, h2, h3, h4, h5, h6⟩ := h
  have e : ∀ k, k ≠ 8 → noMore a i p (qW a i) (18 + 4 * i) k = a (18 + 4 * i) k := fun k hk => noMore_01 (Or.inl ⟨rfl, hk⟩)
  have hw : qW a i ≤ 10 := h4.2
  unfold WO
  rw [e 0 (by decide), e 1 (by decide), e 4 (by decide), e 3 (by decide), qW_noMore h4]
  refine ⟨h1, h2, h3, ?_, h5, ?_⟩
  · by_cases hf : firN (qAt a i p) (qW a i) < qW a i
    · have e8 : noMore a i p (qW a i) (18 + 4 * i) 8 = nI (qW a i - 1) := by
        simp only [noMore]
        rw [if_pos hf, delK_8]
      rw [e8]
      exact isN.of rfl (by omega) (by decide)
    · have e8 : noMore a i p (qW a i) (18 + 4 * i) 8 = a (18 + 4 * i) 8 := by
        simp only [noMore]
        rw [if_neg hf]
      rw [e8]
      exact h4
  · intro k hk
    by_cases hf : firN (qAt a i p) (qW a i) < qW a i
    · rw [if_pos hf] at hk
      simp only [noMore]
      rw [if_pos hf]
      simp only [delK]
      rw [if_neg (by omega)]
      split
      · exact h6 _ (by omega)
      · exact h6 _ (by omega)
    · rw [if_neg hf] at hk
      simp only [noMore]
      rw [if_neg hf]
      exact h6 k hk
theorem WO_congr {a a' : Mem} {i : Nat} (h : ∀ c k, 18 + 4 * i ≤ c → c < 18 + 4 * i + 4 → c ≠ 18 + 4 * i + 1 → c ≠ 18 + 4 * i + 3 → a' c k = a c k) (hw : WO a i) : WO a' i := by
  have e : ∀ k, a' (18 + 4 * i) k = a (18 + 4 * i) k := fun k => h _ k (by omega) (by omega) (by omega) (by omega)
  have e2 : ∀ k, a' (18 + 4 * i + 2) k = a (18 + 4 * i + 2) k := fun k => h _ k (by omega) (by omega) (by omega) (by omega)
  unfold WO qW at *
  simp only [e, e2]
  exact hw
/-- the cells that WC speaks of -/
theorem WC.congr {a a' : Mem} (hw : WC a) (h : ∀ c k, c ≠ 67 → c ≠ 68 → ¬ (c = 0 ∧ 11 ≤ k) → ¬ (18 ≤ c ∧ c < 66 ∧ ((c - 18) % 4 = 1 ∨ (c - 18) % 4 = 3)) → a' c k = a c k) : WC a' := by
  unfold WC
  obtain ⟨h1, h2, h3, h4, h5, h6, h7, h8, h9⟩ := hw
  have e0 : ∀ k, k < 11 → a' 0 k = a 0 k := fun k hk => h 0 k (by decide) (by decide) (by omega) (by omega)
  have e13 : ∀ k, a' 13 k = a 13 k := fun k => h 13 k (by decide) (by decide) (by omega) (by omega)
  have eb : bW a' = bW a := by show tn (a' 13 3) = tn (a 13 3); rw [e13]
  rw [e0 7 (by decide), e0 8 (by decide), e0 9 (by decide), e0 10 (by decide), e13 3, eb]
  refine ⟨h1, h2, h3, h4, fun i hi => WO_congr (fun c k c1 c2 c3 c4 => h c k (by omega) (by omega) (by omega) (by omega)) (h5 i hi), fun f hf => ?_, h7, fun k hk => ?_, fun s hs => ?_⟩
  · rw [h 12 f (by decide) (by decide) (by omega) (by omega)]; exact h6 f hf
  · rw [h 14 k (by decide) (by decide) (by omega) (by omega), h 15 k (by decide) (by decide) (by omega) (by omega)]; exact h8 k hk
  · rw [h 69 s (by decide) (by decide) (by omega) (by omega)]; exact h9 s hs
theorem WC.gv {a : Mem} (hw : WC a) {ex z p : Int32} {n : Nat} (hn : n ≤ 12) : WC (gvA a ex z p n) := by
  unfold WC
  obtain ⟨h1, h2, h3, h4, h5, h6, h7, h8, h9⟩ := hw
  have e0 : ∀ c k, c < 18 → gvA a ex z p n c k = a c k := fun c k hk => gvA_hi (Or.inr hk)
  have eb : bW (gvA a ex z p n) = bW a := by show tn (gvA a ex z p n 13 3) = tn (a 13 3); rw [e0 13 3 (by decide)]
  rw [e0 0 7 (by decide), e0 0 8 (by decide), e0 0 9 (by decide), e0 0 10 (by decide), e0 13 3 (by decide), eb]
  refine ⟨h1, h2, h3, h4, fun i hi => ?_, fun f hf => ?_, h7, fun k hk => ?_, fun s hs => ?_⟩
  · by_cases hin : i < n
    · by_cases ho : isOfB a i ex z = true
      · exact WO_congr (a := noMore a i p (qW a i)) (fun c k c1 c2 _ _ => by rw [gvA_in hin c1 c2, if_pos ho]) (WO_noMore (h5 i hi))
      · exact WO_congr (a := a) (fun c k c1 c2 _ _ => by rw [gvA_in hin c1 c2, if_neg ho]) (h5 i hi)
    · exact WO_congr (a := a) (fun c k c1 c2 _ _ => gvA_hi (Or.inl (by omega))) (h5 i hi)
  · rw [e0 12 f (by decide)]; exact h6 f hf
  · rw [e0 14 k (by decide), e0 15 k (by decide)]; exact h8 k hk
  · rw [gvA_01 (by omega) hn]; exact h9 s hs
theorem WC.pts {a : Mem} (hw : WC a) {p : Nat} {v : Int32} : WC (up2 a 67 p v) := hw.congr (fun c k c1 c2 c3 c4 => up2_o (Or.inl c1))
theorem WC.paid {a : Mem} (hw : WC a) {i p : Nat} {v : Int32} (hi : i < 12) : WC (up2 a (18 + 4 * i + 1) p v) := hw.congr (fun c k c1 c2 c3 c4 => up2_o (Or.inl (by omega)))
theorem WC.ref {a : Mem} (hw : WC a) {v : Int32} : WC (up2 a 0 12 v) := hw.congr (fun c k c1 c2 c3 c4 => up2_o (by omega))
theorem WC.give {a : Mem} (hw : WC a) {i p : Nat} {V : Int32} (hi : i < 12) : WC (giveA a i p V) := (hw.pts.paid hi).gv hw.o.2
/-- who is the first that can move up -/
def muK (a : Mem) (i k : Nat) : Bool := nos a i (wtN a i k) (a (18 + 4 * i + 3) k)
def muF (a : Mem) (i : Nat) : Int32 := if isFullB a i = true then -1 else if firN (muK a i) (qW a i) < qW a i then a (18 + 4 * i + 2) (firN (muK a i) (qW a i)) else -1
def muA (a : Mem) (i : Nat) : Mem := if isFullB a i = true then a else if firN (muK a i) (qW a i) < qW a i then giveA a i (wtN a i (firN (muK a i) (qW a i))) (a (18 + 4 * i + 3) (firN (muK a i) (qW a i))) else a
def maR (i : Nat) : Nat → Mem → Mem
  | 0, a => a
  | n + 1, a => if muF a i = -1 then muA a i else maR i n (muA a i)
theorem WC.mu {a : Mem} (hw : WC a) {i : Nat} (hi : i < 12) : WC (muA a i) := by
  unfold muA
  split
  · exact hw
  · split
    · exact hw.give hi
    · exact hw
def payA (a : Mem) (p : Nat) (v : Int32) : Mem := up2 (up2 a 67 p (a 67 p + v)) 0 12 (a 0 12 + v)
theorem WC.pay {a : Mem} (hw : WC a) {p : Nat} {v : Int32} : WC (payA a p v) := hw.pts.ref
def lostB (a : Mem) (p : Nat) (ns : Int32) : Bool := anyN (haB a p ns) (nO a)
def lostA (a : Mem) (i p : Nat) (ns : Int32) : Mem := if lostB a p ns = true then payA (up2 a (18 + 4 * i + 1) p (-1)) p (a (18 + 4 * i + 1) p) else payA (up2 a (18 + 4 * i + 1) p (a (18 + 4 * i + 1) p - a (18 + 4 * i + 1) p / 2)) p (a (18 + 4 * i + 1) p / 2)
theorem WC.lost {a : Mem} (hw : WC a) {i p : Nat} {ns : Int32} (hi : i < 12) : WC (lostA a i p ns) := by
  unfold lostA
  split
  · exact (hw.paid hi).pay
  · exact (hw.paid hi).pay
def lsK (a : Mem) (i : Nat) : Nat → Mem
  | 0 => a
  | p + 1 => if (hs a i p && !rgB a p (exN a i)) = true then payA (up2 (lsK a i p) (18 + 4 * i + 1) p (-1)) p (a (18 + 4 * i + 1) p) else lsK a i p
theorem WC.ls {a : Mem} (hw : WC a) {i : Nat} (hi : i < 12) : ∀ n, WC (lsK a i n) := by
  intro n
  induction n with
  | zero => exact hw
  | succ n ih =>
    simp only [lsK]
    split
    · exact (ih.paid hi).pay
    · exact ih
/-- who sits leaves all but points, seats behind, and refunds as they are -/
theorem lsK_o {a : Mem} {i c k : Nat} : ∀ n, c ≠ 67 → (c ≠ 0 ∨ k ≠ 12) → (c ≠ 18 + 4 * i + 1 ∨ n ≤ k) → lsK a i n c k = a c k := by
  intro n
  induction n with
  | zero => intro _ _ _; rfl
  | succ n ih =>
    intro h1 h2 h3
    simp only [lsK]
    split
    · simp only [payA]
      rw [up2_o (by omega), up2_o (by omega), up2_o (by omega)]
      exact ih h1 h2 (by omega)
    · exact ih h1 h2 (by omega)
theorem agB_congr {a a' : Mem} {f c : Nat} (h : ∀ r, r < 9 → a' (3 + r) c = a (3 + r) c) (hf : f < 3) : agB a' f c = agB a f c := by
  unfold agB
  rw [anyN_congr (f := agN a' f c) (g := agN a f c) (fun j hj => by simp only [agN]; rw [h _ (by omega), h _ (by omega)])]
theorem rgB_congr {a a' : Mem} {p e : Nat} (h : ∀ r, r < 9 → a' (3 + r) (p * 6 + e) = a (3 + r) (p * 6 + e)) : rgB a' p e = rgB a p e := by
  unfold rgB
  rw [agB_congr h (by decide), show a' 3 (p * 6 + e) = a 3 (p * 6 + e) from h 0 (by decide)]
def psB (a : Mem) (p i : Nat) : Int32 := if hs a i p = true then a (18 + 4 * i + 1) p else 0
def pwB (a : Mem) (p : Nat) : Bool := decide (a 67 p + a 68 p + sumN (psB a p) (nO a) = 100)
def rsB (a : Mem) (i j : Nat) : Bool := !decide (j = i) && decide (a (18 + 4 * j) 2 = a (18 + 4 * i) 2) && decide (a (18 + 4 * j) 1 = a (18 + 4 * i) 1)
set_option maxHeartbeats 4000000 in
set_option maxRecDepth 100000 in
theorem c_X3_isClosed {l : Launch} {x : Sh} {a b : Mem} {o : Out} (hfl : l.stackTraces = false) (hW : WC a) {i : Nat} (hi : i < 12) : MG l x yX3_isClosed cX3_isClosed 2 (some .boolean) 0 40 [.ref (x.2.1 0), .ref (x.2.1 (18 + 4 * i))] a b o (QI x o (FI (bI (clB a i)) a b)) := by
  refine MG.of (maxL := 2) (ret := (some .boolean)) hfl (by decide) [some (.ref (x.2.1 0)), some (.ref (x.2.1 (18 + 4 * i)))] rfl rfl (Nat.le_of_ble_eq_true rfl) ?_
  intro pP eE sS mM argsA belowB methM cC C hr
  have hs5 := hW.sll hi
  refine V_aload_n C dX3_isClosed_0 rfl ?_
  refine gt_X3_slotWasSat C fk_X3_40 dX3_isClosed_1 ?_
  refine V_aload_n C dX3_isClosed_4 rfl ?_
  refine gt_X0_slot C (by omega) fk_X3_104 dX3_isClosed_5 ?_
  refine V_topi (hW.sle hi) ?_
  refine la_wasSat C _ rfl (by omega) dX3_isClosed_8 ?_
  refine V_topi (bI_of01 (hW.sat (by omega))) ?_
  exact V_iretz C hr (by first | exact Or.inl rfl | exact Or.inr rfl | exact bI_or _) dX3_isClosed_9 ⟨rfl, rfl, rfl⟩
set_option maxHeartbeats 4000000 in
set_option maxRecDepth 100000 in
theorem c_X3_isRoomTaken {l : Launch} {x : Sh} {a b : Mem} {o : Out} (hfl : l.stackTraces = false) (hW : WC a) {r s : Int32} : MG l x yX3_isRoomTaken cX3_isRoomTaken 4 (some .boolean) 0 40 [.ref (x.2.1 0), .int r, .int s] a b o (QI x o (FI (bI (anyN (rtB a r s) (nO a))) a b)) := by
  refine MG.of (maxL := 4) (ret := (some .boolean)) hfl (by decide) [some (.ref (x.2.1 0)), some (.int r), some (.int s), none] rfl rfl (Nat.le_of_ble_eq_true rfl) ?_
  intro pP eE sS mM argsA belowB methM cC C hr
  have ho12 := hW.ol
  refine V_iconst (v := 0) C dX3_isRoomTaken_0 (by decide) ?_
  refine V_istore_n3 C dX3_isRoomTaken_1 (by decide) ?_
  have L2 : ∀ (fuel : Nat) (k : Nat), k ≤ nO a → anyN (rtB a r s) k = false → nO a - k < fuel → VV pP l eE ({ frames := 0, cells := 0, slots := 0, locals := 40 } : Room) sS mM argsA belowB methM cC (MQ belowB (QI x o (FI (bI (anyN (rtB a r s) (nO a))) a b) sS.heap.size) argsA sS 0 0 (AW x sS.heap.size)) x 4 a b o 0 0 2 [some (.ref (x.2.1 0)), some (.int r), some (.int s), some (.int (nI k))] [] := by
    intro fuel
    induction fuel with
    | zero => intro k hk hno hm; exact absurd hm (Nat.not_lt_zero _)
    | succ fuel ih2 =>
      intro k hk hno hm
      refine V_iload_n C dX3_isRoomTaken_2 rfl ?_
      refine V_aload_n C dX3_isRoomTaken_3 rfl ?_
      refine gt_X3_offerCount C fk_X3_91 dX3_isRoomTaken_4 ?_
      refine V_topi hW.oe ?_
      refine V_lt C 44 dX3_isRoomTaken_7 (by decide) (by omega) (by omega) (fun h7 => ?_) (fun h7 => ?_)
      · refine V_iconst (v := 0) C dX3_isRoomTaken_44 (by decide) ?_
        exact V_iretz C hr (by first | exact Or.inl rfl | exact Or.inr rfl | exact bI_or _) dX3_isRoomTaken_45 ⟨by rw [show nO a = k by omega, hno]; rfl, rfl, rfl⟩
      · refine V_aload_n C dX3_isRoomTaken_10 rfl ?_
        refine gt_X3_offers C fk_X3_25 dX3_isRoomTaken_11 ?_
        refine V_iload_n C dX3_isRoomTaken_14 rfl ?_
        refine la_offers C _ rfl (by omega) dX3_isRoomTaken_15 ?_
        refine gt_X0_room C (by omega) fk_X3_207 dX3_isRoomTaken_16 ?_
        refine V_iload_n C dX3_isRoomTaken_19 rfl ?_
        refine V_icmp_ne C 38 dX3_isRoomTaken_20 (by decide) (fun h20 => ?_) (fun h20 => ?_)
        · refine V_iinc_3 C _ dX3_isRoomTaken_38 (nI_1 _) (by decide) ?_
          refine V_goto C 2 dX3_isRoomTaken_41 (by decide) ?_
          exact ih2 (k + 1) (by omega) (anyN_s hno (by first | simp [rtB, h33] | simp [rtB, h20])) (by omega)
        · refine V_aload_n C dX3_isRoomTaken_23 rfl ?_
          refine gt_X3_offers C fk_X3_25 dX3_isRoomTaken_24 ?_
          refine V_iload_n C dX3_isRoomTaken_27 rfl ?_
          refine la_offers C _ rfl (by omega) dX3_isRoomTaken_28 ?_
          refine gt_X0_slot C (by omega) fk_X3_104 dX3_isRoomTaken_29 ?_
          refine V_iload_n C dX3_isRoomTaken_32 rfl ?_
          refine V_icmp_ne C 38 dX3_isRoomTaken_33 (by decide) (fun h33 => ?_) (fun h33 => ?_)
          · refine V_iinc_3 C _ dX3_isRoomTaken_38 (nI_1 _) (by decide) ?_
            refine V_goto C 2 dX3_isRoomTaken_41 (by decide) ?_
            exact ih2 (k + 1) (by omega) (anyN_s hno (by first | simp [rtB, h33] | simp [rtB, h20])) (by omega)
          · refine V_iconst (v := 1) C dX3_isRoomTaken_36 (by decide) ?_
            exact V_iretz C hr (by first | exact Or.inl rfl | exact Or.inr rfl | exact bI_or _) dX3_isRoomTaken_37 ⟨by rw [anyN_t h7 (show rtB a r s k = true by simp [rtB, show a (18 + 4 * k) 2 = r by simpa using h20, show a (18 + 4 * k) 1 = s by simpa using h33])]; rfl, rfl, rfl⟩
  exact L2 _ 0 (Nat.zero_le _) rfl (Nat.lt_succ_self _)
set_option maxHeartbeats 4000000 in
set_option maxRecDepth 100000 in
theorem c_X3_offerHeldFor {l : Launch} {x : Sh} {a b : Mem} {o : Out} (hfl : l.stackTraces = false) (hW : WC a) {p : Nat} (hp : p < 10) {ex z : Int32} : MG l x yX3_offerHeldFor cX3_offerHeldFor 5 (some .int) 1 80 [.ref (x.2.1 0), .int (nI p), .int ex, .int z] a b o (QI x o (FI (fI (hfB a p ex z) (nO a)) a b)) := by
  refine MG.of (maxL := 5) (ret := (some .int)) hfl (by decide) [some (.ref (x.2.1 0)), some (.int (nI p)), some (.int ex), some (.int z), none] rfl rfl (Nat.le_of_ble_eq_true rfl) ?_
  intro pP eE sS mM argsA belowB methM cC C hr
  have ho12 := hW.ol
  refine V_iconst (v := 0) C dX3_offerHeldFor_0 (by decide) ?_
  refine V_istore_4 C dX3_offerHeldFor_1 (by decide) ?_
  have L3 : ∀ (fuel : Nat) (k : Nat), k ≤ nO a → (∀ j, j < k → hfB a p ex z j = false) → nO a - k < fuel → VV pP l eE ({ frames := 1, cells := 0, slots := 0, locals := 80 } : Room) sS mM argsA belowB methM cC (MQ belowB (QI x o (FI (fI (hfB a p ex z) (nO a)) a b) sS.heap.size) argsA sS 0 0 (AW x sS.heap.size)) x 5 a b o 0 0 3 [some (.ref (x.2.1 0)), some (.int (nI p)), some (.int ex), some (.int z), some (.int (nI k))] [] := by
    intro fuel
    induction fuel with
    | zero => intro k hk hno hm; exact absurd hm (Nat.not_lt_zero _)
    | succ fuel ih3 =>
      intro k hk hno hm
      refine V_iload C dX3_offerHeldFor_3 rfl ?_
      refine V_aload_n C dX3_offerHeldFor_5 rfl ?_
      refine gt_X3_offerCount C fk_X3_91 dX3_offerHeldFor_6 ?_
      refine V_topi hW.oe ?_
      refine V_lt C 50 dX3_offerHeldFor_9 (by decide) (by omega) (by omega) (fun h9 => ?_) (fun h9 => ?_)
      · refine V_iconst (v := -1) C dX3_offerHeldFor_50 (by decide) ?_
        exact V_ireti C hr dX3_offerHeldFor_51 ⟨by rw [fI, firN_eq (Nat.le_refl _) (fun j hj => hno j (by omega)) (fun h => absurd h (Nat.lt_irrefl _)), if_neg (Nat.lt_irrefl _)], rfl, rfl⟩
      · refine V_aload_n C dX3_offerHeldFor_12 rfl ?_
        refine gt_X3_offers C fk_X3_25 dX3_offerHeldFor_13 ?_
        refine V_iload C dX3_offerHeldFor_16 rfl ?_
        refine la_offers C _ rfl (by omega) dX3_offerHeldFor_18 ?_
        refine V_iload_n C dX3_offerHeldFor_19 rfl ?_
        refine V_iload_n C dX3_offerHeldFor_20 rfl ?_
        refine V_callf (R_VN C (c_X0_isOf hfl (by omega)) mi_X0_isOf mk_X3_305 rfl (by omega) ((GE_C (by omega)).trans (GC_O (by omega))) (rfl : vwCl[2]? = some (RX0, TX0, 9)) (by decide) rfl (Nat.le_of_ble_eq_true rfl) (by decide) dX3_offerHeldFor_21) ?_
        refine V_ifb_eq C 44 dX3_offerHeldFor_24 (by decide) (fun h24 => ?_) (fun h24 => ?_)
        · refine V_iinc_4 C _ dX3_offerHeldFor_44 (nI_1 _) (by decide) ?_
          refine V_goto C 3 dX3_offerHeldFor_47 (by decide) ?_
          exact ih3 (k + 1) (by omega) (lt_s hno (by first | simp [hfB, h38] | simp [hfB, h24])) (by omega)
        · refine V_aload_n C dX3_offerHeldFor_27 rfl ?_
          refine gt_X3_offers C fk_X3_25 dX3_offerHeldFor_28 ?_
          refine V_iload C dX3_offerHeldFor_31 rfl ?_
          refine la_offers C _ rfl (by omega) dX3_offerHeldFor_33 ?_
          refine V_iload_n C dX3_offerHeldFor_34 rfl ?_
          refine V_callf (R_VN C (c_X0_hasSeated hfl (by omega) (by omega)) mi_X0_hasSeated mk_X3_178 rfl (by omega) ((GE_C (by omega)).trans (GC_O (by omega))) (rfl : vwCl[2]? = some (RX0, TX0, 9)) (by decide) rfl (Nat.le_of_ble_eq_true rfl) (by decide) dX3_offerHeldFor_35) ?_
          refine V_ifb_eq C 44 dX3_offerHeldFor_38 (by decide) (fun h38 => ?_) (fun h38 => ?_)
          · refine V_iinc_4 C _ dX3_offerHeldFor_44 (nI_1 _) (by decide) ?_
            refine V_goto C 3 dX3_offerHeldFor_47 (by decide) ?_
            exact ih3 (k + 1) (by omega) (lt_s hno (by first | simp [hfB, h38] | simp [hfB, h24])) (by omega)
          · refine V_iload C dX3_offerHeldFor_41 rfl ?_
            exact V_ireti C hr dX3_offerHeldFor_43 ⟨by rw [fI, firN_eq (by omega) hno (fun _ => by simp [hfB, h24, h38]), if_pos h9], rfl, rfl⟩
  exact L3 _ 0 (Nat.zero_le _) (fun j hj => absurd hj (Nat.not_lt_zero _)) (Nat.lt_succ_self _)
set_option maxHeartbeats 4000000 in
set_option maxRecDepth 100000 in
theorem c_X3_offerHeldAt {l : Launch} {x : Sh} {a b : Mem} {o : Out} (hfl : l.stackTraces = false) (hW : WC a) {p : Nat} (hp : p < 10) {s : Int32} : MG l x yX3_offerHeldAt cX3_offerHeldAt 4 (some .int) 1 80 [.ref (x.2.1 0), .int (nI p), .int s] a b o (QI x o (FI (fI (haB a p s) (nO a)) a b)) := by
  refine MG.of (maxL := 4) (ret := (some .int)) hfl (by decide) [some (.ref (x.2.1 0)), some (.int (nI p)), some (.int s), none] rfl rfl (Nat.le_of_ble_eq_true rfl) ?_
  intro pP eE sS mM argsA belowB methM cC C hr
  have ho12 := hW.ol
  refine V_iconst (v := 0) C dX3_offerHeldAt_0 (by decide) ?_
  refine V_istore_n3 C dX3_offerHeldAt_1 (by decide) ?_
  have L2 : ∀ (fuel : Nat) (k : Nat), k ≤ nO a → (∀ j, j < k → haB a p s j = false) → nO a - k < fuel → VV pP l eE ({ frames := 1, cells := 0, slots := 0, locals := 80 } : Room) sS mM argsA belowB methM cC (MQ belowB (QI x o (FI (fI (haB a p s) (nO a)) a b) sS.heap.size) argsA sS 0 0 (AW x sS.heap.size)) x 4 a b o 0 0 2 [some (.ref (x.2.1 0)), some (.int (nI p)), some (.int s), some (.int (nI k))] [] := by
    intro fuel
    induction fuel with
    | zero => intro k hk hno hm; exact absurd hm (Nat.not_lt_zero _)
    | succ fuel ih2 =>
      intro k hk hno hm
      refine V_iload_n C dX3_offerHeldAt_2 rfl ?_
      refine V_aload_n C dX3_offerHeldAt_3 rfl ?_
      refine gt_X3_offerCount C fk_X3_91 dX3_offerHeldAt_4 ?_
      refine V_topi hW.oe ?_
      refine V_lt C 44 dX3_offerHeldAt_7 (by decide) (by omega) (by omega) (fun h7 => ?_) (fun h7 => ?_)
      · refine V_iconst (v := -1) C dX3_offerHeldAt_44 (by decide) ?_
        exact V_ireti C hr dX3_offerHeldAt_45 ⟨by rw [fI, firN_eq (Nat.le_refl _) (fun j hj => hno j (by omega)) (fun h => absurd h (Nat.lt_irrefl _)), if_neg (Nat.lt_irrefl _)], rfl, rfl⟩
      · refine V_aload_n C dX3_offerHeldAt_10 rfl ?_
        refine gt_X3_offers C fk_X3_25 dX3_offerHeldAt_11 ?_
        refine V_iload_n C dX3_offerHeldAt_14 rfl ?_
        refine la_offers C _ rfl (by omega) dX3_offerHeldAt_15 ?_
        refine gt_X0_slot C (by omega) fk_X3_104 dX3_offerHeldAt_16 ?_
        refine V_iload_n C dX3_offerHeldAt_19 rfl ?_
        refine V_icmp_ne C 38 dX3_offerHeldAt_20 (by decide) (fun h20 => ?_) (fun h20 => ?_)
        · refine V_iinc_3 C _ dX3_offerHeldAt_38 (nI_1 _) (by decide) ?_
          refine V_goto C 2 dX3_offerHeldAt_41 (by decide) ?_
          exact ih2 (k + 1) (by omega) (lt_s hno (by first | simp [haB, h33] | simp [haB, h20])) (by omega)
        · refine V_aload_n C dX3_offerHeldAt_23 rfl ?_
          refine gt_X3_offers C fk_X3_25 dX3_offerHeldAt_24 ?_
          refine V_iload_n C dX3_offerHeldAt_27 rfl ?_
          refine la_offers C _ rfl (by omega) dX3_offerHeldAt_28 ?_
          refine V_iload_n C dX3_offerHeldAt_29 rfl ?_
          refine V_callf (R_VN C (c_X0_hasSeated hfl (by omega) (by omega)) mi_X0_hasSeated mk_X3_178 rfl (by omega) ((GE_C (by omega)).trans (GC_O (by omega))) (rfl : vwCl[2]? = some (RX0, TX0, 9)) (by decide) rfl (Nat.le_of_ble_eq_true rfl) (by decide) dX3_offerHeldAt_30) ?_
          refine V_ifb_eq C 38 dX3_offerHeldAt_33 (by decide) (fun h33 => ?_) (fun h33 => ?_)
          · refine V_iinc_3 C _ dX3_offerHeldAt_38 (nI_1 _) (by decide) ?_
            refine V_goto C 2 dX3_offerHeldAt_41 (by decide) ?_
            exact ih2 (k + 1) (by omega) (lt_s hno (by first | simp [haB, h33] | simp [haB, h20])) (by omega)
          · refine V_iload_n C dX3_offerHeldAt_36 rfl ?_
            exact V_ireti C hr dX3_offerHeldAt_37 ⟨by rw [fI, firN_eq (by omega) hno (fun _ => by simp [haB, show a (18 + 4 * k) 1 = s by simpa using h20, h33]), if_pos h7], rfl, rfl⟩
  exact L2 _ 0 (Nat.zero_le _) (fun j hj => absurd hj (Nat.not_lt_zero _)) (Nat.lt_succ_self _)
set_option maxHeartbeats 4000000 in
set_option maxRecDepth 100000 in
theorem c_X3_mayHaveSeat {l : Launch} {x : Sh} {a b : Mem} {o : Out} (hfl : l.stackTraces = false) (hW : WC a) {p : Nat} (hp : p < 10) {i : Nat} (hi : i < 12) : MG l x yX3_mayHaveSeat cX3_mayHaveSeat 3 (some .boolean) 4 200 [.ref (x.2.1 0), .int (nI p), .ref (x.2.1 (18 + 4 * i))] a b o (QI x o (FI (bI (mayB a i p)) a b)) := by
  refine MG.of (maxL := 3) (ret := (some .boolean)) hfl (by decide) [some (.ref (x.2.1 0)), some (.int (nI p)), some (.ref (x.2.1 (18 + 4 * i)))] rfl rfl (Nat.le_of_ble_eq_true rfl) ?_
  intro pP eE sS mM argsA belowB methM cC C hr
  have he5 := hW.exl hi
  have ho0 := hW.owl (k := 0) (by decide)
  have ho1 := hW.owl (k := 1) (by decide)
  refine V_aload_n C dX3_mayHaveSeat_0 rfl ?_
  refine gt_X3_records C fk_X3_10 dX3_mayHaveSeat_1 ?_
  refine V_iload_n C dX3_mayHaveSeat_4 rfl ?_
  refine V_aload_n C dX3_mayHaveSeat_5 rfl ?_
  refine gt_X0_exam C (by omega) fk_X3_314 dX3_mayHaveSeat_6 ?_
  refine V_topi (hW.exe hi) ?_
  refine V_callf (R_VN C (c_X1_isRightGiven hfl (hW.owe (by decide)) (by omega) hp (by omega)) mi_X1_isRightGiven mk_X3_258 rfl (by omega) rfl (rfl : vwCl[3]? = some (RX1, TX1, 2)) (by decide) rfl (Nat.le_of_ble_eq_true rfl) (by decide) dX3_mayHaveSeat_9) ?_
  refine V_ifb_ne C 17 dX3_mayHaveSeat_12 (by decide) (fun h12 => ?_) (fun h12 => ?_)
  · refine V_aload_n C dX3_mayHaveSeat_17 rfl ?_
    refine gt_X0_isResit C (by omega) fk_X3_317 dX3_mayHaveSeat_18 ?_
    refine V_if_eq C 37 dX3_mayHaveSeat_21 (by decide) (fun h21 => ?_) (fun h21 => ?_)
    · refine V_aload_n C dX3_mayHaveSeat_37 rfl ?_
      refine gt_X3_records C fk_X3_10 dX3_mayHaveSeat_38 ?_
      refine V_iconst (v := nI 1) C dX3_mayHaveSeat_41 (by decide) ?_
      refine V_iload_n C dX3_mayHaveSeat_42 rfl ?_
      refine V_aload_n C dX3_mayHaveSeat_43 rfl ?_
      refine gt_X0_exam C (by omega) fk_X3_314 dX3_mayHaveSeat_44 ?_
      refine V_topi (hW.exe hi) ?_
      refine V_callf (R_VN C (c_X1_valueByOwner hfl (by decide) (hW.owe (by decide)) (by omega) hp (by omega)) mi_X1_valueByOwner mk_X3_269 rfl (by omega) rfl (rfl : vwCl[3]? = some (RX1, TX1, 2)) (by decide) rfl (Nat.le_of_ble_eq_true rfl) (by decide) dX3_mayHaveSeat_47) ?_
      refine V_iconst (v := -1) C dX3_mayHaveSeat_50 (by decide) ?_
      refine V_icmp_ne C 58 dX3_mayHaveSeat_51 (by decide) (fun h51 => ?_) (fun h51 => ?_)
      · refine V_iconst (v := 0) C dX3_mayHaveSeat_58 (by decide) ?_
        exact V_iretz C hr (by first | exact Or.inl rfl | exact Or.inr rfl | exact bI_or _) dX3_mayHaveSeat_59 ⟨by first | (simp [mayB, h12, bI]; done) | (rw [mayB, h12, if_pos h21]; simp [bI, h51]; done) | (rw [mayB, h12, if_neg h21]; rfl), rfl, rfl⟩
      · refine V_iconst (v := 1) C dX3_mayHaveSeat_54 (by decide) ?_
        refine V_goto C 59 dX3_mayHaveSeat_55 (by decide) ?_
        exact V_iretz C hr (by first | exact Or.inl rfl | exact Or.inr rfl | exact bI_or _) dX3_mayHaveSeat_59 ⟨by first | (simp [mayB, h12, bI]; done) | (rw [mayB, h12, if_pos h21]; simp [bI, h51]; done) | (rw [mayB, h12, if_neg h21]; rfl), rfl, rfl⟩
    · refine V_aload_n C dX3_mayHaveSeat_24 rfl ?_
      refine gt_X3_records C fk_X3_10 dX3_mayHaveSeat_25 ?_
      refine V_iload_n C dX3_mayHaveSeat_28 rfl ?_
      refine V_aload_n C dX3_mayHaveSeat_29 rfl ?_
      refine gt_X0_exam C (by omega) fk_X3_314 dX3_mayHaveSeat_30 ?_
      refine V_topi (hW.exe hi) ?_
      refine V_callf (R_VN C (c_X1_isResitOpen hfl (hW.owe (by decide)) (by omega) hp (by omega)) mi_X1_isResitOpen mk_X3_261 rfl (by omega) rfl (rfl : vwCl[3]? = some (RX1, TX1, 2)) (by decide) rfl (Nat.le_of_ble_eq_true rfl) (by decide) dX3_mayHaveSeat_33) ?_
      exact V_iretz C hr (by first | exact Or.inl rfl | exact Or.inr rfl | exact bI_or _) dX3_mayHaveSeat_36 ⟨by first | (simp [mayB, h12, bI]; done) | (rw [mayB, h12, if_pos h21]; simp [bI, h51]; done) | (rw [mayB, h12, if_neg h21]; rfl), rfl, rfl⟩
  · refine V_iconst (v := 0) C dX3_mayHaveSeat_15 (by decide) ?_
    exact V_iretz C hr (by first | exact Or.inl rfl | exact Or.inr rfl | exact bI_or _) dX3_mayHaveSeat_16 ⟨by first | (simp [mayB, h12, bI]; done) | (rw [mayB, h12, if_pos h21]; simp [bI, h51]; done) | (rw [mayB, h12, if_neg h21]; rfl), rfl, rfl⟩
set_option maxHeartbeats 4000000 in
set_option maxRecDepth 100000 in
theorem c_X3_needsOnlySeat {l : Launch} {x : Sh} {a b : Mem} {o : Out} (hfl : l.stackTraces = false) (hW : WC a) {p : Nat} (hp : p < 10) {i : Nat} (hi : i < 12) {V : Int32} : MG l x yX3_needsOnlySeat cX3_needsOnlySeat 4 (some .boolean) 5 240 [.ref (x.2.1 0), .int (nI p), .ref (x.2.1 (18 + 4 * i)), .int V] a b o (QI x o (FI (bI (nos a i p V)) a b)) := by
  refine MG.of (maxL := 4) (ret := (some .boolean)) hfl (by decide) [some (.ref (x.2.1 0)), some (.int (nI p)), some (.ref (x.2.1 (18 + 4 * i))), some (.int V)] rfl rfl (Nat.le_of_ble_eq_true rfl) ?_
  intro pP eE sS mM argsA belowB methM cC C hr
  have ho12 := hW.ol
  refine V_aload_n C dX3_needsOnlySeat_0 rfl ?_
  refine V_aload_n C dX3_needsOnlySeat_1 rfl ?_
  refine V_callf (R_V C (c_X3_isClosed hfl hW hi) mi_X3_isClosed mk_X3_120 rfl (by omega) rfl (rfl : vwCl[5]? = some (RX3, TX3, 13)) (by decide) rfl (Nat.le_of_ble_eq_true rfl) (by decide) dX3_needsOnlySeat_2) ?_
  refine V_ifb_ne C 61 dX3_needsOnlySeat_5 (by decide) (fun h5 => ?_) (fun h5 => ?_)
  · refine V_iconst (v := 0) C dX3_needsOnlySeat_61 (by decide) ?_
    exact V_iretz C hr (by first | exact Or.inl rfl | exact Or.inr rfl | exact bI_or _) dX3_needsOnlySeat_62 ⟨by first | simp [nos, bI, h5, h15, h24, q41, q54] | simp [nos, bI, h5, h15, h24, q41] | simp [nos, bI, h5, h15, h24] | simp [nos, bI, h5, h15] | simp [nos, bI, h5], rfl, rfl⟩
  · refine V_aload_n C dX3_needsOnlySeat_8 rfl ?_
    refine gt_X3_pointsLeft C fk_X3_34 dX3_needsOnlySeat_9 ?_
    refine V_iload_n C dX3_needsOnlySeat_12 rfl ?_
    refine la_left C _ rfl (by omega) dX3_needsOnlySeat_13 ?_
    refine V_iload_n C dX3_needsOnlySeat_14 rfl ?_
    refine V_icmp_lt C 61 dX3_needsOnlySeat_15 (by decide) (fun h15 => ?_) (fun h15 => ?_)
    · refine V_iconst (v := 0) C dX3_needsOnlySeat_61 (by decide) ?_
      exact V_iretz C hr (by first | exact Or.inl rfl | exact Or.inr rfl | exact bI_or _) dX3_needsOnlySeat_62 ⟨by first | simp [nos, bI, h5, h15, h24, q41, q54] | simp [nos, bI, h5, h15, h24, q41] | simp [nos, bI, h5, h15, h24] | simp [nos, bI, h5, h15] | simp [nos, bI, h5], rfl, rfl⟩
    · refine V_aload_n C dX3_needsOnlySeat_18 rfl ?_
      refine V_iload_n C dX3_needsOnlySeat_19 rfl ?_
      refine V_aload_n C dX3_needsOnlySeat_20 rfl ?_
      refine V_callf (R_V C (c_X3_mayHaveSeat hfl hW hp hi) mi_X3_mayHaveSeat mk_X3_321 rfl (by omega) rfl (rfl : vwCl[5]? = some (RX3, TX3, 13)) (by decide) rfl (Nat.le_of_ble_eq_true rfl) (by decide) dX3_needsOnlySeat_21) ?_
      refine V_ifb_eq C 61 dX3_needsOnlySeat_24 (by decide) (fun h24 => ?_) (fun h24 => ?_)
      · refine V_iconst (v := 0) C dX3_needsOnlySeat_61 (by decide) ?_
        exact V_iretz C hr (by first | exact Or.inl rfl | exact Or.inr rfl | exact bI_or _) dX3_needsOnlySeat_62 ⟨by first | simp [nos, bI, h5, h15, h24, q41, q54] | simp [nos, bI, h5, h15, h24, q41] | simp [nos, bI, h5, h15, h24] | simp [nos, bI, h5, h15] | simp [nos, bI, h5], rfl, rfl⟩
      · refine V_aload_n C dX3_needsOnlySeat_27 rfl ?_
        refine V_iload_n C dX3_needsOnlySeat_28 rfl ?_
        refine V_aload_n C dX3_needsOnlySeat_29 rfl ?_
        refine gt_X0_exam C (by omega) fk_X3_314 dX3_needsOnlySeat_30 ?_
        refine V_aload_n C dX3_needsOnlySeat_33 rfl ?_
        refine gt_X0_isResit C (by omega) fk_X3_317 dX3_needsOnlySeat_34 ?_
        refine V_callf (R_V C (c_X3_offerHeldFor hfl hW hp) mi_X3_offerHeldFor mk_X3_160 rfl (by omega) rfl (rfl : vwCl[5]? = some (RX3, TX3, 13)) (by decide) rfl (Nat.le_of_ble_eq_true rfl) (by decide) dX3_needsOnlySeat_37) ?_
        refine V_iconst (v := -1) C dX3_needsOnlySeat_40 (by decide) ?_
        refine V_icmp_ne C 61 dX3_needsOnlySeat_41 (by decide) (fun h41 => ?_) (fun h41 => ?_)
        · have q41 : anyN (hfB a p (a (18 + 4 * i) 0) (a (18 + 4 * i) 4)) (nO a) = true := by
            cases hx : anyN (hfB a p (a (18 + 4 * i) 0) (a (18 + 4 * i) 4)) (nO a) with
            | true => rfl
            | false => exact absurd ((fI_any (by omega)).mpr hx) h41
          refine V_iconst (v := 0) C dX3_needsOnlySeat_61 (by decide) ?_
          exact V_iretz C hr (by first | exact Or.inl rfl | exact Or.inr rfl | exact bI_or _) dX3_needsOnlySeat_62 ⟨by first | simp [nos, bI, h5, h15, h24, q41, q54] | simp [nos, bI, h5, h15, h24, q41] | simp [nos, bI, h5, h15, h24] | simp [nos, bI, h5, h15] | simp [nos, bI, h5], rfl, rfl⟩
        · have q41 := (fI_any (n := nO a) (by omega)).mp (show fI _ _ = -1 by simpa using h41)
          refine V_aload_n C dX3_needsOnlySeat_44 rfl ?_
          refine V_iload_n C dX3_needsOnlySeat_45 rfl ?_
          refine V_aload_n C dX3_needsOnlySeat_46 rfl ?_
          refine gt_X0_slot C (by omega) fk_X3_104 dX3_needsOnlySeat_47 ?_
          refine V_callf (R_V C (c_X3_offerHeldAt hfl hW hp) mi_X3_offerHeldAt mk_X3_309 rfl (by omega) rfl (rfl : vwCl[5]? = some (RX3, TX3, 13)) (by decide) rfl (Nat.le_of_ble_eq_true rfl) (by decide) dX3_needsOnlySeat_50) ?_
          refine V_iconst (v := -1) C dX3_needsOnlySeat_53 (by decide) ?_
          refine V_icmp_ne C 61 dX3_needsOnlySeat_54 (by decide) (fun h54 => ?_) (fun h54 => ?_)
          · have q54 : anyN (haB a p (a (18 + 4 * i) 1)) (nO a) = true := by
              cases hx : anyN (haB a p (a (18 + 4 * i) 1)) (nO a) with
              | true => rfl
              | false => exact absurd ((fI_any (by omega)).mpr hx) h54
            refine V_iconst (v := 0) C dX3_needsOnlySeat_61 (by decide) ?_
            exact V_iretz C hr (by first | exact Or.inl rfl | exact Or.inr rfl | exact bI_or _) dX3_needsOnlySeat_62 ⟨by first | simp [nos, bI, h5, h15, h24, q41, q54] | simp [nos, bI, h5, h15, h24, q41] | simp [nos, bI, h5, h15, h24] | simp [nos, bI, h5, h15] | simp [nos, bI, h5], rfl, rfl⟩
          · have q54 := (fI_any (n := nO a) (by omega)).mp (show fI _ _ = -1 by simpa using h54)
            refine V_iconst (v := 1) C dX3_needsOnlySeat_57 (by decide) ?_
            refine V_goto C 62 dX3_needsOnlySeat_58 (by decide) ?_
            exact V_iretz C hr (by first | exact Or.inl rfl | exact Or.inr rfl | exact bI_or _) dX3_needsOnlySeat_62 ⟨by first | simp [nos, bI, h5, h15, h24, q41, q54] | simp [nos, bI, h5, h15, h24, q41] | simp [nos, bI, h5, h15, h24] | simp [nos, bI, h5, h15] | simp [nos, bI, h5], rfl, rfl⟩
set_option maxHeartbeats 4000000 in
set_option maxRecDepth 100000 in
theorem c_X3_giveSeat {l : Launch} {x : Sh} {a b : Mem} {o : Out} (hfl : l.stackTraces = false) (hW : WC a) {p : Nat} (hp : p < 10) {i : Nat} (hi : i < 12) {V : Int32} : MG l x yX3_giveSeat cX3_giveSeat 5 none 2 120 [.ref (x.2.1 0), .int (nI p), .ref (x.2.1 (18 + 4 * i)), .int V] a b o (QV x o (FV (giveA a i p V) b)) := by
  refine MG.of (maxL := 5) (ret := none) hfl (by decide) [some (.ref (x.2.1 0)), some (.int (nI p)), some (.ref (x.2.1 (18 + 4 * i))), some (.int V), none] rfl rfl (Nat.le_of_ble_eq_true rfl) ?_
  intro pP eE sS mM argsA belowB methM cC C hr
  have ho12 := hW.ol
  have hW1 : WC (up2 (up2 a 67 p (a 67 p - V)) (18 + 4 * i + 1) p V) := hW.pts.paid hi
  have ep : a = a := rfl
  refine V_aload_n C dX3_giveSeat_0 rfl ?_
  refine gt_X3_pointsLeft C fk_X3_34 dX3_giveSeat_1 ?_
  refine V_iload_n C dX3_giveSeat_4 rfl ?_
  refine V_dup2 C dX3_giveSeat_5 rfl rfl ?_
  refine la_left C _ rfl (by omega) dX3_giveSeat_6 ?_
  refine V_iload_n C dX3_giveSeat_7 rfl ?_
  refine V_isub C dX3_giveSeat_8 ?_
  refine sa_left C _ rfl (by omega) dX3_giveSeat_9 ?_
  refine V_aload_n C dX3_giveSeat_10 rfl ?_
  refine gt_X0_paidBy C (by omega) fk_X3_184 dX3_giveSeat_11 ?_
  refine V_iload_n C dX3_giveSeat_14 rfl ?_
  refine V_iload_n C dX3_giveSeat_15 rfl ?_
  refine sa_paidBy C (by omega) _ rfl (by omega) dX3_giveSeat_16 ?_
  generalize ha1 : up2 (up2 a 67 p (a 67 p - V)) (18 + 4 * i + 1) p V = a1 at hW1 ⊢
  have ex0 : a1 (18 + 4 * i) 0 = a (18 + 4 * i) 0 := by rw [← ha1, up2_o (by omega), up2_o (by omega)]
  have ez0 : a1 (18 + 4 * i) 4 = a (18 + 4 * i) 4 := by rw [← ha1, up2_o (by omega), up2_o (by omega)]
  have eo : a1 0 10 = a 0 10 := by rw [← ha1, up2_o (by omega), up2_o (by omega)]
  have eg : giveA a i p V = gvA a1 (a (18 + 4 * i) 0) (a (18 + 4 * i) 4) (nI p) (nO a) := by rw [← ha1]; rfl
  refine V_iconst (v := 0) C dX3_giveSeat_17 (by decide) ?_
  refine V_istore_4 C dX3_giveSeat_18 (by decide) ?_
  refine V_eqa (gvA_0 (ex := a (18 + 4 * i) 0) (z := a (18 + 4 * i) 4) (p := nI p)).symm rfl ?_
  have L20 : ∀ (fuel : Nat) (k : Nat), k ≤ nO a → nO a - k < fuel → VV pP l eE ({ frames := 2, cells := 0, slots := 0, locals := 120 } : Room) sS mM argsA belowB methM cC (MQ belowB (QV x o (FV (giveA a i p V) b) sS.heap.size) argsA sS 0 0 (AW x sS.heap.size)) x 5 (gvA a1 (a (18 + 4 * i) 0) (a (18 + 4 * i) 4) (nI p) k) b o 0 0 20 [some (.ref (x.2.1 0)), some (.int (nI p)), some (.ref (x.2.1 (18 + 4 * i))), some (.int V), some (.int (nI k))] [] := by
    intro fuel
    induction fuel with
    | zero => intro k hk hm; exact absurd hm (Nat.not_lt_zero _)
    | succ fuel ih20 =>
      intro k hk hm
      refine V_iload C dX3_giveSeat_20 rfl ?_
      refine V_aload_n C dX3_giveSeat_22 rfl ?_
      refine gt_X3_offerCount C fk_X3_91 dX3_giveSeat_23 ?_
      refine V_topi ((gvA_01 (by omega) (by omega)).trans (eo.trans hW.oe)) ?_
      refine V_lt C 67 dX3_giveSeat_26 (by decide) (by omega) (by omega) (fun h26 => ?_) (fun h26 => ?_)
      · exact V_vret C hr dX3_giveSeat_67 ⟨by rw [eg, show nO a = k by omega], rfl⟩
      · refine V_aload_n C dX3_giveSeat_29 rfl ?_
        refine gt_X3_offers C fk_X3_25 dX3_giveSeat_30 ?_
        refine V_iload C dX3_giveSeat_33 rfl ?_
        refine la_offers C _ rfl (by omega) dX3_giveSeat_35 ?_
        refine V_aload_n C dX3_giveSeat_36 rfl ?_
        refine gt_X0_exam C (by omega) fk_X3_314 dX3_giveSeat_37 ?_
        refine V_topi ((gvA_01 (by omega) (by omega)).trans ex0) ?_
        refine V_aload_n C dX3_giveSeat_40 rfl ?_
        refine gt_X0_isResit C (by omega) fk_X3_317 dX3_giveSeat_41 ?_
        refine V_topi ((gvA_01 (by omega) (by omega)).trans ez0) ?_
        refine V_callf (R_VN C (c_X0_isOf hfl (by omega)) mi_X0_isOf mk_X3_305 rfl (by omega) ((GE_C (by omega)).trans (GC_O (by omega))) (rfl : vwCl[2]? = some (RX0, TX0, 9)) (by decide) rfl (Nat.le_of_ble_eq_true rfl) (by decide) dX3_giveSeat_44) ?_
        refine V_ifb_eq C 61 dX3_giveSeat_47 (by decide) (fun h47 => ?_) (fun h47 => ?_)
        · refine V_iinc_4 C _ dX3_giveSeat_61 (nI_1 _) (by decide) ?_
          refine V_goto C 20 dX3_giveSeat_64 (by decide) ?_
          first
            | (rw [gvA_t (by rw [gvA_is (by omega)] at h47; exact h47)]; exact ih20 (k + 1) (by omega) (by omega))
            | (rw [gvA_f (by rw [gvA_is (by omega)] at h47; exact h47)]; exact ih20 (k + 1) (by omega) (by omega))
        · refine V_aload_n C dX3_giveSeat_50 rfl ?_
          refine gt_X3_offers C fk_X3_25 dX3_giveSeat_51 ?_
          refine V_iload C dX3_giveSeat_54 rfl ?_
          refine la_offers C _ rfl (by omega) dX3_giveSeat_56 ?_
          refine V_iload_n C dX3_giveSeat_57 rfl ?_
          refine V_callfv (R_VN C (c_X0_letWaitNoMore hfl (by omega) (w := qW a1 k) (by rw [gvA_hi (Or.inl (by omega))]; exact hW1.qe (i := k) (by omega)) (hW1.ql (i := k) (by omega))) mi_X0_letWaitNoMore mk_X3_338 rfl (by omega) ((GE_C (by omega)).trans (GC_O (by omega))) (rfl : vwCl[2]? = some (RX0, TX0, 9)) (by decide) rfl (Nat.le_of_ble_eq_true rfl) (by decide) dX3_giveSeat_58) ?_
          refine V_iinc_4 C _ dX3_giveSeat_61 (nI_1 _) (by decide) ?_
          refine V_goto C 20 dX3_giveSeat_64 (by decide) ?_
          first
            | (rw [gvA_t (by rw [gvA_is (by omega)] at h47; exact h47)]; exact ih20 (k + 1) (by omega) (by omega))
            | (rw [gvA_f (by rw [gvA_is (by omega)] at h47; exact h47)]; exact ih20 (k + 1) (by omega) (by omega))
  exact L20 _ 0 (Nat.zero_le _) (Nat.lt_succ_self _)
set_option maxHeartbeats 4000000 in
set_option maxRecDepth 100000 in
theorem c_X3_isSeatWon {l : Launch} {x : Sh} {a b : Mem} {o : Out} (hfl : l.stackTraces = false) (hW : WC a) {p : Nat} (hp : p < 10) {i : Nat} (hi : i < 12) {V : Int32} : MG l x yX3_isSeatWon cX3_isSeatWon 4 (some .boolean) 6 280 [.ref (x.2.1 0), .int (nI p), .ref (x.2.1 (18 + 4 * i)), .int V] a b o (QI x o (FI (bI (nos a i p V && !isFullB a i)) (if nos a i p V = true then (if isFullB a i = true then letW a i (nI p) V (qW a i) else giveA a i p V) else a) b)) := by
  refine MG.of (maxL := 4) (ret := (some .boolean)) hfl (by decide) [some (.ref (x.2.1 0)), some (.int (nI p)), some (.ref (x.2.1 (18 + 4 * i))), some (.int V)] rfl rfl (Nat.le_of_ble_eq_true rfl) ?_
  intro pP eE sS mM argsA belowB methM cC C hr
  refine V_aload_n C dX3_isSeatWon_0 rfl ?_
  refine V_iload_n C dX3_isSeatWon_1 rfl ?_
  refine V_aload_n C dX3_isSeatWon_2 rfl ?_
  refine V_iload_n C dX3_isSeatWon_3 rfl ?_
  refine V_callf (R_V C (c_X3_needsOnlySeat hfl hW hp hi) mi_X3_needsOnlySeat mk_X3_325 rfl (by omega) rfl (rfl : vwCl[5]? = some (RX3, TX3, 13)) (by decide) rfl (Nat.le_of_ble_eq_true rfl) (by decide) dX3_isSeatWon_4) ?_
  refine V_ifb_ne C 12 dX3_isSeatWon_7 (by decide) (fun h7 => ?_) (fun h7 => ?_)
  · refine V_aload_n C dX3_isSeatWon_12 rfl ?_
    refine V_callf (R_VN C (c_X0_isFull hfl (by omega)) mi_X0_isFull mk_X3_328 rfl (by omega) ((GE_C (by omega)).trans (GC_O (by omega))) (rfl : vwCl[2]? = some (RX0, TX0, 9)) (by decide) rfl (Nat.le_of_ble_eq_true rfl) (by decide) dX3_isSeatWon_13) ?_
    refine V_ifb_eq C 27 dX3_isSeatWon_16 (by decide) (fun h16 => ?_) (fun h16 => ?_)
    · refine V_aload_n C dX3_isSeatWon_27 rfl ?_
      refine V_iload_n C dX3_isSeatWon_28 rfl ?_
      refine V_aload_n C dX3_isSeatWon_29 rfl ?_
      refine V_iload_n C dX3_isSeatWon_30 rfl ?_
      refine V_callfv (R_V C (c_X3_giveSeat hfl hW hp hi) mi_X3_giveSeat mk_X3_334 rfl (by omega) rfl (rfl : vwCl[5]? = some (RX3, TX3, 13)) (by decide) rfl (Nat.le_of_ble_eq_true rfl) (by decide) dX3_isSeatWon_31) ?_
      refine V_iconst (v := 1) C dX3_isSeatWon_34 (by decide) ?_
      exact V_iretz C hr (by first | exact Or.inl rfl | exact Or.inr rfl | exact bI_or _) dX3_isSeatWon_35 ⟨by first | simp [h7, bI, h16] | simp [h7, bI], by first | simp [h7, h16] | simp [h7], rfl⟩
    · refine V_aload_n C dX3_isSeatWon_19 rfl ?_
      refine V_iload_n C dX3_isSeatWon_20 rfl ?_
      refine V_iload_n C dX3_isSeatWon_21 rfl ?_
      refine V_callfv (R_VN C (c_X0_letWait hfl hi (hW.qe hi) (hW.ql hi)) mi_X0_letWait mk_X3_331 rfl (by omega) ((GE_C (by omega)).trans (GC_O (by omega))) (rfl : vwCl[2]? = some (RX0, TX0, 9)) (by decide) rfl (Nat.le_of_ble_eq_true rfl) (by decide) dX3_isSeatWon_22) ?_
      refine V_iconst (v := 0) C dX3_isSeatWon_25 (by decide) ?_
      exact V_iretz C hr (by first | exact Or.inl rfl | exact Or.inr rfl | exact bI_or _) dX3_isSeatWon_26 ⟨by first | simp [h7, bI, h16] | simp [h7, bI], by first | simp [h7, h16] | simp [h7], rfl⟩
  · refine V_iconst (v := 0) C dX3_isSeatWon_10 (by decide) ?_
    exact V_iretz C hr (by first | exact Or.inl rfl | exact Or.inr rfl | exact bI_or _) dX3_isSeatWon_11 ⟨by first | simp [h7, bI, h16] | simp [h7, bI], by first | simp [h7, h16] | simp [h7], rfl⟩
set_option maxHeartbeats 4000000 in
set_option maxRecDepth 100000 in
theorem c_X3_payBack {l : Launch} {x : Sh} {a b : Mem} {o : Out} (hfl : l.stackTraces = false) {p : Nat} (hp : p < 10) {v : Int32} : MG l x yX3_payBack cX3_payBack 3 none 0 40 [.ref (x.2.1 0), .int (nI p), .int v] a b o (QV x o (FV (payA a p v) b)) := by
  refine MG.of (maxL := 3) (ret := none) hfl (by decide) [some (.ref (x.2.1 0)), some (.int (nI p)), some (.int v)] rfl rfl (Nat.le_of_ble_eq_true rfl) ?_
  intro pP eE sS mM argsA belowB methM cC C hr
  refine V_aload_n C dX3_payBack_0 rfl ?_
  refine gt_X3_pointsLeft C fk_X3_34 dX3_payBack_1 ?_
  refine V_iload_n C dX3_payBack_4 rfl ?_
  refine V_dup2 C dX3_payBack_5 rfl rfl ?_
  refine la_left C _ rfl (by omega) dX3_payBack_6 ?_
  refine V_iload_n C dX3_payBack_7 rfl ?_
  refine V_iadd C dX3_payBack_8 ?_
  refine sa_left C _ rfl (by omega) dX3_payBack_9 ?_
  refine V_aload_n C dX3_payBack_10 rfl ?_
  refine V_dup C dX3_payBack_11 rfl ?_
  refine gt_X3_refundSum C fk_X3_218 dX3_payBack_12 ?_
  refine V_topi (up2_o (by omega)) ?_
  refine V_iload_n C dX3_payBack_15 rfl ?_
  refine V_iadd C dX3_payBack_16 ?_
  refine pt_X3_refundSum C fk_X3_218 dX3_payBack_17 ?_
  exact V_vret C hr dX3_payBack_20 ⟨rfl, rfl⟩
set_option maxHeartbeats 4000000 in
set_option maxRecDepth 100000 in
theorem c_X3_moveOneUp {l : Launch} {x : Sh} {a b : Mem} {o : Out} (hfl : l.stackTraces = false) (hW : WC a) {i : Nat} (hi : i < 12) : MG l x yX3_moveOneUp cX3_moveOneUp 5 (some .int) 6 280 [.ref (x.2.1 0), .ref (x.2.1 (18 + 4 * i))] a b o (QI x o (FI (muF a i) (muA a i) b)) := by
  refine MG.of (maxL := 5) (ret := (some .int)) hfl (by decide) [some (.ref (x.2.1 0)), some (.ref (x.2.1 (18 + 4 * i))), none, none, none] rfl rfl (Nat.le_of_ble_eq_true rfl) ?_
  intro pP eE sS mM argsA belowB methM cC C hr
  have hw10 := hW.ql hi
  refine V_aload_n C dX3_moveOneUp_0 rfl ?_
  refine V_callf (R_VN C (c_X0_isFull hfl (by omega)) mi_X0_isFull mk_X3_328 rfl (by omega) ((GE_C (by omega)).trans (GC_O (by omega))) (rfl : vwCl[2]? = some (RX0, TX0, 9)) (by decide) rfl (Nat.le_of_ble_eq_true rfl) (by decide) dX3_moveOneUp_1) ?_
  refine V_ifb_eq C 9 dX3_moveOneUp_4 (by decide) (fun h4 => ?_) (fun h4 => ?_)
  · refine V_iconst (v := 0) C dX3_moveOneUp_9 (by decide) ?_
    refine V_istore_n2 C dX3_moveOneUp_10 (by decide) ?_
    have L11 : ∀ (fuel : Nat) (k : Nat), k ≤ qW a i → (∀ j, j < k → muK a i j = false) → qW a i - k < fuel → VV pP l eE ({ frames := 6, cells := 0, slots := 0, locals := 280 } : Room) sS mM argsA belowB methM cC (MQ belowB (QI x o (FI (muF a i) (muA a i) b) sS.heap.size) argsA sS 0 0 (AW x sS.heap.size)) x 5 a b o 0 0 11 [some (.ref (x.2.1 0)), some (.ref (x.2.1 (18 + 4 * i))), some (.int (nI k)), none, none] [] := by
      intro fuel
      induction fuel with
      | zero => intro k hk hno hm; exact absurd hm (Nat.not_lt_zero _)
      | succ fuel ih11 =>
        intro k hk hno hm
        refine V_iload_n C dX3_moveOneUp_11 rfl ?_
        refine V_aload_n C dX3_moveOneUp_12 rfl ?_
        refine gt_X0_waiterCount C (by omega) fk_X3_187 dX3_moveOneUp_13 ?_
        refine V_topi (hW.qe hi) ?_
        refine V_lt C 61 dX3_moveOneUp_16 (by decide) (by omega) (by omega) (fun h16 => ?_) (fun h16 => ?_)
        · refine V_iconst (v := -1) C dX3_moveOneUp_61 (by decide) ?_
          exact V_ireti C hr dX3_moveOneUp_62 ⟨by rw [muF, if_neg (by rw [h4]; decide), firN_eq (Nat.le_refl _) (fun j hj => hno j (by omega)) (fun h => absurd h (Nat.lt_irrefl _)), if_neg (Nat.lt_irrefl _)], by rw [muA, if_neg (by rw [h4]; decide), firN_eq (Nat.le_refl _) (fun j hj => hno j (by omega)) (fun h => absurd h (Nat.lt_irrefl _)), if_neg (Nat.lt_irrefl _)], rfl⟩
        · have hp9 := hW.wtl hi h16
          have hpe := hW.wte hi h16
          refine V_aload_n C dX3_moveOneUp_19 rfl ?_
          refine gt_X0_waiters C (by omega) fk_X3_192 dX3_moveOneUp_20 ?_
          refine V_iload_n C dX3_moveOneUp_23 rfl ?_
          refine la_waiters C (by omega) _ rfl (by omega) dX3_moveOneUp_24 ?_
          refine V_topi hpe ?_
          refine V_istore_n3 C dX3_moveOneUp_25 (by decide) ?_
          refine V_aload_n C dX3_moveOneUp_26 rfl ?_
          refine gt_X0_waiterPoints C (by omega) fk_X3_341 dX3_moveOneUp_27 ?_
          refine V_iload_n C dX3_moveOneUp_30 rfl ?_
          refine la_waiterPoints C (by omega) _ rfl (by omega) dX3_moveOneUp_31 ?_
          refine V_istore_4 C dX3_moveOneUp_32 (by decide) ?_
          refine V_aload_n C dX3_moveOneUp_34 rfl ?_
          refine V_iload_n C dX3_moveOneUp_35 rfl ?_
          refine V_aload_n C dX3_moveOneUp_36 rfl ?_
          refine V_iload C dX3_moveOneUp_37 rfl ?_
          refine V_callf (R_V C (c_X3_needsOnlySeat hfl hW (p := wtN a i k) (by omega) hi) mi_X3_needsOnlySeat mk_X3_325 rfl (by omega) rfl (rfl : vwCl[5]? = some (RX3, TX3, 13)) (by decide) rfl (Nat.le_of_ble_eq_true rfl) (by decide) dX3_moveOneUp_39) ?_
          refine V_ifb_eq C 55 dX3_moveOneUp_42 (by decide) (fun h42 => ?_) (fun h42 => ?_)
          · refine V_iinc_2 C _ dX3_moveOneUp_55 (nI_1 _) (by decide) ?_
            refine V_goto C 11 dX3_moveOneUp_58 (by decide) ?_
            refine V_forget (lvLe.same (lvLe.same (lvLe.same (lvLe.drop (lvLe.drop lvLe.nil))))) ?_
            exact ih11 (k + 1) (by omega) (lt_s hno h42) (by omega)
          · refine V_aload_n C dX3_moveOneUp_45 rfl ?_
            refine V_iload_n C dX3_moveOneUp_46 rfl ?_
            refine V_aload_n C dX3_moveOneUp_47 rfl ?_
            refine V_iload C dX3_moveOneUp_48 rfl ?_
            refine V_callfv (R_V C (c_X3_giveSeat hfl hW (p := wtN a i k) (by omega) hi) mi_X3_giveSeat mk_X3_334 rfl (by omega) rfl (rfl : vwCl[5]? = some (RX3, TX3, 13)) (by decide) rfl (Nat.le_of_ble_eq_true rfl) (by decide) dX3_moveOneUp_50) ?_
            refine V_iload_n C dX3_moveOneUp_53 rfl ?_
            exact V_ireti C hr dX3_moveOneUp_54 ⟨by rw [muF, if_neg (by rw [h4]; decide), firN_eq (by omega) hno (fun _ => h42), if_pos h16]; exact hpe.symm, by rw [muA, if_neg (by rw [h4]; decide), firN_eq (by omega) hno (fun _ => h42), if_pos h16], rfl⟩
    exact L11 _ 0 (Nat.zero_le _) (fun j hj => absurd hj (Nat.not_lt_zero _)) (Nat.lt_succ_self _)
  · refine V_iconst (v := -1) C dX3_moveOneUp_7 (by decide) ?_
    exact V_ireti C hr dX3_moveOneUp_8 ⟨by rw [muF, if_pos h4], by rw [muA, if_pos h4], rfl⟩
set_option maxHeartbeats 4000000 in
set_option maxRecDepth 100000 in
theorem c_X3_isRoomShared {l : Launch} {x : Sh} {a b : Mem} {o : Out} (hfl : l.stackTraces = false) (hW : WC a) {i : Nat} (hi : i < 12) : MG l x yX3_isRoomShared cX3_isRoomShared 3 (some .boolean) 0 40 [.ref (x.2.1 0), .int (nI i)] a b o (QI x o (FI (bI (anyN (rsB a i) (nO a))) a b)) := by
  refine MG.of (maxL := 3) (ret := (some .boolean)) hfl (by decide) [some (.ref (x.2.1 0)), some (.int (nI i)), none] rfl rfl (Nat.le_of_ble_eq_true rfl) ?_
  intro pP eE sS mM argsA belowB methM cC C hr
  have ho12 := hW.ol
  refine V_iconst (v := 0) C dX3_isRoomShared_0 (by decide) ?_
  refine V_istore_n2 C dX3_isRoomShared_1 (by decide) ?_
  have L2 : ∀ (fuel : Nat) (k : Nat), k ≤ nO a → anyN (rsB a i) k = false → nO a - k < fuel → VV pP l eE ({ frames := 0, cells := 0, slots := 0, locals := 40 } : Room) sS mM argsA belowB methM cC (MQ belowB (QI x o (FI (bI (anyN (rsB a i) (nO a))) a b) sS.heap.size) argsA sS 0 0 (AW x sS.heap.size)) x 3 a b o 0 0 2 [some (.ref (x.2.1 0)), some (.int (nI i)), some (.int (nI k))] [] := by
    intro fuel
    induction fuel with
    | zero => intro k hk hno hm; exact absurd hm (Nat.not_lt_zero _)
    | succ fuel ih2 =>
      intro k hk hno hm
      refine V_iload_n C dX3_isRoomShared_2 rfl ?_
      refine V_aload_n C dX3_isRoomShared_3 rfl ?_
      refine gt_X3_offerCount C fk_X3_91 dX3_isRoomShared_4 ?_
      refine V_topi hW.oe ?_
      refine V_lt C 65 dX3_isRoomShared_7 (by decide) (by omega) (by omega) (fun h7 => ?_) (fun h7 => ?_)
      · refine V_iconst (v := 0) C dX3_isRoomShared_65 (by decide) ?_
        exact V_iretz C hr (by first | exact Or.inl rfl | exact Or.inr rfl | exact bI_or _) dX3_isRoomShared_66 ⟨by rw [show nO a = k by omega, hno]; rfl, rfl, rfl⟩
      · refine V_iload_n C dX3_isRoomShared_10 rfl ?_
        refine V_iload_n C dX3_isRoomShared_11 rfl ?_
        refine V_icmp_eq C 59 dX3_isRoomShared_12 (by decide) (fun h12 => ?_) (fun h12 => ?_)
        · have q12 : k = i := (nI_eq (by omega) (by omega)).mp h12
          refine V_iinc_2 C _ dX3_isRoomShared_59 (nI_1 _) (by decide) ?_
          refine V_goto C 2 dX3_isRoomShared_62 (by decide) ?_
          exact ih2 (k + 1) (by omega) (anyN_s hno (by first | simp [rsB, q12, h54] | simp [rsB, q12, h33] | simp [rsB, q12])) (by omega)
        · have q12 : ¬ k = i := fun e => h12 (by rw [e])
          refine V_aload_n C dX3_isRoomShared_15 rfl ?_
          refine gt_X3_offers C fk_X3_25 dX3_isRoomShared_16 ?_
          refine V_iload_n C dX3_isRoomShared_19 rfl ?_
          refine la_offers C _ rfl (by omega) dX3_isRoomShared_20 ?_
          refine gt_X0_room C (by omega) fk_X3_207 dX3_isRoomShared_21 ?_
          refine V_aload_n C dX3_isRoomShared_24 rfl ?_
          refine gt_X3_offers C fk_X3_25 dX3_isRoomShared_25 ?_
          refine V_iload_n C dX3_isRoomShared_28 rfl ?_
          refine la_offers C _ rfl (by omega) dX3_isRoomShared_29 ?_
          refine gt_X0_room C (by omega) fk_X3_207 dX3_isRoomShared_30 ?_
          refine V_icmp_ne C 59 dX3_isRoomShared_33 (by decide) (fun h33 => ?_) (fun h33 => ?_)
          · refine V_iinc_2 C _ dX3_isRoomShared_59 (nI_1 _) (by decide) ?_
            refine V_goto C 2 dX3_isRoomShared_62 (by decide) ?_
            exact ih2 (k + 1) (by omega) (anyN_s hno (by first | simp [rsB, q12, h54] | simp [rsB, q12, h33] | simp [rsB, q12])) (by omega)
          · refine V_aload_n C dX3_isRoomShared_36 rfl ?_
            refine gt_X3_offers C fk_X3_25 dX3_isRoomShared_37 ?_
            refine V_iload_n C dX3_isRoomShared_40 rfl ?_
            refine la_offers C _ rfl (by omega) dX3_isRoomShared_41 ?_
            refine gt_X0_slot C (by omega) fk_X3_104 dX3_isRoomShared_42 ?_
            refine V_aload_n C dX3_isRoomShared_45 rfl ?_
            refine gt_X3_offers C fk_X3_25 dX3_isRoomShared_46 ?_
            refine V_iload_n C dX3_isRoomShared_49 rfl ?_
            refine la_offers C _ rfl (by omega) dX3_isRoomShared_50 ?_
            refine gt_X0_slot C (by omega) fk_X3_104 dX3_isRoomShared_51 ?_
            refine V_icmp_ne C 59 dX3_isRoomShared_54 (by decide) (fun h54 => ?_) (fun h54 => ?_)
            · refine V_iinc_2 C _ dX3_isRoomShared_59 (nI_1 _) (by decide) ?_
              refine V_goto C 2 dX3_isRoomShared_62 (by decide) ?_
              exact ih2 (k + 1) (by omega) (anyN_s hno (by first | simp [rsB, q12, h54] | simp [rsB, q12, h33] | simp [rsB, q12])) (by omega)
            · refine V_iconst (v := 1) C dX3_isRoomShared_57 (by decide) ?_
              exact V_iretz C hr (by first | exact Or.inl rfl | exact Or.inr rfl | exact bI_or _) dX3_isRoomShared_58 ⟨by rw [anyN_t h7 (show rsB a i k = true by simp [rsB, q12, show a (18 + 4 * k) 2 = a (18 + 4 * i) 2 by simpa using h33, show a (18 + 4 * k) 1 = a (18 + 4 * i) 1 by simpa using h54])]; rfl, rfl, rfl⟩
  exact L2 _ 0 (Nat.zero_le _) rfl (Nat.lt_succ_self _)
set_option maxHeartbeats 4000000 in
set_option maxRecDepth 100000 in
theorem c_X3_arePointsWhole {l : Launch} {x : Sh} {a b : Mem} {o : Out} (hfl : l.stackTraces = false) (hW : WC a) {p : Nat} (hp : p < 10) : MG l x yX3_arePointsWhole cX3_arePointsWhole 4 (some .boolean) 1 80 [.ref (x.2.1 0), .int (nI p)] a b o (QI x o (FI (bI (pwB a p)) a b)) := by
  refine MG.of (maxL := 4) (ret := (some .boolean)) hfl (by decide) [some (.ref (x.2.1 0)), some (.int (nI p)), none, none] rfl rfl (Nat.le_of_ble_eq_true rfl) ?_
  intro pP eE sS mM argsA belowB methM cC C hr
  have ho12 := hW.ol
  refine V_aload_n C dX3_arePointsWhole_0 rfl ?_
  refine gt_X3_pointsLeft C fk_X3_34 dX3_arePointsWhole_1 ?_
  refine V_iload_n C dX3_arePointsWhole_4 rfl ?_
  refine la_left C _ rfl (by omega) dX3_arePointsWhole_5 ?_
  refine V_aload_n C dX3_arePointsWhole_6 rfl ?_
  refine gt_X3_forfeited C fk_X3_37 dX3_arePointsWhole_7 ?_
  refine V_iload_n C dX3_arePointsWhole_10 rfl ?_
  refine la_forf C _ rfl (by omega) dX3_arePointsWhole_11 ?_
  refine V_iadd C dX3_arePointsWhole_12 ?_
  refine V_topi (show _ = a 67 p + a 68 p + sumN (psB a p) 0 from by simp [sumN]) ?_
  refine V_istore_n2 C dX3_arePointsWhole_13 (by decide) ?_
  refine V_iconst (v := 0) C dX3_arePointsWhole_14 (by decide) ?_
  refine V_istore_n3 C dX3_arePointsWhole_15 (by decide) ?_
  have L16 : ∀ (fuel : Nat) (k : Nat), k ≤ nO a → nO a - k < fuel → VV pP l eE ({ frames := 1, cells := 0, slots := 0, locals := 80 } : Room) sS mM argsA belowB methM cC (MQ belowB (QI x o (FI (bI (pwB a p)) a b) sS.heap.size) argsA sS 0 0 (AW x sS.heap.size)) x 4 a b o 0 0 16 [some (.ref (x.2.1 0)), some (.int (nI p)), some (.int (a 67 p + a 68 p + sumN (psB a p) k)), some (.int (nI k))] [] := by
    intro fuel
    induction fuel with
    | zero => intro k hk hm; exact absurd hm (Nat.not_lt_zero _)
    | succ fuel ih16 =>
      intro k hk hm
      refine V_iload_n C dX3_arePointsWhole_16 rfl ?_
      refine V_aload_n C dX3_arePointsWhole_17 rfl ?_
      refine gt_X3_offerCount C fk_X3_91 dX3_arePointsWhole_18 ?_
      refine V_topi hW.oe ?_
      refine V_lt C 57 dX3_arePointsWhole_21 (by decide) (by omega) (by omega) (fun h21 => ?_) (fun h21 => ?_)
      · have e9 : nO a = k := by omega
        refine V_iload_n C dX3_arePointsWhole_57 rfl ?_
        refine V_bipush (v := 100) C dX3_arePointsWhole_58 (by decide) ?_
        refine V_icmp_ne C 67 dX3_arePointsWhole_60 (by decide) (fun h60 => ?_) (fun h60 => ?_)
        · refine V_iconst (v := 0) C dX3_arePointsWhole_67 (by decide) ?_
          exact V_iretz C hr (by first | exact Or.inl rfl | exact Or.inr rfl | exact bI_or _) dX3_arePointsWhole_68 ⟨by rw [pwB, e9]; simp [bI, h60], rfl, rfl⟩
        · refine V_iconst (v := 1) C dX3_arePointsWhole_63 (by decide) ?_
          refine V_goto C 68 dX3_arePointsWhole_64 (by decide) ?_
          exact V_iretz C hr (by first | exact Or.inl rfl | exact Or.inr rfl | exact bI_or _) dX3_arePointsWhole_68 ⟨by rw [pwB, e9]; simp [bI, h60], rfl, rfl⟩
      · refine V_aload_n C dX3_arePointsWhole_24 rfl ?_
        refine gt_X3_offers C fk_X3_25 dX3_arePointsWhole_25 ?_
        refine V_iload_n C dX3_arePointsWhole_28 rfl ?_
        refine la_offers C _ rfl (by omega) dX3_arePointsWhole_29 ?_
        refine V_iload_n C dX3_arePointsWhole_30 rfl ?_
        refine V_callf (R_VN C (c_X0_hasSeated hfl (by omega) (by omega)) mi_X0_hasSeated mk_X3_178 rfl (by omega) ((GE_C (by omega)).trans (GC_O (by omega))) (rfl : vwCl[2]? = some (RX0, TX0, 9)) (by decide) rfl (Nat.le_of_ble_eq_true rfl) (by decide) dX3_arePointsWhole_31) ?_
        refine V_ifb_eq C 51 dX3_arePointsWhole_34 (by decide) (fun h34 => ?_) (fun h34 => ?_)
        · refine V_iinc_3 C _ dX3_arePointsWhole_51 (nI_1 _) (by decide) ?_
          refine V_goto C 16 dX3_arePointsWhole_54 (by decide) ?_
          have ih := ih16 (k + 1) (by omega) (by omega)
          have e1 : sumN (psB a p) (k + 1) = sumN (psB a p) k + psB a p k := rfl
          rw [e1] at ih
          first
            | (rw [show psB a p k = a (18 + 4 * k + 1) p by rw [psB, if_pos h34], ← Int32.add_assoc] at ih; exact ih)
            | (rw [show psB a p k = 0 by rw [psB, if_neg (by rw [h34]; decide)], Int32.add_zero] at ih; exact ih)
        · refine V_iload_n C dX3_arePointsWhole_37 rfl ?_
          refine V_aload_n C dX3_arePointsWhole_38 rfl ?_
          refine gt_X3_offers C fk_X3_25 dX3_arePointsWhole_39 ?_
          refine V_iload_n C dX3_arePointsWhole_42 rfl ?_
          refine la_offers C _ rfl (by omega) dX3_arePointsWhole_43 ?_
          refine gt_X0_paidBy C (by omega) fk_X3_184 dX3_arePointsWhole_44 ?_
          refine V_iload_n C dX3_arePointsWhole_47 rfl ?_
          refine la_paidBy C (by omega) _ rfl (by omega) dX3_arePointsWhole_48 ?_
          refine V_iadd C dX3_arePointsWhole_49 ?_
          refine V_istore_n2 C dX3_arePointsWhole_50 (by decide) ?_
          refine V_iinc_3 C _ dX3_arePointsWhole_51 (nI_1 _) (by decide) ?_
          refine V_goto C 16 dX3_arePointsWhole_54 (by decide) ?_
          have ih := ih16 (k + 1) (by omega) (by omega)
          have e1 : sumN (psB a p) (k + 1) = sumN (psB a p) k + psB a p k := rfl
          rw [e1] at ih
          first
            | (rw [show psB a p k = a (18 + 4 * k + 1) p by rw [psB, if_pos h34], ← Int32.add_assoc] at ih; exact ih)
            | (rw [show psB a p k = 0 by rw [psB, if_neg (by rw [h34]; decide)], Int32.add_zero] at ih; exact ih)
  exact L16 _ 0 (Nat.zero_le _) (Nat.lt_succ_self _)
