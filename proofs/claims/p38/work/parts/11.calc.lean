/-! Bools as ints, counts over the first n -/
def bI (P : Bool) : Int32 := if P then 1 else 0
theorem bI_or (P : Bool) : bI P = 0 ∨ bI P = 1 := by cases P <;> simp [bI]
theorem bI_t : bI true = 1 := rfl
theorem bI_f : bI false = 0 := rfl
theorem bI_0 {P : Bool} : bI P = 0 ↔ P = false := by cases P <;> simp [bI]
theorem bI_n0 {P : Bool} : ¬ bI P = 0 ↔ P = true := by cases P <;> simp [bI]
def anyN (f : Nat → Bool) : Nat → Bool
  | 0 => false
  | n + 1 => anyN f n || f n
theorem anyN_iff {f : Nat → Bool} {n : Nat} : anyN f n = true ↔ ∃ i, i < n ∧ f i = true := by
  induction n with
  | zero => simp [anyN]
  | succ n ih =>
    simp only [anyN, Bool.or_eq_true, ih]
    constructor
    · rintro (⟨i, h1, h2⟩ | h)
      · exact ⟨i, by omega, h2⟩
      · exact ⟨n, by omega, h⟩
    · rintro ⟨i, h1, h2⟩
      by_cases e : i = n
      · subst e; exact Or.inr h2
      · exact Or.inl ⟨i, by omega, h2⟩
theorem anyN_t {f : Nat → Bool} {n i : Nat} (h : i < n) (hf : f i = true) : anyN f n = true := anyN_iff.mpr ⟨i, h, hf⟩
theorem anyN_f {f : Nat → Bool} {n : Nat} : anyN f n = false ↔ ∀ i, i < n → f i = false := by
  constructor
  · intro h i hi
    cases hf : f i with
    | false => rfl
    | true => rw [anyN_t hi hf] at h; cases h
  · intro h
    cases hf : anyN f n with
    | false => rfl
    | true =>
      obtain ⟨i, h1, h2⟩ := anyN_iff.mp hf
      rw [h i h1] at h2; cases h2
theorem anyN_s {f : Nat → Bool} {n : Nat} (h : anyN f n = false) (hf : f n = false) : anyN f (n + 1) = false := by simp [anyN, h, hf]
theorem anyN_congr {f g : Nat → Bool} {n : Nat} (h : ∀ i, i < n → f i = g i) : anyN f n = anyN g n := by
  induction n with
  | zero => rfl
  | succ n ih => simp only [anyN]; rw [ih (fun i hi => h i (by omega)), h n (by omega)]
def cntN (f : Nat → Bool) : Nat → Nat
  | 0 => 0
  | n + 1 => cntN f n + (if f n then 1 else 0)
theorem cntN_le (f : Nat → Bool) (n : Nat) : cntN f n ≤ n := by
  induction n with
  | zero => simp [cntN]
  | succ n ih => simp only [cntN]; split <;> omega
theorem cntN_t {f : Nat → Bool} {n : Nat} (h : f n = true) : cntN f (n + 1) = cntN f n + 1 := by simp [cntN, h]
theorem cntN_f {f : Nat → Bool} {n : Nat} (h : f n = false) : cntN f (n + 1) = cntN f n := by simp [cntN, h]
theorem cntN_congr {f g : Nat → Bool} {n : Nat} (h : ∀ i, i < n → f i = g i) : cntN f n = cntN g n := by
  induction n with
  | zero => rfl
  | succ n ih => simp only [cntN]; rw [ih (fun i hi => h i (by omega)), h n (by omega)]
theorem cntN_mono {f : Nat → Bool} {i n : Nat} (h : i ≤ n) : cntN f i ≤ cntN f n := by
  induction n with
  | zero => have : i = 0 := by omega
            subst this; exact Nat.le_refl _
  | succ n ih =>
    by_cases e : i = n + 1
    · subst e; exact Nat.le_refl _
    · have := ih (by omega)
      simp only [cntN]; omega
def sumN (g : Nat → Int32) : Nat → Int32
  | 0 => 0
  | n + 1 => sumN g n + g n
theorem sumN_congr {f g : Nat → Int32} {n : Nat} (h : ∀ i, i < n → f i = g i) : sumN f n = sumN g n := by
  induction n with
  | zero => rfl
  | succ n ih => simp only [sumN]; rw [ih (fun i hi => h i (by omega)), h n (by omega)]
def itN {α : Type} (f : Nat → α → α) : Nat → α → α
  | 0, a => a
  | n + 1, a => f n (itN f n a)
/-- the first place below n where f holds, else n -/
def firN (f : Nat → Bool) : Nat → Nat
  | 0 => 0
  | n + 1 => if firN f n < n then firN f n else if f n then n else n + 1
theorem firN_le (f : Nat → Bool) (n : Nat) : firN f n ≤ n := by
  induction n with
  | zero => simp [firN]
  | succ n ih => simp only [firN]; split <;> (try split) <;> omega
theorem firN_no {f : Nat → Bool} {n : Nat} : ∀ j, j < firN f n → f j = false := by
  induction n with
  | zero => intro j hj; simp [firN] at hj
  | succ n ih =>
    intro j hj
    simp only [firN] at hj
    split at hj
    · exact ih j hj
    · have hle := firN_le f n
      split at hj
      · exact ih j (by omega)
      · rename_i h1 h2
        by_cases e : j = n
        · subst e; simpa using h2
        · exact ih j (by omega)
theorem firN_yes {f : Nat → Bool} {n : Nat} (h : firN f n < n) : f (firN f n) = true := by
  induction n with
  | zero => omega
  | succ n ih =>
    simp only [firN] at h ⊢
    split
    · rename_i h1; exact ih h1
    · rename_i h1
      rw [if_neg h1] at h
      split
      · assumption
      · rename_i h2
        rw [if_neg h2] at h; omega
theorem firN_eq {f : Nat → Bool} {n i : Nat} (hi : i ≤ n) (h1 : ∀ j, j < i → f j = false) (h2 : i < n → f i = true) : firN f n = i := by
  have a1 := firN_le f n
  rcases Nat.lt_trichotomy (firN f n) i with h | h | h
  · have := firN_yes (f := f) (n := n) (by omega)
    rw [h1 _ h] at this; cases this
  · exact h
  · have := firN_no i h
    rw [h2 (by omega)] at this; cases this
theorem firN_congr {f g : Nat → Bool} {n : Nat} (h : ∀ i, i < n → f i = g i) : firN f n = firN g n := by
  induction n with
  | zero => rfl
  | succ n ih => simp only [firN]; rw [ih (fun i hi => h i (by omega)), h n (by omega)]
/-- its place as Java tells it: -1 for none -/
def fI (f : Nat → Bool) (n : Nat) : Int32 := if firN f n < n then nI (firN f n) else -1
theorem nI_ne_m1 {n : Nat} (h : n < 2 ^ 31) : ¬ nI n = -1 := by
  intro e
  have h1 := nI_toInt h
  rw [e] at h1
  have h2 : (-1 : Int32).toInt = -1 := by decide
  omega
section VVB
variable {p : Program} {l : Launch} {e : Env} {R : Room} {s : State} {m : MethodId} {args : Array Value} {below : List Frame} {meth : Method} {c : Code} {Q : State → Prop} {x : Sh} {nL : Nat} {a b : Mem} {o : Out} {cells slots pc : Nat} {lv : List (Option Value)} {st rest : List Value} {cc : ByteArray} {own : String}
theorem V_ifb_eq (C : CX p l s m meth c x cc own nL) {P : Bool} {off : Int} (tgt : Nat) (hd : decode cc pc = .ok (.ifCond .eq off, 3)) (ht : (pc : Int) + off = (tgt : Int)) (kt : P = false → VV p l e R s m args below meth c Q x nL a b o cells slots tgt lv st) (kf : P = true → VV p l e R s m args below meth c Q x nL a b o cells slots (pc + 3) lv st) : VV p l e R s m args below meth c Q x nL a b o cells slots pc lv (.int (bI P) :: st) := V_if_eq C tgt hd ht (fun h => kt (bI_0.mp h)) (fun h => kf (bI_n0.mp h))
theorem V_ifb_ne (C : CX p l s m meth c x cc own nL) {P : Bool} {off : Int} (tgt : Nat) (hd : decode cc pc = .ok (.ifCond .ne off, 3)) (ht : (pc : Int) + off = (tgt : Int)) (kt : P = true → VV p l e R s m args below meth c Q x nL a b o cells slots tgt lv st) (kf : P = false → VV p l e R s m args below meth c Q x nL a b o cells slots (pc + 3) lv st) : VV p l e R s m args below meth c Q x nL a b o cells slots pc lv (.int (bI P) :: st) := V_if_ne C tgt hd ht (fun h => kt (bI_n0.mp h)) (fun h => kf (bI_0.mp (by simpa using h)))
/-- for i < n, by naturals -/
theorem V_lt (C : CX p l s m meth c x cc own nL) {i n : Nat} {off : Int} (tgt : Nat) (hd : decode cc pc = .ok (.if_icmp .ge off, 3)) (ht : (pc : Int) + off = (tgt : Int)) (hi : i < 2 ^ 31) (hn : n < 2 ^ 31) (kt : n ≤ i → VV p l e R s m args below meth c Q x nL a b o cells slots tgt lv st) (kf : i < n → VV p l e R s m args below meth c Q x nL a b o cells slots (pc + 3) lv st) : VV p l e R s m args below meth c Q x nL a b o cells slots pc lv (.int (nI n) :: .int (nI i) :: st) := V_icmp_ge C tgt hd ht (fun h => kt ((nI_leI hn hi).mp h)) (fun h => kf (by have := mt (nI_leI hn hi).mpr h; omega))
/-- contracts by functions: the answer, and what is held behind -/
def FI (F : Int32) (A' B' : Mem) : Int32 → Mem → Mem → Prop := fun r a' b' => r = F ∧ a' = A' ∧ b' = B'
def FV (A' B' : Mem) : Mem → Mem → Prop := fun a' b' => a' = A' ∧ b' = B'
variable {F : Int32} {A' B' : Mem} {As : List Value}
theorem V_callf (hr : RUN p l e R s m args below meth c x nL a b o cells slots pc st rest (QI x o (FI F A' B')) As) (kk : VV p l e R s m args below meth c Q x nL A' B' o cells slots (pc + 3) lv (.int F :: rest)) : VV p l e R s m args below meth c Q x nL a b o cells slots pc lv st := V_calli hr (fun r a' b' h => by obtain ⟨rfl, rfl, rfl⟩ := h; exact kk)
theorem V_callfv (hr : RUN p l e R s m args below meth c x nL a b o cells slots pc st rest (QV x o (FV A' B')) As) (kk : VV p l e R s m args below meth c Q x nL A' B' o cells slots (pc + 3) lv rest) : VV p l e R s m args below meth c Q x nL a b o cells slots pc lv st := V_callv hr (fun a' b' h => by obtain ⟨rfl, rfl⟩ := h; exact kk)
end VVB
