/-! the world of all methods but constructors: cells by numbers, ints by (cell, place) -/
def wb_nest (w : Cond) : Bool := match w with
  | .fieldLinkNest .. => true
  | .methodLinkNest .. => true
  | _ => false
def wb_g (w : Cond) : Bool := w.onTables && (w.keepsCast || wb_nest w)
def nwL : List Cond := lw_tbl.filter wb_g
def NW (U : State) : Prop := ∀ w ∈ nwL, w.before #[] U = true
theorem NW.use {A : Array Value} {s : State} (h : NW s) {w : Cond} (hw : w ∈ nwL) : w.before A s = true := by
  have hg := (List.mem_filter.mp hw).2
  simp only [wb_g, Bool.and_eq_true] at hg
  exact va_tabs hg.1 rfl (h w hw)
theorem NW.same {s U : State} (hv : s.vm = U.vm) (h : NW s) : NW U := by
  intro w hw
  have hg := (List.mem_filter.mp hw).2
  simp only [wb_g, Bool.and_eq_true] at hg
  exact va_tabs hg.1 hv (h w hw)
theorem NW.warm {s U : State} (hW : s.WarmedH U.vm) (h : NW s) : NW U := by
  intro w hw
  have hg := (List.mem_filter.mp hw).2
  simp only [wb_g, Bool.and_eq_true, Bool.or_eq_true] at hg
  have h0 := h w hw
  have h1 : w.before #[] (s.setVm U.vm) = true := by
    rcases hg.2 with g | g
    · exact Cond.before_shiftedCast (State.Shifted.of_warmed hW) w g h0
    · cases w with
      | fieldLinkNest => exact Cond.fieldLinkNest_warmed hW h0
      | methodLinkNest => exact Cond.methodLinkNest_warmed hW h0
      | _ => simp [wb_nest] at g
  exact va_tabs (u := s.setVm U.vm) hg.1 rfl h1
abbrev Mem : Type := Nat → Nat → Int32
abbrev Out : Type := Int64 × UInt64
/-- the shape: classes and slots, the cells' addresses, the arrays' classes (0 int, 1 boolean, 2 Offer, 3 int[], 4 long, 5 double) -/
abbrev Sh : Type := va_G × (Nat → Nat) × (Nat → ClassId)
def up2 (a : Mem) (k j : Nat) (v : Int32) : Mem := fun k' j' => if k' = k ∧ j' = j then v else a k' j'
theorem up2_ne {a : Mem} {k j : Nat} {v : Int32} {k' : Nat} (h : k' ≠ k) : up2 a k j v k' = a k' := by
  funext j'
  simp [up2, h]
theorem up2_upd {a : Mem} {k j : Nat} {v : Int32} : up2 a k j v k = upd (a k) j v := by
  funext j'
  simp [up2, upd]
def GO (x : Sh) (k : Nat) (f : Nat → Int32) : va_E := .inr (2, [.int (f 0), .int (f 1), .int (f 2), .int (f 3), .int (f 4), .ref (x.2.1 (k + 1)), .ref (x.2.1 (k + 2)), .ref (x.2.1 (k + 3)), .int (f 8)])
def GA (x : Sh) (c n : Nat) (f : Nat → Int32) : va_E := .inl (x.2.2 c, n, .inl f)
def GR (x : Sh) (c n : Nat) (g : Nat → Nat) : va_E := .inl (x.2.2 c, n, .inr (.inr (.inr (.inr (fun i => if i < n then some (x.2.1 (g i)) else none)))))
def GC (x : Sh) (k : Nat) (f : Nat → Int32) : va_E :=
  if 18 ≤ k ∧ k < 66 then (if (k - 18) % 4 = 0 then GO x k f else GA x 0 10 f)
  else if 3 ≤ k ∧ k < 12 then GA x 0 60 f
  else if k = 0 then .inr (5, [.ref (x.2.1 1), .ref (x.2.1 13), .ref (x.2.1 17), .ref (x.2.1 66), .ref (x.2.1 67), .ref (x.2.1 68), .ref (x.2.1 69), .int (f 7), .int (f 8), .int (f 9), .int (f 10), .int (f 11), .int (f 12)])
  else if k = 1 then .inr (3, [.ref (x.2.1 2), .ref (x.2.1 12)])
  else if k = 2 then GR x 3 9 (fun i => 3 + i)
  else if k = 12 then GA x 0 3 f
  else if k = 13 then .inr (4, [.ref (x.2.1 14), .ref (x.2.1 15), .ref (x.2.1 16), .int (f 3)])
  else if 14 ≤ k ∧ k < 17 then GA x 0 120 f
  else if k = 17 then GR x 2 12 (fun i => 18 + 4 * i)
  else if k = 66 then GA x 0 3 f
  else if k = 69 then GA x 1 6 f
  else GA x 0 10 f
def GE (x : Sh) (a b : Mem) (o : Out) (k : Nat) : va_E := GC x k (a k)
def wd (x : Sh) (a b : Mem) (o : Out) : va_W := (List.range 70).map fun k => (x.2.1 k, GE x a b o k)
theorem wd_at {x : Sh} {a b : Mem} {o : Out} {k : Nat} (hk : k < 70) : (wd x a b o)[k]? = some (x.2.1 k, GE x a b o k) := by simp [wd, hk]
theorem wd_len {x : Sh} {a b : Mem} {o : Out} : (wd x a b o).length = 70 := by simp [wd]
theorem wd_get {x : Sh} {a b : Mem} {o : Out} {k : Nat} {q : Nat × va_E} (h : (wd x a b o)[k]? = some q) : k < 70 ∧ q = (x.2.1 k, GE x a b o k) := by
  have hk : k < 70 := by
    have := (List.getElem?_eq_some_iff.mp h).1
    rw [wd_len] at this
    exact this
  rw [wd_at hk] at h
  exact ⟨hk, (Option.some.inj h).symm⟩
theorem GE_C {x : Sh} {a b : Mem} {o : Out} {k : Nat} (hk : k < 70) : GE x a b o k = GC x k (a k) := rfl
theorem wd_set {x : Sh} {a b a' b' : Mem} {o o' : Out} {k : Nat} {e : va_E} (hk : k < 70) (he : GE x a' b' o' k = e) (hne : ∀ j, j ≠ k → GE x a' b' o' j = GE x a b o j) : (wd x a b o).set k (x.2.1 k, e) = wd x a' b' o' := by
  apply List.ext_getElem?
  intro j
  by_cases hj : j = k
  · subst hj
    rw [List.getElem?_set_self (by rw [wd_len]; exact hk), wd_at hk, he]
  · rw [List.getElem?_set_ne (Ne.symm hj)]
    by_cases h70 : j < 70
    · rw [wd_at h70, wd_at h70, hne j hj]
    · rw [List.getElem?_eq_none (by rw [wd_len]; omega), List.getElem?_eq_none (by rw [wd_len]; omega)]
theorem wd_setC {x : Sh} {a b : Mem} {o : Out} {k j : Nat} {v : Int32} {e : va_E} (hk : k < 70) (he : GC x k (upd (a k) j v) = e) : (wd x a b o).set k (x.2.1 k, e) = wd x (up2 a k j v) b o := by
  refine wd_set (by omega) (by rw [GE_C hk, up2_upd]; exact he) (fun i hi => ?_)
  unfold GE
  rw [up2_ne hi]
/-- what a method may change -/
def AW (x : Sh) (sz : Nat) : Nat → Prop := fun q => (∃ k, k < 70 ∧ q = x.2.1 k) ∨ sz ≤ q
theorem AW.in {x : Sh} {sz k : Nat} (hk : k < 70) : AW x sz (x.2.1 k) := Or.inl ⟨k, hk, rfl⟩
theorem AW.narrow {x : Sh} {sz sz' q : Nat} (h : sz ≤ sz') (hq : AW x sz' q) : AW x sz q := hq.elim Or.inl (fun g => Or.inr (Nat.le_trans h g))
def tysx (x : Sh) : List (ClassId × FieldType) := [(x.2.2 0, .int), (x.2.2 1, .boolean), (x.2.2 2, .object "Classfederation$Offer"), (x.2.2 3, .array .int)]
def strL : List (String × Nat × String) := [("Classfederation", 46, "seats out of range"), ("Classfederation", 57, "no more rooms"), ("Classfederation", 63, "no more exams"), ("Classfederation", 68, "no more pupils"), ("Classfederation", 295, "no such exam"), ("Classfederation", 76, "no such room"), ("Classfederation", 301, "slot out of range"), ("Classfederation", 88, "room taken or slot sat"), ("Classfederation", 94, "no more offers"), ("Classfederation", 293, "no such pupil"), ("Classfederation", 297, "no such offer"), ("Classfederation", 110, "points out of range"), ("Classfederation", 124, "offer closed or too few points"), ("Classfederation", 139, "no such bid"), ("Classfederation", 164, "no seat of this exam"), ("Classfederation", 312, "no exam at this slot"), ("Classfederation", 176, "no such holder"), ("Classfederation", 182, "no seat of this offer"), ("Classfederation", 190, "no such waiter"), ("Classfederation", 195, "offer closed or no seat of it"), ("Classfederation", 210, "offer closed, or slot sat or taken"), ("Classfederation", 299, "no such store"), ("Classfederation", 303, "no such field"), ("Classfederation", 231, "value out of range"), ("Classfederation", 241, "a store is not synced from itself"), ("Classfederation", 253, "the stores are not the same in this field"), ("Classfederation", 264, "the slot was sat"), ("Classfederation", 275, "no offers"), ("Classfederation", 278, "no pupils")]
def exL : List String := ["java/lang/IllegalArgumentException", "java/lang/IllegalStateException", "java/lang/IndexOutOfBoundsException", "java/lang/UnsupportedOperationException", "java/util/NoSuchElementException", "java/lang/ArithmeticException"]
def TH (x : Sh) (sz : Nat) (U : State) (H : Heap) : Prop := vx_Zq Bundle.tN "UNASSIGNED_STACK" Bundle.steD (AW x sz) U H ∧ vx_Zq Bundle.tN "SUPPRESSED_SENTINEL" Bundle.listD (AW x sz) U H ∧ ∀ q ∈ strL, ∃ sa, vk_R q.1 q.2.1 q.2.2 sa U
def NC (U : State) : Prop := ∀ E ∈ exL, ∀ N ∈ exL, E ≠ N → va_Nc E N U
theorem NC.moved {u U : State} (hvm : u.vm.Alike U.vm) (h : NC u) : NC U := fun E hE N hN hne => by
  obtain ⟨c, t, h1, h2, h3⟩ := h E hE N hN hne
  exact ⟨c, t, by rw [hvm.findClass]; exact h1, by rw [hvm.findClass]; exact h2, by rw [hvm.assignable]; exact h3⟩
def IN (x : Sh) : Prop := ∀ i j, i < 70 → j < 70 → x.2.1 i = x.2.1 j → i = j
def KX (x : Sh) (s : State) (H : Heap) : Prop := va_K x.1 vwCl (tysx x) s ∧ IN x ∧ NW s ∧ TH x H.size s H ∧ NC s
theorem KX.same {x : Sh} {s U : State} {H : Heap} (hv : s.vm = U.vm) (h : KX x s H) : KX x U H := by
  obtain ⟨h1, h2, h3, ⟨g1, g2, g3⟩, h5⟩ := h
  have hal : s.vm.Alike U.vm := by rw [hv]; exact Vm.Alike.refl _
  refine ⟨va_K.moved hal h1, h2, h3.same hv, ⟨vx_Zq.moved hal g1, vx_Zq.moved hal g2, fun q hq => ?_⟩, h5.moved hal⟩
  obtain ⟨sa, g⟩ := g3 q hq
  exact ⟨sa, vk_R.same hv.symm g⟩
theorem KX.call {x : Sh} {s U : State} {H : Heap} {locs : List Loc} (h : KX x s s.heap) (hS : va_S (AW x s.heap.size) s.heap H locs) (hW : s.WarmedH U.vm) : KX x U H := by
  obtain ⟨h1, h2, h3, ⟨g1, g2, g3⟩, h5⟩ := h
  have hal : s.vm.Alike U.vm := hW.alike
  have nar : ∀ q, AW x H.size q → AW x s.heap.size q := fun q hq => hq.narrow hS.1
  have z1 : vx_Zq Bundle.tN "UNASSIGNED_STACK" Bundle.steD (AW x s.heap.size) s H := vx_Zq.kept g1 (fun a ha hna => hS.2.1 a ha hna)
  have z2 : vx_Zq Bundle.tN "SUPPRESSED_SENTINEL" Bundle.listD (AW x s.heap.size) s H := vx_Zq.kept g2 (fun a ha hna => hS.2.1 a ha hna)
  refine ⟨va_K.moved hal h1, h2, h3.warm hW, ⟨vx_Zq.narrow (vx_Zq.moved hal z1) nar, vx_Zq.narrow (vx_Zq.moved hal z2) nar, fun q hq => ?_⟩, h5.moved hal⟩
  obtain ⟨sa, g⟩ := g3 q hq
  exact ⟨sa, vk_R.warm hW g⟩
theorem KX.hD {x : Sh} {s : State} {H0 : Heap} {a b : Mem} {o : Out} {sz : Nat} (h : KX x s H0) : va_D (AW x sz) (wd x a b o) := by
  refine ⟨fun i j p q hp hq hpq => ?_, fun k q hk => ?_⟩
  · obtain ⟨h1, rfl⟩ := wd_get hp
    obtain ⟨h2, rfl⟩ := wd_get hq
    exact h.2.1 i j h1 h2 hpq
  · obtain ⟨h1, rfl⟩ := wd_get hk
    exact AW.in h1
/-- a method's start -/
def Pre (x : Sh) (a b : Mem) (o : Out) (sz : Nat) (U : State) : Prop := U.heap.size = sz ∧ va_P x.1 vwCl (wd x a b o) U.heap ∧ KX x U U.heap
theorem Pre.blind {x : Sh} {a b : Mem} {o : Out} {sz : Nat} {As : List Value} : FrameBlind (va_Pc As (Pre x a b o sz)) := by
  intro v U g mk h
  obtain ⟨h0, h1, h2, h3⟩ := h
  have h4 : KX x (U.calling g mk v) U.heap := KX.same (s := U) rfl h3
  exact ⟨h0, h1, h2, h4⟩
/-- what a walk has at hand -/
def CX (p : Program) (l : Launch) (s : State) (m : MethodId) (meth : Method) (c : Code) (x : Sh) (cc : ByteArray) (own : String) (nL : Nat) : Prop :=
  p.tables.exec = Jvm.exec ∧ c.code = cc ∧ c.maxLocals = nL ∧ s.vm.findClass own = some m.cls ∧ KX x s s.heap ∧ meth.locks = false ∧ l.stackTraces = false
def LV (nL : Nat) (ls : Array Slot) (lv : List (Option Value)) : Prop := ls.size = nL ∧ lv_wf ls ∧ lv.length = nL ∧ ∀ (i : Nat) (v : Value), lv[i]? = some (some v) → ls[i]? = some (.val v) ∧ v.category = 1
def VV (p : Program) (l : Launch) (e : Env) (R : Room) (s : State) (m : MethodId) (args : Array Value) (below : List Frame) (meth : Method) (c : Code) (Q : State → Prop) (x : Sh) (nL : Nat) (a b : Mem) (o : Out) (cells slots pc : Nat) (lv : List (Option Value)) (st : List Value) : Prop :=
  ∀ (H : Heap) (locs : List Loc) (ls : Array Slot), va_P x.1 vwCl (wd x a b o) H → va_S (AW x s.heap.size) s.heap H locs → LV nL ls lv → W p l e R s m args below meth c H locs cells slots Q (F0 m pc ls st)
/-- locals behind a store -/
theorem LV.store {nL : Nat} {ls : Array Slot} {lv : List (Option Value)} {i : Nat} {v : Value} (h : LV nL ls lv) (hi : i < nL) (hv : v.category = 1) : ∃ ls', storeLocals ls i v = some ls' ∧ LV nL ls' (lv.set i (some v)) := by
  obtain ⟨h1, h2, h3, h4⟩ := h
  have key : ∀ lw : List (Nat × Value), lv_has ls nL lw → ∃ ls', storeLocals ls i v = some ls' ∧ lv_has ls' nL ((i, v) :: lw.filter (fun q => !(q.1 == i) && !(q.1 + 1 == i && q.2.category == 2))) := fun lw hh => lv_store1 hh hi hv
  obtain ⟨ls0, e0, f0⟩ := key [] ⟨h1, h2, fun q hq => by cases hq⟩
  refine ⟨ls0, e0, f0.1, f0.2.1, by rw [List.length_set]; exact h3, fun j w hj => ?_⟩
  by_cases hji : j = i
  · subst hji
    rw [List.getElem?_set_self (by omega)] at hj
    cases hj
    exact ⟨f0.2.2 (j, v) List.mem_cons_self, hv⟩
  · rw [List.getElem?_set_ne (Ne.symm hji)] at hj
    obtain ⟨g1, g2⟩ := h4 j w hj
    obtain ⟨ls1, e1, f1⟩ := key [(j, w)] ⟨h1, h2, fun q hq => by rw [List.mem_singleton.mp hq]; exact g1⟩
    cases e0.symm.trans e1
    refine ⟨f1.2.2 (j, w) (List.mem_cons_of_mem _ (List.mem_filter.mpr ⟨List.mem_singleton.mpr rfl, ?_⟩)), g2⟩
    simp [hji, g2]
/-- fewer locals known -/
def lvLe (lv' lv : List (Option Value)) : Prop := lv'.length = lv.length ∧ ∀ (i : Nat) (v : Value), lv'[i]? = some (some v) → lv[i]? = some (some v)
theorem lvLe.nil : lvLe [] [] := ⟨rfl, fun i v h => h⟩
theorem lvLe.same {v : Option Value} {l' l : List (Option Value)} (h : lvLe l' l) : lvLe (v :: l') (v :: l) := by
  refine ⟨by simp [h.1], fun i w hi => ?_⟩
  cases i with
  | zero => exact hi
  | succ i => exact h.2 i w (by simpa using hi)
theorem lvLe.drop {v : Option Value} {l' l : List (Option Value)} (h : lvLe l' l) : lvLe (none :: l') (v :: l) := by
  refine ⟨by simp [h.1], fun i w hi => ?_⟩
  cases i with
  | zero => simp at hi
  | succ i => exact h.2 i w (by simpa using hi)
section VVR
variable {p : Program} {l : Launch} {e : Env} {R : Room} {s : State} {m : MethodId} {args : Array Value} {below : List Frame} {meth : Method} {c : Code} {Q : State → Prop} {x : Sh} {nL : Nat} {a b : Mem} {o : Out} {cells slots pc : Nat} {lv : List (Option Value)} {st : List Value} {cc : ByteArray} {own : String}
theorem V_forget {lv' : List (Option Value)} (h : lvLe lv' lv) (k : VV p l e R s m args below meth c Q x nL a b o cells slots pc lv' st) : VV p l e R s m args below meth c Q x nL a b o cells slots pc lv st :=
  fun H locs ls hP hS hL => k H locs ls hP hS ⟨hL.1, hL.2.1, by rw [h.1]; exact hL.2.2.1, fun i v hi => hL.2.2.2 i v (h.2 i v hi)⟩
theorem V_widen {k n : Nat} (h1 : cells ≤ k) (h2 : slots ≤ n) (kk : VV p l e R s m args below meth c Q x nL a b o k n pc lv st) : VV p l e R s m args below meth c Q x nL a b o cells slots pc lv st :=
  fun H locs ls hP hS hL => W.widen h1 h2 (kk H locs ls hP hS hL)
theorem V_eqs {st' : List Value} (h : st = st') (kk : VV p l e R s m args below meth c Q x nL a b o cells slots pc lv st') : VV p l e R s m args below meth c Q x nL a b o cells slots pc lv st := h ▸ kk
theorem V_eqa {a' b' : Mem} (h : a = a') (h2 : b = b') (kk : VV p l e R s m args below meth c Q x nL a' b' o cells slots pc lv st) : VV p l e R s m args below meth c Q x nL a b o cells slots pc lv st := by
  subst h; subst h2; exact kk
theorem V_topi {v w : Int32} (h : v = w) (kk : VV p l e R s m args below meth c Q x nL a b o cells slots pc lv (.int w :: st)) : VV p l e R s m args below meth c Q x nL a b o cells slots pc lv (.int v :: st) := h ▸ kk
theorem V_iconst (C : CX p l s m meth c x cc own nL) {n : Int} {v : Int32} (hd : decode cc pc = .ok (.iconst n, 1)) (hv : Int32.ofInt n = v) (kk : VV p l e R s m args below meth c Q x nL a b o cells slots (pc + 1) lv (.int v :: st)) : VV p l e R s m args below meth c Q x nL a b o cells slots pc lv (st) := fun H locs ls hP hS hL => lv_iconst C.1 C.2.1 hd hv (kk H locs ls hP hS hL)
theorem V_bipush (C : CX p l s m meth c x cc own nL) {n : Int} {v : Int32} (hd : decode cc pc = .ok (.bipush n, 2)) (hv : (Int8.ofInt n).toInt32 = v) (kk : VV p l e R s m args below meth c Q x nL a b o cells slots (pc + 2) lv (.int v :: st)) : VV p l e R s m args below meth c Q x nL a b o cells slots pc lv (st) := fun H locs ls hP hS hL => lv_bipush C.1 C.2.1 hd hv (kk H locs ls hP hS hL)
theorem V_sipush (C : CX p l s m meth c x cc own nL) {n : Int} {v : Int32} (hd : decode cc pc = .ok (.sipush n, 3)) (hv : (Int16.ofInt n).toInt32 = v) (kk : VV p l e R s m args below meth c Q x nL a b o cells slots (pc + 3) lv (.int v :: st)) : VV p l e R s m args below meth c Q x nL a b o cells slots pc lv (st) := fun H locs ls hP hS hL => lv_sipush C.1 C.2.1 hd hv (kk H locs ls hP hS hL)
theorem V_lconst (C : CX p l s m meth c x cc own nL) {n : Fin 2} {v : Int64} (hd : decode cc pc = .ok (.lconst n, 1)) (hv : Int64.ofNat (n : Nat) = v) (kk : VV p l e R s m args below meth c Q x nL a b o cells slots (pc + 1) lv (.long v :: st)) : VV p l e R s m args below meth c Q x nL a b o cells slots pc lv (st) := fun H locs ls hP hS hL => lv_lconst C.1 C.2.1 hd hv (kk H locs ls hP hS hL)
theorem V_iadd (C : CX p l s m meth c x cc own nL) {y1 y2 : Int32} (hd : decode cc pc = .ok (.iadd, 1))  (kk : VV p l e R s m args below meth c Q x nL a b o cells slots (pc + 1) lv (.int (y1 + y2) :: st)) : VV p l e R s m args below meth c Q x nL a b o cells slots pc lv (.int y2 :: .int y1 :: st) := fun H locs ls hP hS hL => lv_iadd C.1 C.2.1 hd  (kk H locs ls hP hS hL)
theorem V_isub (C : CX p l s m meth c x cc own nL) {y1 y2 : Int32} (hd : decode cc pc = .ok (.isub, 1))  (kk : VV p l e R s m args below meth c Q x nL a b o cells slots (pc + 1) lv (.int (y1 - y2) :: st)) : VV p l e R s m args below meth c Q x nL a b o cells slots pc lv (.int y2 :: .int y1 :: st) := fun H locs ls hP hS hL => lv_isub C.1 C.2.1 hd  (kk H locs ls hP hS hL)
theorem V_imul (C : CX p l s m meth c x cc own nL) {y1 y2 : Int32} (hd : decode cc pc = .ok (.imul, 1))  (kk : VV p l e R s m args below meth c Q x nL a b o cells slots (pc + 1) lv (.int (y1 * y2) :: st)) : VV p l e R s m args below meth c Q x nL a b o cells slots pc lv (.int y2 :: .int y1 :: st) := fun H locs ls hP hS hL => lv_imul C.1 C.2.1 hd  (kk H locs ls hP hS hL)
theorem V_iand (C : CX p l s m meth c x cc own nL) {y1 y2 : Int32} (hd : decode cc pc = .ok (.iand, 1))  (kk : VV p l e R s m args below meth c Q x nL a b o cells slots (pc + 1) lv (.int (y1 &&& y2) :: st)) : VV p l e R s m args below meth c Q x nL a b o cells slots pc lv (.int y2 :: .int y1 :: st) := fun H locs ls hP hS hL => lv_iand C.1 C.2.1 hd  (kk H locs ls hP hS hL)
theorem V_ior (C : CX p l s m meth c x cc own nL) {y1 y2 : Int32} (hd : decode cc pc = .ok (.ior, 1))  (kk : VV p l e R s m args below meth c Q x nL a b o cells slots (pc + 1) lv (.int (y1 ||| y2) :: st)) : VV p l e R s m args below meth c Q x nL a b o cells slots pc lv (.int y2 :: .int y1 :: st) := fun H locs ls hP hS hL => lv_ior C.1 C.2.1 hd  (kk H locs ls hP hS hL)
theorem V_ishl (C : CX p l s m meth c x cc own nL) {y1 y2 : Int32} (hd : decode cc pc = .ok (.ishl, 1))  (kk : VV p l e R s m args below meth c Q x nL a b o cells slots (pc + 1) lv (.int (y1 <<< (y2 &&& 31)) :: st)) : VV p l e R s m args below meth c Q x nL a b o cells slots pc lv (.int y2 :: .int y1 :: st) := fun H locs ls hP hS hL => lv_ishl C.1 C.2.1 hd  (kk H locs ls hP hS hL)
theorem V_idiv (C : CX p l s m meth c x cc own nL) {y1 y2 : Int32} (hd : decode cc pc = .ok (.idiv, 1)) (hne : ¬ y2 = 0) (kk : VV p l e R s m args below meth c Q x nL a b o cells slots (pc + 1) lv (.int (y1 / y2) :: st)) : VV p l e R s m args below meth c Q x nL a b o cells slots pc lv (.int y2 :: .int y1 :: st) := fun H locs ls hP hS hL => lv_idiv C.1 C.2.1 hd hne (kk H locs ls hP hS hL)
theorem V_irem (C : CX p l s m meth c x cc own nL) {y1 y2 : Int32} (hd : decode cc pc = .ok (.irem, 1)) (hne : ¬ y2 = 0) (kk : VV p l e R s m args below meth c Q x nL a b o cells slots (pc + 1) lv (.int (y1 - y1 / y2 * y2) :: st)) : VV p l e R s m args below meth c Q x nL a b o cells slots pc lv (.int y2 :: .int y1 :: st) := fun H locs ls hP hS hL => lv_irem C.1 C.2.1 hd hne (kk H locs ls hP hS hL)
theorem V_i2l (C : CX p l s m meth c x cc own nL) {y : Int32} {v : Int64} (hd : decode cc pc = .ok (.i2l, 1)) (hv : y.toInt64 = v) (kk : VV p l e R s m args below meth c Q x nL a b o cells slots (pc + 1) lv (.long v :: st)) : VV p l e R s m args below meth c Q x nL a b o cells slots pc lv (.int y :: st) := fun H locs ls hP hS hL => lv_i2l C.1 C.2.1 hd hv (kk H locs ls hP hS hL)
theorem V_i2c (C : CX p l s m meth c x cc own nL) {y : Int32} {v : Int32} (hd : decode cc pc = .ok (.i2c, 1)) (hv : (y.toUInt32 % 65536).toInt32 = v) (kk : VV p l e R s m args below meth c Q x nL a b o cells slots (pc + 1) lv (.int v :: st)) : VV p l e R s m args below meth c Q x nL a b o cells slots pc lv (.int y :: st) := fun H locs ls hP hS hL => lv_i2c C.1 C.2.1 hd hv (kk H locs ls hP hS hL)
theorem V_i2f (C : CX p l s m meth c x cc own nL) {y : Int32} (hd : decode cc pc = .ok (.i2f, 1))  (kk : VV p l e R s m args below meth c Q x nL a b o cells slots (pc + 1) lv (.float (FP.i2f y) :: st)) : VV p l e R s m args below meth c Q x nL a b o cells slots pc lv (.int y :: st) := fun H locs ls hP hS hL => lv_i2f C.1 C.2.1 hd  (kk H locs ls hP hS hL)
theorem V_i2d (C : CX p l s m meth c x cc own nL) {y : Int32} (hd : decode cc pc = .ok (.i2d, 1))  (kk : VV p l e R s m args below meth c Q x nL a b o cells slots (pc + 1) lv (.double (FP.i2d y) :: st)) : VV p l e R s m args below meth c Q x nL a b o cells slots pc lv (.int y :: st) := fun H locs ls hP hS hL => lv_i2d C.1 C.2.1 hd  (kk H locs ls hP hS hL)
theorem V_lcmp (C : CX p l s m meth c x cc own nL) {y1 y2 : Int64} (hd : decode cc pc = .ok (.lcmp, 1))  (kk : VV p l e R s m args below meth c Q x nL a b o cells slots (pc + 1) lv (.int (lg_cmp y1 y2) :: st)) : VV p l e R s m args below meth c Q x nL a b o cells slots pc lv (.long y2 :: .long y1 :: st) := fun H locs ls hP hS hL => W.lcmp C.1 C.2.1 hd  (kk H locs ls hP hS hL)
theorem V_dup (C : CX p l s m meth c x cc own nL) {v : Value} (hd : decode cc pc = .ok (.dup, 1)) (hv : v.category = 1) (kk : VV p l e R s m args below meth c Q x nL a b o cells slots (pc + 1) lv (v :: v :: st)) : VV p l e R s m args below meth c Q x nL a b o cells slots pc lv (v :: st) := fun H locs ls hP hS hL => lv_dup C.1 C.2.1 hd hv (kk H locs ls hP hS hL)
theorem V_dup2 (C : CX p l s m meth c x cc own nL) {v w : Value} (hd : decode cc pc = .ok (.dup2, 1)) (hv : v.category = 1) (hw : w.category = 1) (kk : VV p l e R s m args below meth c Q x nL a b o cells slots (pc + 1) lv (v :: w :: v :: w :: st)) : VV p l e R s m args below meth c Q x nL a b o cells slots pc lv (v :: w :: st) := fun H locs ls hP hS hL => lv_dup2_11 C.1 C.2.1 hd hv hw (kk H locs ls hP hS hL)
theorem V_iload_n (C : CX p l s m meth c x cc own nL) {k : Fin 4} {y : Int32} (hd : decode cc pc = .ok (.iload_n k, 1)) (hl : lv[(k : Nat)]? = some (some (.int y))) (kk : VV p l e R s m args below meth c Q x nL a b o cells slots (pc + 1) lv (.int y :: st)) : VV p l e R s m args below meth c Q x nL a b o cells slots pc lv st := fun H locs ls hP hS hL => lv_iload_n C.1 C.2.1 hd rfl (hL.2.2.2 _ _ hl).1 (kk H locs ls hP hS hL)
theorem V_iload (C : CX p l s m meth c x cc own nL) {k : Nat} {y : Int32} (hd : decode cc pc = .ok (.iload k, 2)) (hl : lv[k]? = some (some (.int y))) (kk : VV p l e R s m args below meth c Q x nL a b o cells slots (pc + 2) lv (.int y :: st)) : VV p l e R s m args below meth c Q x nL a b o cells slots pc lv st := fun H locs ls hP hS hL => lv_iload C.1 C.2.1 hd (hL.2.2.2 _ _ hl).1 (kk H locs ls hP hS hL)
theorem V_aload_n (C : CX p l s m meth c x cc own nL) {k : Fin 4} {y : Nat} (hd : decode cc pc = .ok (.aload_n k, 1)) (hl : lv[(k : Nat)]? = some (some (.ref y))) (kk : VV p l e R s m args below meth c Q x nL a b o cells slots (pc + 1) lv (.ref y :: st)) : VV p l e R s m args below meth c Q x nL a b o cells slots pc lv st := fun H locs ls hP hS hL => lv_aload_n C.1 C.2.1 hd rfl (hL.2.2.2 _ _ hl).1 (kk H locs ls hP hS hL)
theorem V_aload (C : CX p l s m meth c x cc own nL) {k : Nat} {y : Nat} (hd : decode cc pc = .ok (.aload k, 2)) (hl : lv[k]? = some (some (.ref y))) (kk : VV p l e R s m args below meth c Q x nL a b o cells slots (pc + 2) lv (.ref y :: st)) : VV p l e R s m args below meth c Q x nL a b o cells slots pc lv st := fun H locs ls hP hS hL => lv_aload C.1 C.2.1 hd (hL.2.2.2 _ _ hl).1 (kk H locs ls hP hS hL)
theorem V_istore_ng (C : CX p l s m meth c x cc own nL) {k : Fin 4} {y : Int32} (hd : decode cc pc = .ok (.istore_n k, 1)) (hn : (k : Nat) < nL) (kk : VV p l e R s m args below meth c Q x nL a b o cells slots (pc + 1) (lv.set (k : Nat) (some (.int y))) st) : VV p l e R s m args below meth c Q x nL a b o cells slots pc lv (.int y :: st) := by
  intro H locs ls hP hS hL
  obtain ⟨ls', e', h'⟩ := hL.store (v := .int y) hn rfl
  obtain ⟨hx, hb, -⟩ := id C
  intro T hT X
  obtain ⟨t, a1, b1⟩ := kk H locs ls' hP hS h' T hT X
  refine ⟨t, ?_, b1⟩
  jvm_step X.here [X.here.top, hx, hb, hd, e', Value.isRef]
  exact a1
theorem V_istore_g (C : CX p l s m meth c x cc own nL) {k : Nat} {y : Int32} (hd : decode cc pc = .ok (.istore k, 2)) (hn : k < nL) (kk : VV p l e R s m args below meth c Q x nL a b o cells slots (pc + 2) (lv.set k (some (.int y))) st) : VV p l e R s m args below meth c Q x nL a b o cells slots pc lv (.int y :: st) := by
  intro H locs ls hP hS hL
  obtain ⟨ls', e', h'⟩ := hL.store (v := .int y) hn rfl
  obtain ⟨hx, hb, -⟩ := id C
  intro T hT X
  obtain ⟨t, a1, b1⟩ := kk H locs ls' hP hS h' T hT X
  refine ⟨t, ?_, b1⟩
  jvm_step X.here [X.here.top, hx, hb, hd, e', Value.isRef]
  exact a1
theorem V_astore_ng (C : CX p l s m meth c x cc own nL) {k : Fin 4} {y : Nat} (hd : decode cc pc = .ok (.astore_n k, 1)) (hn : (k : Nat) < nL) (kk : VV p l e R s m args below meth c Q x nL a b o cells slots (pc + 1) (lv.set (k : Nat) (some (.ref y))) st) : VV p l e R s m args below meth c Q x nL a b o cells slots pc lv (.ref y :: st) := by
  intro H locs ls hP hS hL
  obtain ⟨ls', e', h'⟩ := hL.store (v := .ref y) hn rfl
  obtain ⟨hx, hb, -⟩ := id C
  intro T hT X
  obtain ⟨t, a1, b1⟩ := kk H locs ls' hP hS h' T hT X
  refine ⟨t, ?_, b1⟩
  jvm_step X.here [X.here.top, hx, hb, hd, e', Value.isRef]
  exact a1
theorem V_astore_g (C : CX p l s m meth c x cc own nL) {k : Nat} {y : Nat} (hd : decode cc pc = .ok (.astore k, 2)) (hn : k < nL) (kk : VV p l e R s m args below meth c Q x nL a b o cells slots (pc + 2) (lv.set k (some (.ref y))) st) : VV p l e R s m args below meth c Q x nL a b o cells slots pc lv (.ref y :: st) := by
  intro H locs ls hP hS hL
  obtain ⟨ls', e', h'⟩ := hL.store (v := .ref y) hn rfl
  obtain ⟨hx, hb, -⟩ := id C
  intro T hT X
  obtain ⟨t, a1, b1⟩ := kk H locs ls' hP hS h' T hT X
  refine ⟨t, ?_, b1⟩
  jvm_step X.here [X.here.top, hx, hb, hd, e', Value.isRef]
  exact a1
theorem V_iinc_g (C : CX p l s m meth c x cc own nL) {k : Nat} {n : Int} {y v : Int32} (hd : decode cc pc = .ok (.iinc k n, 3)) (hl : lv[k]? = some (some (.int y))) (hv : y + Int32.ofInt n = v) (hn : k < nL) (kk : VV p l e R s m args below meth c Q x nL a b o cells slots (pc + 3) (lv.set k (some (.int v))) st) : VV p l e R s m args below meth c Q x nL a b o cells slots pc lv st := by
  intro H locs ls hP hS hL
  obtain ⟨ls', e', h'⟩ := hL.store (v := .int v) hn rfl
  obtain ⟨hx, hb, -⟩ := id C
  have hg := (hL.2.2.2 _ _ hl).1
  subst hv
  intro T hT X
  obtain ⟨t, a1, b1⟩ := kk H locs ls' hP hS h' T hT X
  refine ⟨t, ?_, b1⟩
  jvm_step X.here [X.here.top, hx, hb, hd, hg, e']
  exact a1
theorem V_istore_n0 (C : CX p l s m meth c x cc own nL) {v0 : Option Value} {rl : List (Option Value)} {y : Int32} (hd : decode cc pc = .ok (.istore_n 0, 1)) (hn : 0 < nL) (kk : VV p l e R s m args below meth c Q x nL a b o cells slots (pc + 1) (some (.int y) :: rl) st) : VV p l e R s m args below meth c Q x nL a b o cells slots pc (v0 :: rl) (.int y :: st) := V_istore_ng C hd hn kk
theorem V_astore_n0 (C : CX p l s m meth c x cc own nL) {v0 : Option Value} {rl : List (Option Value)} {y : Nat} (hd : decode cc pc = .ok (.astore_n 0, 1)) (hn : 0 < nL) (kk : VV p l e R s m args below meth c Q x nL a b o cells slots (pc + 1) (some (.ref y) :: rl) st) : VV p l e R s m args below meth c Q x nL a b o cells slots pc (v0 :: rl) (.ref y :: st) := V_astore_ng C hd hn kk
theorem V_iinc_0 (C : CX p l s m meth c x cc own nL) {rl : List (Option Value)} {n : Int} {y : Int32} (v : Int32) (hd : decode cc pc = .ok (.iinc 0 n, 3)) (hv : y + Int32.ofInt n = v) (hn : 0 < nL) (kk : VV p l e R s m args below meth c Q x nL a b o cells slots (pc + 3) (some (.int v) :: rl) st) : VV p l e R s m args below meth c Q x nL a b o cells slots pc (some (.int y) :: rl) st := V_iinc_g C hd (by rfl) hv hn kk
theorem V_istore_n1 (C : CX p l s m meth c x cc own nL) {v0 : Option Value} {v1 : Option Value} {rl : List (Option Value)} {y : Int32} (hd : decode cc pc = .ok (.istore_n 1, 1)) (hn : 1 < nL) (kk : VV p l e R s m args below meth c Q x nL a b o cells slots (pc + 1) (v0 :: some (.int y) :: rl) st) : VV p l e R s m args below meth c Q x nL a b o cells slots pc (v0 :: v1 :: rl) (.int y :: st) := V_istore_ng C hd hn kk
theorem V_astore_n1 (C : CX p l s m meth c x cc own nL) {v0 : Option Value} {v1 : Option Value} {rl : List (Option Value)} {y : Nat} (hd : decode cc pc = .ok (.astore_n 1, 1)) (hn : 1 < nL) (kk : VV p l e R s m args below meth c Q x nL a b o cells slots (pc + 1) (v0 :: some (.ref y) :: rl) st) : VV p l e R s m args below meth c Q x nL a b o cells slots pc (v0 :: v1 :: rl) (.ref y :: st) := V_astore_ng C hd hn kk
theorem V_iinc_1 (C : CX p l s m meth c x cc own nL) {v0 : Option Value} {rl : List (Option Value)} {n : Int} {y : Int32} (v : Int32) (hd : decode cc pc = .ok (.iinc 1 n, 3)) (hv : y + Int32.ofInt n = v) (hn : 1 < nL) (kk : VV p l e R s m args below meth c Q x nL a b o cells slots (pc + 3) (v0 :: some (.int v) :: rl) st) : VV p l e R s m args below meth c Q x nL a b o cells slots pc (v0 :: some (.int y) :: rl) st := V_iinc_g C hd (by rfl) hv hn kk
theorem V_istore_n2 (C : CX p l s m meth c x cc own nL) {v0 : Option Value} {v1 : Option Value} {v2 : Option Value} {rl : List (Option Value)} {y : Int32} (hd : decode cc pc = .ok (.istore_n 2, 1)) (hn : 2 < nL) (kk : VV p l e R s m args below meth c Q x nL a b o cells slots (pc + 1) (v0 :: v1 :: some (.int y) :: rl) st) : VV p l e R s m args below meth c Q x nL a b o cells slots pc (v0 :: v1 :: v2 :: rl) (.int y :: st) := V_istore_ng C hd hn kk
theorem V_astore_n2 (C : CX p l s m meth c x cc own nL) {v0 : Option Value} {v1 : Option Value} {v2 : Option Value} {rl : List (Option Value)} {y : Nat} (hd : decode cc pc = .ok (.astore_n 2, 1)) (hn : 2 < nL) (kk : VV p l e R s m args below meth c Q x nL a b o cells slots (pc + 1) (v0 :: v1 :: some (.ref y) :: rl) st) : VV p l e R s m args below meth c Q x nL a b o cells slots pc (v0 :: v1 :: v2 :: rl) (.ref y :: st) := V_astore_ng C hd hn kk
theorem V_iinc_2 (C : CX p l s m meth c x cc own nL) {v0 : Option Value} {v1 : Option Value} {rl : List (Option Value)} {n : Int} {y : Int32} (v : Int32) (hd : decode cc pc = .ok (.iinc 2 n, 3)) (hv : y + Int32.ofInt n = v) (hn : 2 < nL) (kk : VV p l e R s m args below meth c Q x nL a b o cells slots (pc + 3) (v0 :: v1 :: some (.int v) :: rl) st) : VV p l e R s m args below meth c Q x nL a b o cells slots pc (v0 :: v1 :: some (.int y) :: rl) st := V_iinc_g C hd (by rfl) hv hn kk
theorem V_istore_n3 (C : CX p l s m meth c x cc own nL) {v0 : Option Value} {v1 : Option Value} {v2 : Option Value} {v3 : Option Value} {rl : List (Option Value)} {y : Int32} (hd : decode cc pc = .ok (.istore_n 3, 1)) (hn : 3 < nL) (kk : VV p l e R s m args below meth c Q x nL a b o cells slots (pc + 1) (v0 :: v1 :: v2 :: some (.int y) :: rl) st) : VV p l e R s m args below meth c Q x nL a b o cells slots pc (v0 :: v1 :: v2 :: v3 :: rl) (.int y :: st) := V_istore_ng C hd hn kk
theorem V_astore_n3 (C : CX p l s m meth c x cc own nL) {v0 : Option Value} {v1 : Option Value} {v2 : Option Value} {v3 : Option Value} {rl : List (Option Value)} {y : Nat} (hd : decode cc pc = .ok (.astore_n 3, 1)) (hn : 3 < nL) (kk : VV p l e R s m args below meth c Q x nL a b o cells slots (pc + 1) (v0 :: v1 :: v2 :: some (.ref y) :: rl) st) : VV p l e R s m args below meth c Q x nL a b o cells slots pc (v0 :: v1 :: v2 :: v3 :: rl) (.ref y :: st) := V_astore_ng C hd hn kk
theorem V_iinc_3 (C : CX p l s m meth c x cc own nL) {v0 : Option Value} {v1 : Option Value} {v2 : Option Value} {rl : List (Option Value)} {n : Int} {y : Int32} (v : Int32) (hd : decode cc pc = .ok (.iinc 3 n, 3)) (hv : y + Int32.ofInt n = v) (hn : 3 < nL) (kk : VV p l e R s m args below meth c Q x nL a b o cells slots (pc + 3) (v0 :: v1 :: v2 :: some (.int v) :: rl) st) : VV p l e R s m args below meth c Q x nL a b o cells slots pc (v0 :: v1 :: v2 :: some (.int y) :: rl) st := V_iinc_g C hd (by rfl) hv hn kk
theorem V_istore_4 (C : CX p l s m meth c x cc own nL) {v0 : Option Value} {v1 : Option Value} {v2 : Option Value} {v3 : Option Value} {v4 : Option Value} {rl : List (Option Value)} {y : Int32} (hd : decode cc pc = .ok (.istore 4, 2)) (hn : 4 < nL) (kk : VV p l e R s m args below meth c Q x nL a b o cells slots (pc + 2) (v0 :: v1 :: v2 :: v3 :: some (.int y) :: rl) st) : VV p l e R s m args below meth c Q x nL a b o cells slots pc (v0 :: v1 :: v2 :: v3 :: v4 :: rl) (.int y :: st) := V_istore_g C hd hn kk
theorem V_astore_4 (C : CX p l s m meth c x cc own nL) {v0 : Option Value} {v1 : Option Value} {v2 : Option Value} {v3 : Option Value} {v4 : Option Value} {rl : List (Option Value)} {y : Nat} (hd : decode cc pc = .ok (.astore 4, 2)) (hn : 4 < nL) (kk : VV p l e R s m args below meth c Q x nL a b o cells slots (pc + 2) (v0 :: v1 :: v2 :: v3 :: some (.ref y) :: rl) st) : VV p l e R s m args below meth c Q x nL a b o cells slots pc (v0 :: v1 :: v2 :: v3 :: v4 :: rl) (.ref y :: st) := V_astore_g C hd hn kk
theorem V_iinc_4 (C : CX p l s m meth c x cc own nL) {v0 : Option Value} {v1 : Option Value} {v2 : Option Value} {v3 : Option Value} {rl : List (Option Value)} {n : Int} {y : Int32} (v : Int32) (hd : decode cc pc = .ok (.iinc 4 n, 3)) (hv : y + Int32.ofInt n = v) (hn : 4 < nL) (kk : VV p l e R s m args below meth c Q x nL a b o cells slots (pc + 3) (v0 :: v1 :: v2 :: v3 :: some (.int v) :: rl) st) : VV p l e R s m args below meth c Q x nL a b o cells slots pc (v0 :: v1 :: v2 :: v3 :: some (.int y) :: rl) st := V_iinc_g C hd (by rfl) hv hn kk
theorem V_istore_5 (C : CX p l s m meth c x cc own nL) {v0 : Option Value} {v1 : Option Value} {v2 : Option Value} {v3 : Option Value} {v4 : Option Value} {v5 : Option Value} {rl : List (Option Value)} {y : Int32} (hd : decode cc pc = .ok (.istore 5, 2)) (hn : 5 < nL) (kk : VV p l e R s m args below meth c Q x nL a b o cells slots (pc + 2) (v0 :: v1 :: v2 :: v3 :: v4 :: some (.int y) :: rl) st) : VV p l e R s m args below meth c Q x nL a b o cells slots pc (v0 :: v1 :: v2 :: v3 :: v4 :: v5 :: rl) (.int y :: st) := V_istore_g C hd hn kk
theorem V_astore_5 (C : CX p l s m meth c x cc own nL) {v0 : Option Value} {v1 : Option Value} {v2 : Option Value} {v3 : Option Value} {v4 : Option Value} {v5 : Option Value} {rl : List (Option Value)} {y : Nat} (hd : decode cc pc = .ok (.astore 5, 2)) (hn : 5 < nL) (kk : VV p l e R s m args below meth c Q x nL a b o cells slots (pc + 2) (v0 :: v1 :: v2 :: v3 :: v4 :: some (.ref y) :: rl) st) : VV p l e R s m args below meth c Q x nL a b o cells slots pc (v0 :: v1 :: v2 :: v3 :: v4 :: v5 :: rl) (.ref y :: st) := V_astore_g C hd hn kk
theorem V_iinc_5 (C : CX p l s m meth c x cc own nL) {v0 : Option Value} {v1 : Option Value} {v2 : Option Value} {v3 : Option Value} {v4 : Option Value} {rl : List (Option Value)} {n : Int} {y : Int32} (v : Int32) (hd : decode cc pc = .ok (.iinc 5 n, 3)) (hv : y + Int32.ofInt n = v) (hn : 5 < nL) (kk : VV p l e R s m args below meth c Q x nL a b o cells slots (pc + 3) (v0 :: v1 :: v2 :: v3 :: v4 :: some (.int v) :: rl) st) : VV p l e R s m args below meth c Q x nL a b o cells slots pc (v0 :: v1 :: v2 :: v3 :: v4 :: some (.int y) :: rl) st := V_iinc_g C hd (by rfl) hv hn kk
theorem V_istore_6 (C : CX p l s m meth c x cc own nL) {v0 : Option Value} {v1 : Option Value} {v2 : Option Value} {v3 : Option Value} {v4 : Option Value} {v5 : Option Value} {v6 : Option Value} {rl : List (Option Value)} {y : Int32} (hd : decode cc pc = .ok (.istore 6, 2)) (hn : 6 < nL) (kk : VV p l e R s m args below meth c Q x nL a b o cells slots (pc + 2) (v0 :: v1 :: v2 :: v3 :: v4 :: v5 :: some (.int y) :: rl) st) : VV p l e R s m args below meth c Q x nL a b o cells slots pc (v0 :: v1 :: v2 :: v3 :: v4 :: v5 :: v6 :: rl) (.int y :: st) := V_istore_g C hd hn kk
theorem V_astore_6 (C : CX p l s m meth c x cc own nL) {v0 : Option Value} {v1 : Option Value} {v2 : Option Value} {v3 : Option Value} {v4 : Option Value} {v5 : Option Value} {v6 : Option Value} {rl : List (Option Value)} {y : Nat} (hd : decode cc pc = .ok (.astore 6, 2)) (hn : 6 < nL) (kk : VV p l e R s m args below meth c Q x nL a b o cells slots (pc + 2) (v0 :: v1 :: v2 :: v3 :: v4 :: v5 :: some (.ref y) :: rl) st) : VV p l e R s m args below meth c Q x nL a b o cells slots pc (v0 :: v1 :: v2 :: v3 :: v4 :: v5 :: v6 :: rl) (.ref y :: st) := V_astore_g C hd hn kk
theorem V_iinc_6 (C : CX p l s m meth c x cc own nL) {v0 : Option Value} {v1 : Option Value} {v2 : Option Value} {v3 : Option Value} {v4 : Option Value} {v5 : Option Value} {rl : List (Option Value)} {n : Int} {y : Int32} (v : Int32) (hd : decode cc pc = .ok (.iinc 6 n, 3)) (hv : y + Int32.ofInt n = v) (hn : 6 < nL) (kk : VV p l e R s m args below meth c Q x nL a b o cells slots (pc + 3) (v0 :: v1 :: v2 :: v3 :: v4 :: v5 :: some (.int v) :: rl) st) : VV p l e R s m args below meth c Q x nL a b o cells slots pc (v0 :: v1 :: v2 :: v3 :: v4 :: v5 :: some (.int y) :: rl) st := V_iinc_g C hd (by rfl) hv hn kk
theorem V_istore_7 (C : CX p l s m meth c x cc own nL) {v0 : Option Value} {v1 : Option Value} {v2 : Option Value} {v3 : Option Value} {v4 : Option Value} {v5 : Option Value} {v6 : Option Value} {v7 : Option Value} {rl : List (Option Value)} {y : Int32} (hd : decode cc pc = .ok (.istore 7, 2)) (hn : 7 < nL) (kk : VV p l e R s m args below meth c Q x nL a b o cells slots (pc + 2) (v0 :: v1 :: v2 :: v3 :: v4 :: v5 :: v6 :: some (.int y) :: rl) st) : VV p l e R s m args below meth c Q x nL a b o cells slots pc (v0 :: v1 :: v2 :: v3 :: v4 :: v5 :: v6 :: v7 :: rl) (.int y :: st) := V_istore_g C hd hn kk
theorem V_astore_7 (C : CX p l s m meth c x cc own nL) {v0 : Option Value} {v1 : Option Value} {v2 : Option Value} {v3 : Option Value} {v4 : Option Value} {v5 : Option Value} {v6 : Option Value} {v7 : Option Value} {rl : List (Option Value)} {y : Nat} (hd : decode cc pc = .ok (.astore 7, 2)) (hn : 7 < nL) (kk : VV p l e R s m args below meth c Q x nL a b o cells slots (pc + 2) (v0 :: v1 :: v2 :: v3 :: v4 :: v5 :: v6 :: some (.ref y) :: rl) st) : VV p l e R s m args below meth c Q x nL a b o cells slots pc (v0 :: v1 :: v2 :: v3 :: v4 :: v5 :: v6 :: v7 :: rl) (.ref y :: st) := V_astore_g C hd hn kk
theorem V_iinc_7 (C : CX p l s m meth c x cc own nL) {v0 : Option Value} {v1 : Option Value} {v2 : Option Value} {v3 : Option Value} {v4 : Option Value} {v5 : Option Value} {v6 : Option Value} {rl : List (Option Value)} {n : Int} {y : Int32} (v : Int32) (hd : decode cc pc = .ok (.iinc 7 n, 3)) (hv : y + Int32.ofInt n = v) (hn : 7 < nL) (kk : VV p l e R s m args below meth c Q x nL a b o cells slots (pc + 3) (v0 :: v1 :: v2 :: v3 :: v4 :: v5 :: v6 :: some (.int v) :: rl) st) : VV p l e R s m args below meth c Q x nL a b o cells slots pc (v0 :: v1 :: v2 :: v3 :: v4 :: v5 :: v6 :: some (.int y) :: rl) st := V_iinc_g C hd (by rfl) hv hn kk
theorem V_istore_8 (C : CX p l s m meth c x cc own nL) {v0 : Option Value} {v1 : Option Value} {v2 : Option Value} {v3 : Option Value} {v4 : Option Value} {v5 : Option Value} {v6 : Option Value} {v7 : Option Value} {v8 : Option Value} {rl : List (Option Value)} {y : Int32} (hd : decode cc pc = .ok (.istore 8, 2)) (hn : 8 < nL) (kk : VV p l e R s m args below meth c Q x nL a b o cells slots (pc + 2) (v0 :: v1 :: v2 :: v3 :: v4 :: v5 :: v6 :: v7 :: some (.int y) :: rl) st) : VV p l e R s m args below meth c Q x nL a b o cells slots pc (v0 :: v1 :: v2 :: v3 :: v4 :: v5 :: v6 :: v7 :: v8 :: rl) (.int y :: st) := V_istore_g C hd hn kk
theorem V_astore_8 (C : CX p l s m meth c x cc own nL) {v0 : Option Value} {v1 : Option Value} {v2 : Option Value} {v3 : Option Value} {v4 : Option Value} {v5 : Option Value} {v6 : Option Value} {v7 : Option Value} {v8 : Option Value} {rl : List (Option Value)} {y : Nat} (hd : decode cc pc = .ok (.astore 8, 2)) (hn : 8 < nL) (kk : VV p l e R s m args below meth c Q x nL a b o cells slots (pc + 2) (v0 :: v1 :: v2 :: v3 :: v4 :: v5 :: v6 :: v7 :: some (.ref y) :: rl) st) : VV p l e R s m args below meth c Q x nL a b o cells slots pc (v0 :: v1 :: v2 :: v3 :: v4 :: v5 :: v6 :: v7 :: v8 :: rl) (.ref y :: st) := V_astore_g C hd hn kk
theorem V_iinc_8 (C : CX p l s m meth c x cc own nL) {v0 : Option Value} {v1 : Option Value} {v2 : Option Value} {v3 : Option Value} {v4 : Option Value} {v5 : Option Value} {v6 : Option Value} {v7 : Option Value} {rl : List (Option Value)} {n : Int} {y : Int32} (v : Int32) (hd : decode cc pc = .ok (.iinc 8 n, 3)) (hv : y + Int32.ofInt n = v) (hn : 8 < nL) (kk : VV p l e R s m args below meth c Q x nL a b o cells slots (pc + 3) (v0 :: v1 :: v2 :: v3 :: v4 :: v5 :: v6 :: v7 :: some (.int v) :: rl) st) : VV p l e R s m args below meth c Q x nL a b o cells slots pc (v0 :: v1 :: v2 :: v3 :: v4 :: v5 :: v6 :: v7 :: some (.int y) :: rl) st := V_iinc_g C hd (by rfl) hv hn kk
theorem V_if_eq (C : CX p l s m meth c x cc own nL) {y1 : Int32} {off : Int} (tgt : Nat) (hd : decode cc pc = .ok (.ifCond .eq off, 3)) (ht : (pc : Int) + off = (tgt : Int)) (kt : y1 = 0 → VV p l e R s m args below meth c Q x nL a b o cells slots tgt lv st) (kf : ¬ y1 = 0 → VV p l e R s m args below meth c Q x nL a b o cells slots (pc + 3) lv st) : VV p l e R s m args below meth c Q x nL a b o cells slots pc lv (.int y1 :: st) := fun H locs ls hP hS hL => lv_if_eq C.1 C.2.1 hd ht (fun h => kt h H locs ls hP hS hL) (fun h => kf h H locs ls hP hS hL)
theorem V_if_ne (C : CX p l s m meth c x cc own nL) {y1 : Int32} {off : Int} (tgt : Nat) (hd : decode cc pc = .ok (.ifCond .ne off, 3)) (ht : (pc : Int) + off = (tgt : Int)) (kt : ¬ y1 = 0 → VV p l e R s m args below meth c Q x nL a b o cells slots tgt lv st) (kf : y1 = 0 → VV p l e R s m args below meth c Q x nL a b o cells slots (pc + 3) lv st) : VV p l e R s m args below meth c Q x nL a b o cells slots pc lv (.int y1 :: st) := fun H locs ls hP hS hL => lv_if_ne C.1 C.2.1 hd ht (fun h => kt h H locs ls hP hS hL) (fun h => kf h H locs ls hP hS hL)
theorem V_if_lt (C : CX p l s m meth c x cc own nL) {y1 : Int32} {off : Int} (tgt : Nat) (hd : decode cc pc = .ok (.ifCond .lt off, 3)) (ht : (pc : Int) + off = (tgt : Int)) (kt : y1 < 0 → VV p l e R s m args below meth c Q x nL a b o cells slots tgt lv st) (kf : ¬ y1 < 0 → VV p l e R s m args below meth c Q x nL a b o cells slots (pc + 3) lv st) : VV p l e R s m args below meth c Q x nL a b o cells slots pc lv (.int y1 :: st) := fun H locs ls hP hS hL => lv_if_lt C.1 C.2.1 hd ht (fun h => kt h H locs ls hP hS hL) (fun h => kf h H locs ls hP hS hL)
theorem V_if_ge (C : CX p l s m meth c x cc own nL) {y1 : Int32} {off : Int} (tgt : Nat) (hd : decode cc pc = .ok (.ifCond .ge off, 3)) (ht : (pc : Int) + off = (tgt : Int)) (kt : 0 ≤ y1 → VV p l e R s m args below meth c Q x nL a b o cells slots tgt lv st) (kf : ¬ 0 ≤ y1 → VV p l e R s m args below meth c Q x nL a b o cells slots (pc + 3) lv st) : VV p l e R s m args below meth c Q x nL a b o cells slots pc lv (.int y1 :: st) := fun H locs ls hP hS hL => lv_if_ge C.1 C.2.1 hd ht (fun h => kt h H locs ls hP hS hL) (fun h => kf h H locs ls hP hS hL)
theorem V_if_gt (C : CX p l s m meth c x cc own nL) {y1 : Int32} {off : Int} (tgt : Nat) (hd : decode cc pc = .ok (.ifCond .gt off, 3)) (ht : (pc : Int) + off = (tgt : Int)) (kt : 0 < y1 → VV p l e R s m args below meth c Q x nL a b o cells slots tgt lv st) (kf : ¬ 0 < y1 → VV p l e R s m args below meth c Q x nL a b o cells slots (pc + 3) lv st) : VV p l e R s m args below meth c Q x nL a b o cells slots pc lv (.int y1 :: st) := fun H locs ls hP hS hL => lv_if_gt C.1 C.2.1 hd ht (fun h => kt h H locs ls hP hS hL) (fun h => kf h H locs ls hP hS hL)
theorem V_if_le (C : CX p l s m meth c x cc own nL) {y1 : Int32} {off : Int} (tgt : Nat) (hd : decode cc pc = .ok (.ifCond .le off, 3)) (ht : (pc : Int) + off = (tgt : Int)) (kt : y1 ≤ 0 → VV p l e R s m args below meth c Q x nL a b o cells slots tgt lv st) (kf : ¬ y1 ≤ 0 → VV p l e R s m args below meth c Q x nL a b o cells slots (pc + 3) lv st) : VV p l e R s m args below meth c Q x nL a b o cells slots pc lv (.int y1 :: st) := fun H locs ls hP hS hL => lv_if_le C.1 C.2.1 hd ht (fun h => kt h H locs ls hP hS hL) (fun h => kf h H locs ls hP hS hL)
theorem V_icmp_eq (C : CX p l s m meth c x cc own nL) {y1 y2 : Int32} {off : Int} (tgt : Nat) (hd : decode cc pc = .ok (.if_icmp .eq off, 3)) (ht : (pc : Int) + off = (tgt : Int)) (kt : y1 = y2 → VV p l e R s m args below meth c Q x nL a b o cells slots tgt lv st) (kf : ¬ y1 = y2 → VV p l e R s m args below meth c Q x nL a b o cells slots (pc + 3) lv st) : VV p l e R s m args below meth c Q x nL a b o cells slots pc lv (.int y2 :: .int y1 :: st) := fun H locs ls hP hS hL => lv_icmp_eq C.1 C.2.1 hd ht (fun h => kt h H locs ls hP hS hL) (fun h => kf h H locs ls hP hS hL)
theorem V_icmp_ne (C : CX p l s m meth c x cc own nL) {y1 y2 : Int32} {off : Int} (tgt : Nat) (hd : decode cc pc = .ok (.if_icmp .ne off, 3)) (ht : (pc : Int) + off = (tgt : Int)) (kt : ¬ y1 = y2 → VV p l e R s m args below meth c Q x nL a b o cells slots tgt lv st) (kf : y1 = y2 → VV p l e R s m args below meth c Q x nL a b o cells slots (pc + 3) lv st) : VV p l e R s m args below meth c Q x nL a b o cells slots pc lv (.int y2 :: .int y1 :: st) := fun H locs ls hP hS hL => lv_icmp_ne C.1 C.2.1 hd ht (fun h => kt h H locs ls hP hS hL) (fun h => kf h H locs ls hP hS hL)
theorem V_icmp_lt (C : CX p l s m meth c x cc own nL) {y1 y2 : Int32} {off : Int} (tgt : Nat) (hd : decode cc pc = .ok (.if_icmp .lt off, 3)) (ht : (pc : Int) + off = (tgt : Int)) (kt : y1 < y2 → VV p l e R s m args below meth c Q x nL a b o cells slots tgt lv st) (kf : ¬ y1 < y2 → VV p l e R s m args below meth c Q x nL a b o cells slots (pc + 3) lv st) : VV p l e R s m args below meth c Q x nL a b o cells slots pc lv (.int y2 :: .int y1 :: st) := fun H locs ls hP hS hL => lv_icmp_lt C.1 C.2.1 hd ht (fun h => kt h H locs ls hP hS hL) (fun h => kf h H locs ls hP hS hL)
theorem V_icmp_ge (C : CX p l s m meth c x cc own nL) {y1 y2 : Int32} {off : Int} (tgt : Nat) (hd : decode cc pc = .ok (.if_icmp .ge off, 3)) (ht : (pc : Int) + off = (tgt : Int)) (kt : y2 ≤ y1 → VV p l e R s m args below meth c Q x nL a b o cells slots tgt lv st) (kf : ¬ y2 ≤ y1 → VV p l e R s m args below meth c Q x nL a b o cells slots (pc + 3) lv st) : VV p l e R s m args below meth c Q x nL a b o cells slots pc lv (.int y2 :: .int y1 :: st) := fun H locs ls hP hS hL => lv_icmp_ge C.1 C.2.1 hd ht (fun h => kt h H locs ls hP hS hL) (fun h => kf h H locs ls hP hS hL)
theorem V_icmp_gt (C : CX p l s m meth c x cc own nL) {y1 y2 : Int32} {off : Int} (tgt : Nat) (hd : decode cc pc = .ok (.if_icmp .gt off, 3)) (ht : (pc : Int) + off = (tgt : Int)) (kt : y2 < y1 → VV p l e R s m args below meth c Q x nL a b o cells slots tgt lv st) (kf : ¬ y2 < y1 → VV p l e R s m args below meth c Q x nL a b o cells slots (pc + 3) lv st) : VV p l e R s m args below meth c Q x nL a b o cells slots pc lv (.int y2 :: .int y1 :: st) := fun H locs ls hP hS hL => lv_icmp_gt C.1 C.2.1 hd ht (fun h => kt h H locs ls hP hS hL) (fun h => kf h H locs ls hP hS hL)
theorem V_icmp_le (C : CX p l s m meth c x cc own nL) {y1 y2 : Int32} {off : Int} (tgt : Nat) (hd : decode cc pc = .ok (.if_icmp .le off, 3)) (ht : (pc : Int) + off = (tgt : Int)) (kt : y1 ≤ y2 → VV p l e R s m args below meth c Q x nL a b o cells slots tgt lv st) (kf : ¬ y1 ≤ y2 → VV p l e R s m args below meth c Q x nL a b o cells slots (pc + 3) lv st) : VV p l e R s m args below meth c Q x nL a b o cells slots pc lv (.int y2 :: .int y1 :: st) := fun H locs ls hP hS hL => lv_icmp_le C.1 C.2.1 hd ht (fun h => kt h H locs ls hP hS hL) (fun h => kf h H locs ls hP hS hL)
theorem V_goto (C : CX p l s m meth c x cc own nL) {off : Int} (tgt : Nat) (hd : decode cc pc = .ok (.goto off, 3)) (ht : (pc : Int) + off = (tgt : Int)) (kk : VV p l e R s m args below meth c Q x nL a b o cells slots tgt lv st) : VV p l e R s m args below meth c Q x nL a b o cells slots pc lv st := fun H locs ls hP hS hL => lv_goto C.1 C.2.1 hd ht (kk H locs ls hP hS hL)
end VVR
