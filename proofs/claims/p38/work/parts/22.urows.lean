/-! a world in the making: cells lo .. n-1 at B + k, the heap ends at B + n -/
def tyT (T : Nat → ClassId) : List (ClassId × FieldType) := [(T 0, .int), (T 1, .boolean), (T 2, .object "Classfederation$Offer"), (T 3, .array .int)]
abbrev sh (D : va_G) (B : Nat) (T : Nat → ClassId) : Sh := (D, fun k => B + k, T)
/-- arrays' entries -/
abbrev xA (T : Nat → ClassId) (c N : Nat) (g : Nat → Int32) : va_E := .inl (T c, N, .inl g)
abbrev xR (T : Nat → ClassId) (c N : Nat) (g : Nat → Option Nat) : va_E := .inl (T c, N, .inr (.inr (.inr (.inr g))))
/-- what the tables say of rows of objects and of rows of rows -/
def AO (U : State) : Prop := va_AO "Classfederation$Offer" U ∧ (Cond.arrayOver (.array .int)).before #[] U = true
theorem aoa_moved {u U : State} (hvm : u.vm.Alike U.vm) (h : (Cond.arrayOver (.array .int)).before #[] u = true) : (Cond.arrayOver (.array .int)).before #[] U = true := by
  obtain ⟨comp, c, k, h1, h2, h3, h4, h5⟩ := arrayOverA_spec h
  obtain ⟨k', hk', he⟩ := hvm.2.2 _ _ h3
  have hi : (U.vm.classes.findIdx? fun (x : Class) => match x.kind with | .array component _ => component == comp | _ => false) = some c := by
    rw [hvm.findIdx?_eq _ (fun _ => rfl)]
    exact h2
  have hkind : k'.kind = .array comp (.array .int) := by rw [he]; exact h4
  have f1 : U.vm.findClass (FieldType.array .int).toString = some comp := by rw [hvm.findClass]; exact h1
  have f2 : U.vm.findClass ("[" ++ (FieldType.array .int).toString) = some c := by rw [hvm.findClass]; exact h5
  unfold Cond.before Cond.holds
  simp only [Cond.value]
  rw [f1, Option.bind_some]
  refine (congrArg (fun o : Option Nat => (o.bind (fun c => (U.vm.classes[c]?).map fun (k : Class) => match k.kind with | .array _ ty => decide (ty = FieldType.array .int) && decide (U.vm.findClass ("[" ++ (FieldType.array .int).toString) = some c) | _ => false) == some true)) hi).trans ?_
  simp [hk', hkind, f2]
theorem AO.moved {u U : State} (hvm : u.vm.Alike U.vm) (h : AO u) : AO U := ⟨h.1.moved hvm, aoa_moved hvm h.2⟩
theorem AO.u2 {A : Array Value} {s : State} (h : AO s) : (Cond.arrayOver (.array .int)).before A s = true := h.2
theorem arrC_of {A : Array Value} {s : State} {cA : ClassId} {ty : FieldType} (h : ArrOfT s cA ty) (hf : s.vm.findClass ("[" ++ ty.toString) = some cA) : (Cond.arrayClass ty).before A s = true := by
  obtain ⟨-, k, hk, comp, hkind⟩ := h 0 (fun _ => .null)
  have hk' : s.vm.classes[cA]? = some k := hk
  simp [Cond.before, Cond.holds, Cond.value, hf, hk', hkind]
def CI (p : Program) (s : State) (m : MethodId) (meth : Method) (c : Code) (D : va_G) (T : Nat → ClassId) (cc : ByteArray) (own : String) (nL : Nat) : Prop :=
  p.tables.exec = Jvm.exec ∧ c.code = cc ∧ c.maxLocals = nL ∧ s.vm.findClass own = some m.cls ∧ va_K D vwCl (tyT T) s ∧ NW s ∧ meth.locks = false ∧ AO s
/-- the cells lo .. n-1 -/
def PU (D : va_G) (B lo n : Nat) (f : Nat → va_E) (H : Heap) : Prop := ∀ k, lo ≤ k → k < n → va_at D vwCl (B + k, f k) H
def UU (p : Program) (l : Launch) (e : Env) (R : Room) (s : State) (m : MethodId) (args : Array Value) (below : List Frame) (meth : Method) (c : Code) (Q : State → Prop) (D : va_G) (B lo n : Nat) (f : Nat → va_E) (nL cells slots pc : Nat) (lv : List (Option Value)) (st : List Value) : Prop :=
  ∀ (H : Heap) (locs : List Loc) (ls : Array Slot), H.size = B + n → PU D B lo n f H → va_S (fun q => B + lo ≤ q) s.heap H locs → LV nL ls lv → W p l e R s m args below meth c H locs cells slots Q (F0 m pc ls st)
section UUR
variable {p : Program} {l : Launch} {e : Env} {R : Room} {s : State} {m : MethodId} {args : Array Value} {below : List Frame} {meth : Method} {c : Code} {Q : State → Prop} {D : va_G} {T : Nat → ClassId} {B lo n nL : Nat} {f f' : Nat → va_E} {cells slots pc : Nat} {lv : List (Option Value)} {st rest As : List Value} {cc : ByteArray} {own : String}
theorem CI.hts (C : CI p s m meth c D T cc own nL) : ∀ (A : Array Value), ∀ w ∈ nwL, w.before A s = true := fun A w hw => C.2.2.2.2.2.1.use hw
theorem CI.K (C : CI p s m meth c D T cc own nL) : va_K D vwCl (tyT T) s := C.2.2.2.2.1
theorem CI.fix (C : CI p s m meth c D T cc own nL) : CallFix p m c cc nL s args nwL own := ⟨C.1, C.2.1, C.2.2.1, C.2.2.2.1, C.hts args⟩
theorem U_eqs {st' : List Value} (h : st = st') (kk : UU p l e R s m args below meth c Q D B lo n f nL cells slots pc lv st') : UU p l e R s m args below meth c Q D B lo n f nL cells slots pc lv st := h ▸ kk
theorem U_topi {v w : Int32} (h : v = w) (kk : UU p l e R s m args below meth c Q D B lo n f nL cells slots pc lv (.int w :: st)) : UU p l e R s m args below meth c Q D B lo n f nL cells slots pc lv (.int v :: st) := h ▸ kk
theorem U_forget {lv' : List (Option Value)} (h : lvLe lv' lv) (kk : UU p l e R s m args below meth c Q D B lo n f nL cells slots pc lv' st) : UU p l e R s m args below meth c Q D B lo n f nL cells slots pc lv st :=
  fun H locs ls hz hP hS hL => kk H locs ls hz hP hS ⟨hL.1, hL.2.1, by rw [h.1]; exact hL.2.2.1, fun i v hi => hL.2.2.2 i v (h.2 i v hi)⟩
theorem U_widen {k w : Nat} (h1 : cells ≤ k) (h2 : slots ≤ w) (kk : UU p l e R s m args below meth c Q D B lo n f nL k w pc lv st) : UU p l e R s m args below meth c Q D B lo n f nL cells slots pc lv st :=
  fun H locs ls hz hP hS hL => W.widen h1 h2 (kk H locs ls hz hP hS hL)
theorem U_iconst (C : CI p s m meth c D T cc own nL) {z : Int} {v : Int32} (hd : decode cc pc = .ok (.iconst z, 1)) (hv : Int32.ofInt z = v) (kk : UU p l e R s m args below meth c Q D B lo n f nL cells slots (pc + 1) lv (.int v :: st)) : UU p l e R s m args below meth c Q D B lo n f nL cells slots pc lv st := fun H locs ls hz hP hS hL => lv_iconst C.1 C.2.1 hd hv (kk H locs ls hz hP hS hL)
theorem U_bipush (C : CI p s m meth c D T cc own nL) {z : Int} {v : Int32} (hd : decode cc pc = .ok (.bipush z, 2)) (hv : (Int8.ofInt z).toInt32 = v) (kk : UU p l e R s m args below meth c Q D B lo n f nL cells slots (pc + 2) lv (.int v :: st)) : UU p l e R s m args below meth c Q D B lo n f nL cells slots pc lv st := fun H locs ls hz hP hS hL => lv_bipush C.1 C.2.1 hd hv (kk H locs ls hz hP hS hL)
theorem U_sipush (C : CI p s m meth c D T cc own nL) {z : Int} {v : Int32} (hd : decode cc pc = .ok (.sipush z, 3)) (hv : (Int16.ofInt z).toInt32 = v) (kk : UU p l e R s m args below meth c Q D B lo n f nL cells slots (pc + 3) lv (.int v :: st)) : UU p l e R s m args below meth c Q D B lo n f nL cells slots pc lv st := fun H locs ls hz hP hS hL => lv_sipush C.1 C.2.1 hd hv (kk H locs ls hz hP hS hL)
theorem U_dup (C : CI p s m meth c D T cc own nL) {v : Value} (hd : decode cc pc = .ok (.dup, 1)) (hv : v.category = 1) (kk : UU p l e R s m args below meth c Q D B lo n f nL cells slots (pc + 1) lv (v :: v :: st)) : UU p l e R s m args below meth c Q D B lo n f nL cells slots pc lv (v :: st) := fun H locs ls hz hP hS hL => lv_dup C.1 C.2.1 hd hv (kk H locs ls hz hP hS hL)
theorem U_iadd (C : CI p s m meth c D T cc own nL) {y1 y2 : Int32} (hd : decode cc pc = .ok (.iadd, 1)) (kk : UU p l e R s m args below meth c Q D B lo n f nL cells slots (pc + 1) lv (.int (y1 + y2) :: st)) : UU p l e R s m args below meth c Q D B lo n f nL cells slots pc lv (.int y2 :: .int y1 :: st) := fun H locs ls hz hP hS hL => lv_iadd C.1 C.2.1 hd (kk H locs ls hz hP hS hL)
theorem U_imul (C : CI p s m meth c D T cc own nL) {y1 y2 : Int32} (hd : decode cc pc = .ok (.imul, 1)) (kk : UU p l e R s m args below meth c Q D B lo n f nL cells slots (pc + 1) lv (.int (y1 * y2) :: st)) : UU p l e R s m args below meth c Q D B lo n f nL cells slots pc lv (.int y2 :: .int y1 :: st) := fun H locs ls hz hP hS hL => lv_imul C.1 C.2.1 hd (kk H locs ls hz hP hS hL)
theorem U_iload_n (C : CI p s m meth c D T cc own nL) {k : Fin 4} {y : Int32} (hd : decode cc pc = .ok (.iload_n k, 1)) (hl : lv[(k : Nat)]? = some (some (.int y))) (kk : UU p l e R s m args below meth c Q D B lo n f nL cells slots (pc + 1) lv (.int y :: st)) : UU p l e R s m args below meth c Q D B lo n f nL cells slots pc lv st := fun H locs ls hz hP hS hL => lv_iload_n C.1 C.2.1 hd rfl (hL.2.2.2 _ _ hl).1 (kk H locs ls hz hP hS hL)
theorem U_aload_n (C : CI p s m meth c D T cc own nL) {k : Fin 4} {y : Nat} (hd : decode cc pc = .ok (.aload_n k, 1)) (hl : lv[(k : Nat)]? = some (some (.ref y))) (kk : UU p l e R s m args below meth c Q D B lo n f nL cells slots (pc + 1) lv (.ref y :: st)) : UU p l e R s m args below meth c Q D B lo n f nL cells slots pc lv st := fun H locs ls hz hP hS hL => lv_aload_n C.1 C.2.1 hd rfl (hL.2.2.2 _ _ hl).1 (kk H locs ls hz hP hS hL)
theorem U_istore_n (C : CI p s m meth c D T cc own nL) {k : Fin 4} {y : Int32} (hd : decode cc pc = .ok (.istore_n k, 1)) (hn : (k : Nat) < nL) {lv' : List (Option Value)} (he : lv.set (k : Nat) (some (.int y)) = lv') (kk : UU p l e R s m args below meth c Q D B lo n f nL cells slots (pc + 1) lv' st) : UU p l e R s m args below meth c Q D B lo n f nL cells slots pc lv (.int y :: st) := by
  subst he
  intro H locs ls hz hP hS hL
  obtain ⟨ls', e', h'⟩ := hL.store (v := .int y) hn rfl
  obtain ⟨hx, hb, -⟩ := id C
  intro T hT X
  obtain ⟨t, a1, b1⟩ := kk H locs ls' hz hP hS h' T hT X
  refine ⟨t, ?_, b1⟩
  jvm_step X.here [X.here.top, hx, hb, hd, e', Value.isRef]
  exact a1
theorem U_istore (C : CI p s m meth c D T cc own nL) {k : Nat} {y : Int32} (hd : decode cc pc = .ok (.istore k, 2)) (hn : k < nL) {lv' : List (Option Value)} (he : lv.set k (some (.int y)) = lv') (kk : UU p l e R s m args below meth c Q D B lo n f nL cells slots (pc + 2) lv' st) : UU p l e R s m args below meth c Q D B lo n f nL cells slots pc lv (.int y :: st) := by
  subst he
  intro H locs ls hz hP hS hL
  obtain ⟨ls', e', h'⟩ := hL.store (v := .int y) hn rfl
  obtain ⟨hx, hb, -⟩ := id C
  intro T hT X
  obtain ⟨t, a1, b1⟩ := kk H locs ls' hz hP hS h' T hT X
  refine ⟨t, ?_, b1⟩
  jvm_step X.here [X.here.top, hx, hb, hd, e', Value.isRef]
  exact a1
theorem U_astore_n (C : CI p s m meth c D T cc own nL) {k : Fin 4} {y : Nat} (hd : decode cc pc = .ok (.astore_n k, 1)) (hn : (k : Nat) < nL) {lv' : List (Option Value)} (he : lv.set (k : Nat) (some (.ref y)) = lv') (kk : UU p l e R s m args below meth c Q D B lo n f nL cells slots (pc + 1) lv' st) : UU p l e R s m args below meth c Q D B lo n f nL cells slots pc lv (.ref y :: st) := by
  subst he
  intro H locs ls hz hP hS hL
  obtain ⟨ls', e', h'⟩ := hL.store (v := .ref y) hn rfl
  obtain ⟨hx, hb, -⟩ := id C
  intro T hT X
  obtain ⟨t, a1, b1⟩ := kk H locs ls' hz hP hS h' T hT X
  refine ⟨t, ?_, b1⟩
  jvm_step X.here [X.here.top, hx, hb, hd, e', Value.isRef]
  exact a1
theorem U_astore (C : CI p s m meth c D T cc own nL) {k : Nat} {y : Nat} (hd : decode cc pc = .ok (.astore k, 2)) (hn : k < nL) {lv' : List (Option Value)} (he : lv.set k (some (.ref y)) = lv') (kk : UU p l e R s m args below meth c Q D B lo n f nL cells slots (pc + 2) lv' st) : UU p l e R s m args below meth c Q D B lo n f nL cells slots pc lv (.ref y :: st) := by
  subst he
  intro H locs ls hz hP hS hL
  obtain ⟨ls', e', h'⟩ := hL.store (v := .ref y) hn rfl
  obtain ⟨hx, hb, -⟩ := id C
  intro T hT X
  obtain ⟨t, a1, b1⟩ := kk H locs ls' hz hP hS h' T hT X
  refine ⟨t, ?_, b1⟩
  jvm_step X.here [X.here.top, hx, hb, hd, e', Value.isRef]
  exact a1
theorem U_iinc (C : CI p s m meth c D T cc own nL) {k : Nat} {z : Int} {y v : Int32} (hd : decode cc pc = .ok (.iinc k z, 3)) (hl : lv[k]? = some (some (.int y))) (hv : y + Int32.ofInt z = v) (hn : k < nL) {lv' : List (Option Value)} (he : lv.set k (some (.int v)) = lv') (kk : UU p l e R s m args below meth c Q D B lo n f nL cells slots (pc + 3) lv' st) : UU p l e R s m args below meth c Q D B lo n f nL cells slots pc lv st := by
  subst he
  intro H locs ls hz hP hS hL
  obtain ⟨ls', e', h'⟩ := hL.store (v := .int v) hn rfl
  obtain ⟨hx, hb, -⟩ := id C
  have hg := (hL.2.2.2 _ _ hl).1
  subst hv
  intro T hT X
  obtain ⟨t, a1, b1⟩ := kk H locs ls' hz hP hS h' T hT X
  refine ⟨t, ?_, b1⟩
  jvm_step X.here [X.here.top, hx, hb, hd, hg, e']
  exact a1
theorem U_goto (C : CI p s m meth c D T cc own nL) {off : Int} (tgt : Nat) (hd : decode cc pc = .ok (.goto off, 3)) (ht : (pc : Int) + off = (tgt : Int)) (kk : UU p l e R s m args below meth c Q D B lo n f nL cells slots tgt lv st) : UU p l e R s m args below meth c Q D B lo n f nL cells slots pc lv st := fun H locs ls hz hP hS hL => lv_goto C.1 C.2.1 hd ht (kk H locs ls hz hP hS hL)
theorem U_ge (C : CI p s m meth c D T cc own nL) {y1 y2 : Nat} {off : Int} (tgt : Nat) (hd : decode cc pc = .ok (.if_icmp .ge off, 3)) (ht : (pc : Int) + off = (tgt : Int)) (h1 : y1 < 2 ^ 31) (h2 : y2 < 2 ^ 31) (kt : y2 ≤ y1 → UU p l e R s m args below meth c Q D B lo n f nL cells slots tgt lv st) (kf : y1 < y2 → UU p l e R s m args below meth c Q D B lo n f nL cells slots (pc + 3) lv st) : UU p l e R s m args below meth c Q D B lo n f nL cells slots pc lv (.int (nI y2) :: .int (nI y1) :: st) := fun H locs ls hz hP hS hL => lv_icmp_ge C.1 C.2.1 hd ht (fun h => kt ((Int32.ofNat_le_ofNat h2 h1).mp h) H locs ls hz hP hS hL) (fun h => kf (Nat.lt_of_not_le fun z => h ((Int32.ofNat_le_ofNat h2 h1).mpr z)) H locs ls hz hP hS hL)
theorem U_get (C : CI p s m meth c D T cc own nL) {k ci N : Nat} {Rn : String} {TT : u_T} {fs : List Value} {v : Value} {idx : Nat} (hk1 : lo ≤ k) (hk2 : k < n) (hG : f k = .inr (ci, fs)) (hc : vwCl[ci]? = some (Rn, TT, N)) (j : Nat) (hj : j < N) (hin : ∀ w ∈ u_ws Rn TT N, w ∈ nwL) (hT : (TT j).1 = Rn) (hl : Cond.fieldLink own idx Rn (TT j).2.1 (TT j).2.2.1 ∈ nwL) (hv : fs[j]? = some v) (hd : decode cc pc = .ok (.getfield idx, 3)) (kk : UU p l e R s m args below meth c Q D B lo n f nL cells slots (pc + 3) lv (v :: st)) : UU p l e R s m args below meth c Q D B lo n f nL cells slots pc lv (.ref (B + k) :: st) := by
  intro H locs ls hz hP hS hL
  have hP0 : va_P D vwCl [(B + k, .inr (ci, fs))] H := fun i q hq => by
    have h0 : i < 1 := (List.getElem?_eq_some_iff.mp hq).1
    rw [show i = 0 by omega] at hq
    cases hq
    have := hP k hk1 hk2
    rw [hG] at this
    exact this
  exact va_get C.1 C.2.1 (C.hts args) hin C.2.2.2.1 C.K hP0 0 rfl hc j hj (C.hts args _ hl) (fun y hy => by rw [hT] at hy; exact hy) hv hd (kk H locs ls hz hP hS hL)
theorem PU.set {H H1 : Heap} {k : Nat} (hP : PU D B lo n f H) (hk : va_at D vwCl (B + k, f' k) H1) (ho : ∀ i, lo ≤ i → i < n → i ≠ k → f' i = f i) (oq : ∀ q : Nat, q ≠ B + k → H1[q]? = H[q]?) : PU D B lo n f' H1 := by
  intro i h1 h2
  by_cases h : i = k
  · subst h
    exact hk
  · rw [ho i h1 h2 h]
    exact (hP i h1 h2).kept (oq (B + i) (by omega))
theorem U_put (C : CI p s m meth c D T cc own nL) (hm : meth.name = "<init>") {k ci N : Nat} {TT : u_T} {fs : List Value} {v : Value} {idx : Nat} (hk1 : lo ≤ k) (hk2 : k < n) (hG : f k = .inr (ci, fs)) (hc : vwCl[ci]? = some (own, TT, N)) (j : Nat) (hj : j < N) (hin : ∀ w ∈ u_ws own TT N, w ∈ nwL) (hT : (TT j).1 = own) (hl : Cond.fieldLink own idx own (TT j).2.1 (TT j).2.2.1 ∈ nwL) (ty0 : Nat → FieldType) (hty : ∀ k, k < N → parseFieldDescriptor (TT k).2.2.1 = some (ty0 k)) (hnm : ∀ a, a < N → ∀ b, b < N → a ≠ b → (TT a).2.1 ≠ (TT b).2.1) (hfin : (TT j).2.2.2 = true) {ty : FieldType} (hpd : parseFieldDescriptor (TT j).2.2.1 = some ty) (hn : narrow ty v = v) (hfit : fits ty v = true) (hfl : j < fs.length) (f' : Nat → va_E)
    (hs : f' k = .inr (ci, fs.set j v)) (ho : ∀ i, lo ≤ i → i < n → i ≠ k → f' i = f i) (hd : decode cc pc = .ok (.putfield idx, 3)) (kk : UU p l e R s m args below meth c Q D B lo n f' nL cells slots (pc + 3) lv st) : UU p l e R s m args below meth c Q D B lo n f nL cells slots pc lv (v :: .ref (B + k) :: st) := by
  intro H locs ls hz hP hS hL
  have hown := C.2.2.2.1
  have hap := va_apart (own := own) (C.hts args) hin ty0 hty hnm C.K hc
  have hPk := hP k hk1 hk2
  rw [hG] at hPk
  obtain ⟨r, h1, cell, q1, q2, q3, q4⟩ := hPk
  have hr : r = (own, TT, N) := Option.some.inj (h1.symm.trans hc)
  subst hr
  obtain ⟨hSl, hfc, kC, hkC, hkind⟩ := C.K.1 ci _ hc
  obtain ⟨cf, kf, fi, fd, hi, hsl⟩ := hSl j hj
  have hlay := C.hts args _ (hin _ (u_in_lay hj))
  unfold u_lay at hlay
  rw [if_pos hfin] at hlay
  have hst := (u_facts hfc hkC (u_lays (C.hts args) hin hj) hi).1
  have hcf : m.cls = cf := by
    obtain ⟨_, _, c', _, _, _, -, -, hf', -, -, -, hown2, -⟩ := Cond.laysFinal_spec hlay
    have e1 : c' = cf := by have := hi.symm.trans hf'; simp at this; exact this.1.symm
    rw [hT] at hown2
    rw [← e1]; exact Option.some.inj (hown.symm.trans hown2)
  have h6 := u_fits hfc hkC hkind (Or.inr hlay) hi hpd hn hfit
  refine W.putFinK C.1 C.2.1 hown (C.hts args _ hl) (by rw [hT] at hi; exact hi) hst hcf hm (by rw [q2]; exact h6) q1 q3 (by rw [hsl]; exact k2_hasslot (q4 j hj)) rfl rfl hd fun H' e1 e2 e3 => ?_
  rw [hsl] at e1 ⊢
  refine kk H' _ ls (by rw [e2]; exact hz) (hP.set ?_ ho e3) (hS.put e2 e3 (Nat.add_le_add_left hk1 B)) hL
  rw [hs]
  exact ⟨_, hc, t_OB.to (V := updV (vp_V fs) j v) ⟨_, e1, q2, q3, t_set q4 hap hj v⟩ (fun i _ => vp_updV_set hfl v i)⟩
theorem U_iast (C : CI p s m meth c D T cc own nL) {k N : Nat} {g : Nat → Int32} {v : Int32} (hk1 : lo ≤ k) (hk2 : k < n) (hG : f k = xA T 0 N g) (i : Nat) (hi : i < N) (hN : N < 2 ^ 31) (f' : Nat → va_E) (hs : f' k = xA T 0 N (upd g i v)) (ho : ∀ i, lo ≤ i → i < n → i ≠ k → f' i = f i) (hd : decode cc pc = .ok (.iastore, 1)) (kk : UU p l e R s m args below meth c Q D B lo n f' nL cells slots (pc + 1) lv st) : UU p l e R s m args below meth c Q D B lo n f nL cells slots pc lv (.int v :: .int (nI i) :: .ref (B + k) :: st) := by
  intro H locs ls hz hP hS hL
  have hPk := hP k hk1 hk2
  rw [hG] at hPk
  have hin : ¬ (nI i < 0 ∨ (arrV (T 0) N (fun j => .int (g j))).slots.size ≤ (nI i).toNatClampNeg) := by rw [arrV_size]; exact vp_in_le hi hN
  refine W.iast C.1 C.2.1 hPk ((C.K.2 0 _ rfl).1 N (fun j => .int (g j))) (fun h => by cases h) hin rfl rfl hd fun H' e1 z oq => ?_
  refine kk H' _ ls (by rw [z]; exact hz) (hP.set ?_ ho oq) (hS.put z oq (Nat.add_le_add_left hk1 B)) hL
  rw [hs]
  show H'[B + k]? = some (vp_cell (T 0) (N, .inl (upd g i v)))
  rw [e1]
  show some ((arrV (T 0) N (fun j => .int (g j))).setSlot _ _) = _
  rw [arrV_store, vp_cell_i, nI_clamp (by omega)]
  congr 2
  funext j
  unfold updV upd
  by_cases hj : j = i
  · rw [if_pos hj, if_pos hj]
  · rw [if_neg hj, if_neg hj]
theorem U_aald (C : CI p s m meth c D T cc own nL) {k N c0 q : Nat} {g : Nat → Option Nat} {ty : FieldType} (hk1 : lo ≤ k) (hk2 : k < n) (hG : f k = xR T c0 N g) (hty : (tyT T)[c0]? = some (T c0, ty)) (hrf : ty.isReference = true) (i : Nat) (hi : i < N) (hN : N < 2 ^ 31) (hg : g i = some q) (hd : decode cc pc = .ok (.aaload, 1)) (kk : UU p l e R s m args below meth c Q D B lo n f nL cells slots (pc + 1) lv (.ref q :: st)) : UU p l e R s m args below meth c Q D B lo n f nL cells slots pc lv (.int (nI i) :: .ref (B + k) :: st) := by
  intro H locs ls hz hP hS hL
  have hPk := hP k hk1 hk2
  rw [hG] at hPk
  have hin : ¬ (nI i < 0 ∨ (arrV (T c0) N (fun j => va_rf (g j))).slots.size ≤ (nI i).toNatClampNeg) := by rw [arrV_size]; exact vp_in_le hi hN
  refine W.aald (v := .ref q) (ty := ty) C.1 C.2.1 hPk ((C.K.2 c0 _ hty).1 N (fun j => va_rf (g j))) hrf (fun h => by cases h) hin ?_ rfl rfl hd (kk H locs ls hz hP hS hL)
  rw [nI_clamp (by omega)]
  show (arrV (T c0) N (fun j => va_rf (g j))).slots[i]? = _
  rw [arrV_read _ _ hi, hg]
  rfl
theorem U_aast (C : CI p s m meth c D T cc own nL) {k N kv : Nat} {g : Nat → Option Nat} {fs : List Value} (hk1 : lo ≤ k) (hk2 : k < n) (hG : f k = xR T 2 N g) (i : Nat) (hi : i < N) (hN : N < 2 ^ 31) (hv1 : lo ≤ kv) (hv2 : kv < n) (hGv : f kv = .inr (2, fs)) (f' : Nat → va_E) (hs : f' k = xR T 2 N (fun j => if j = i then some (B + kv) else g j)) (ho : ∀ i, lo ≤ i → i < n → i ≠ k → f' i = f i) (hd : decode cc pc = .ok (.aastore, 1)) (kk : UU p l e R s m args below meth c Q D B lo n f' nL cells slots (pc + 1) lv st) : UU p l e R s m args below meth c Q D B lo n f nL cells slots pc lv (.ref (B + kv) :: .int (nI i) :: .ref (B + k) :: st) := by
  intro H locs ls hz hP hS hL
  have hPk := hP k hk1 hk2
  rw [hG] at hPk
  have hPv := hP kv hv1 hv2
  rw [hGv] at hPv
  obtain ⟨r', hr', cellV, g1, g2, g3, -⟩ := hPv
  have hc : vwCl[2]? = some (RX0, TX0, 9) := rfl
  have hcls := (C.K.1 2 _ hc).2
  obtain ⟨kA, comp, k1, k2, k3, -⟩ := (C.K.2 2 _ rfl).2
  have hcomp : comp = D.1 2 := Option.some.inj (k3.symm.trans hcls.1)
  subst hcomp
  obtain ⟨kC, hkC, -⟩ := hcls.2
  have hcl : (nI i).toNatClampNeg = i := nI_clamp (by omega)
  refine W.aast C.1 C.2.1 hPk (fun q h => by cases h) (fun h => by cases h) k1 k2 rfl hkC ⟨fun q => vp_in_le hi hN (Or.inl q), by show _ < (arrV _ _ _).slots.size; rw [arrV_size, hcl]; exact hi⟩ g1 (fun q h => by rw [g3] at h; cases h) (by rw [g2]; exact hkC) (by rw [g2]; exact va_assign hcls) rfl rfl hd fun H' e1 z oq => ?_
  refine kk H' _ ls (by rw [z]; exact hz) (hP.set ?_ ho oq) (hS.put z oq (Nat.add_le_add_left hk1 B)) hL
  rw [hs]
  show H'[B + k]? = some (vp_cell (T 2) (N, _))
  rw [e1]
  show some ((arrV (T 2) N (fun j => va_rf (g j))).setSlot _ _) = _
  rw [arrV_store, vp_cell_q, hcl]
  congr 2
  funext j
  unfold updV
  by_cases hj : j = i
  · rw [if_pos hj, if_pos hj]; rfl
  · rw [if_neg hj, if_neg hj]
theorem PU.push {H H1 : Heap} {w : Nat} (hP : PU D B lo n f H) (hz : H.size = B + n) (ho : ∀ i, lo ≤ i → i < n → f' i = f i) (oq : ∀ q : Nat, q < H.size → H1[q]? = H[q]?) (hn : ∀ i, n ≤ i → i < n + w → va_at D vwCl (B + i, f' i) H1) : PU D B lo (n + w) f' H1 := by
  intro i h1 h2
  by_cases h : i < n
  · rw [ho i h1 h]
    exact (hP i h1 h).kept (oq (B + i) (by omega))
  · exact hn i (by omega) h2
theorem va_S.grow {A : Nat → Prop} {H0 H H1 : Heap} {locs : List Loc} (h : va_S A H0 H locs) (hz : H.size ≤ H1.size) (oq : ∀ q : Nat, q < H.size → H1[q]? = H[q]?) : va_S A H0 H1 locs :=
  ⟨Nat.le_trans h.1 hz, fun q h1 h2 => (oq q (Nat.lt_of_lt_of_le h1 h.1)).trans (h.2.1 q h1 h2), h.2.2⟩
theorem U_newa (C : CI p s m meth c D T cc own nL) {at0 : ArrayType} {c0 N : Nat} {ty : FieldType} {v : Int32} {a0 : vp_A} (hty : newarray.typeOf at0 = ty) (hT : (tyT T)[c0]? = some (T c0, ty)) (hRA : va_RA s (T c0) ty → s.vm.findClass ("[" ++ ty.toString) = some (T c0)) (ha : ∀ cA : ClassId, vp_cell cA a0 = arrV cA N (fun _ => defaultValue ty)) (hn : ¬ v < 0) (hN : v.toNatClampNeg = N) (hb : N * componentBytes ty ≤ 536870912) (hc1 : cells + 1 ≤ R.cells) (hc2 : slots + N ≤ R.slots) (f' : Nat → va_E) (hs : f' n = .inl (T c0, a0)) (ho : ∀ i, lo ≤ i → i < n → f' i = f i) (hd : decode cc pc = .ok (.newarray at0, 2)) (kk : UU p l e R s m args below meth c Q D B lo (n + 1) f' nL (cells + 1) (slots + N) (pc + 2) lv (.ref (B + n) :: st)) : UU p l e R s m args below meth c Q D B lo n f nL cells slots pc lv (.int v :: st) := by
  subst hty
  intro H locs ls hz hP hS hL
  refine va_newaK C.1 C.2.1 (arrC_of (C.K.2 c0 _ hT).1 (hRA (C.K.2 c0 _ hT).2)) rfl hd rfl hn hN hb hc1 hc2 hz fun H1 cA e1 z1 o1 _ hNm => ?_
  have hcA : cA = T c0 := Option.some.inj (hNm.symm.trans (hRA (C.K.2 c0 _ hT).2))
  subst hcA
  have o1' : ∀ q : Nat, q < H.size → H1[q]? = H[q]? := fun q hq => o1 q (by omega)
  refine kk H1 _ ls (by rw [z1]; omega) (hP.push hz ho o1' (fun i h1 h2 => ?_)) (hS.grow (by omega) o1') hL
  have hi : i = n := by omega
  subst hi
  rw [hs]
  show H1[B + i]? = some (vp_cell (T c0) a0)
  rw [ha]
  exact e1
theorem U_new (C : CI p s m meth c D T cc own nL) {ci N idx : Nat} {Rn : String} {TT : u_T} {fs : List Value} (hin : ∀ w ∈ u_ws Rn TT N, w ∈ nwL) (ty : Nat → FieldType) (hty : ∀ k, k < N → parseFieldDescriptor (TT k).2.2.1 = some (ty k)) (hcl : Cond.classLink own idx Rn ∈ nwL) (hinst : Cond.instantiable Rn N ∈ nwL) (hini : Cond.initialized Rn ∈ nwL) (hc : vwCl[ci]? = some (Rn, TT, N)) (hfs : ∀ j, j < N → defaultValue (ty j) = vp_V fs j) (hc1 : cells + 1 ≤ R.cells) (hc2 : slots + N ≤ R.slots) (f' : Nat → va_E) (hs : f' n = .inr (ci, fs)) (ho : ∀ i, lo ≤ i → i < n → f' i = f i) (hd : decode cc pc = .ok (.new idx, 3)) (kk : UU p l e R s m args below meth c Q D B lo (n + 1) f' nL (cells + 1) (slots + N) (pc + 3) lv (.ref (B + n) :: st)) : UU p l e R s m args below meth c Q D B lo n f nL cells slots pc lv st := by
  intro H locs ls hz hP hS hL
  have hKn := C.K.1 ci _ hc
  refine W.newcK C.1 C.2.1 C.2.2.2.1 (C.hts args _ hcl) (C.hts args _ hinst) (C.hts args _ hini) rfl hd hc1 hc2 hKn.2.1 hz fun H1 kC hkC e1 z1 o1 => ?_
  have o1' : ∀ q : Nat, q < H.size → H1[q]? = H[q]? := fun q hq => o1 q (by omega)
  refine kk H1 _ ls (by rw [z1]; omega) (hP.push hz ho o1' (fun i h1 h2 => ?_)) (hS.grow (by omega) o1') hL
  have hi : i = n := by omega
  subst hi
  rw [hs]
  exact ⟨_, hc, (u_born ty (C.hts args) hin hKn hkC e1 hty).to hfs⟩
theorem U_anew (C : CI p s m meth c D T cc own nL) {idx N : Nat} {v : Int32} (hcl : Cond.classLink own idx "Classfederation$Offer" ∈ nwL) (hn : ¬ v < 0) (hN : v.toNatClampNeg = N) (hb : N ≤ 1000) (hc1 : cells + 1 ≤ R.cells) (hc2 : slots + N ≤ R.slots) (f' : Nat → va_E) (hs : f' n = xR T 2 N (fun _ => none)) (ho : ∀ i, lo ≤ i → i < n → f' i = f i) (hd : decode cc pc = .ok (.anewarray idx, 3)) (kk : UU p l e R s m args below meth c Q D B lo (n + 1) f' nL (cells + 1) (slots + N) (pc + 3) lv (.ref (B + n) :: st)) : UU p l e R s m args below meth c Q D B lo n f nL cells slots pc lv (.int v :: st) := by
  subst hN
  intro H locs ls hz hP hS hL
  refine W.anew C.1 C.2.1 C.2.2.2.1 (C.hts args _ hcl) (C.2.2.2.2.2.2.2.1.use) rfl hd rfl hn (by omega) hc1 hc2 fun cA kA comp f1 f2 f3 f4 => ?_
  obtain ⟨kA', comp', k1, k2, k3, k4⟩ := (C.K.2 2 _ rfl).2
  have hcA : cA = T 2 := Option.some.inj (f1.symm.trans k4)
  subst hcA
  generalize hH1 : H.push ({ cls := T 2, slots := Array.replicate v.toNatClampNeg .null, vm := .none } : Cell) = H1
  have z1 : H1.size = H.size + 1 := by rw [← hH1, Array.size_push]
  have e1 : H1[H.size]? = some (arrV (T 2) v.toNatClampNeg (fun _ => .null)) := by rw [← hH1, Array.getElem?_push_size, ← arrV_new]
  have o1 : ∀ q : Nat, q < H.size → H1[q]? = H[q]? := fun q hq => by rw [← hH1, Array.getElem?_push, if_neg (Nat.ne_of_lt hq)]
  rw [hz]
  refine kk H1 _ ls (by rw [z1]; omega) (hP.push hz ho o1 (fun i h1 h2 => ?_)) (hS.grow (by omega) o1) hL
  have hi : i = n := by omega
  subst hi
  rw [hs]
  show H1[B + i]? = some (vp_cell (T 2) _)
  rw [vp_cell_q, ← hz]
  exact e1
theorem U_mna (C : CI p s m meth c D T cc own nL) {idx N K : Nat} {v w : Int32} (hcl : Cond.classLink own idx "[[I" ∈ nwL) (hn : ¬ v < 0) (hk : ¬ w < 0) (hN : v.toNatClampNeg = N) (hK : w.toNatClampNeg = K) (hb1 : N ≤ 1000) (hb2 : K ≤ 1000) (hc1 : cells + (1 + N) ≤ R.cells) (hc2 : slots + (N + N * K) ≤ R.slots) (f' : Nat → va_E) (hs : f' n = xR T 3 N (fun i => if i < N then some (B + n + 1 + i) else none)) (hs2 : ∀ j, j < N → f' (n + 1 + j) = xA T 0 K (fun _ => 0)) (ho : ∀ i, lo ≤ i → i < n → f' i = f i) (hd : decode cc pc = .ok (.multianewarray idx 2, 4)) (kk : UU p l e R s m args below meth c Q D B lo (n + (1 + N)) f' nL (cells + 1 + N) (slots + N + N * K) (pc + 4) lv (.ref (B + n) :: st)) : UU p l e R s m args below meth c Q D B lo n f nL cells slots pc lv (.int w :: .int v :: st) := by
  intro H locs ls hz hP hS hL
  refine W_mna C.1 C.2.1 C.2.2.2.1 (C.hts args _ hcl) (C.2.2.2.2.2.2.2.u2) (arrC_of (C.K.2 0 _ rfl).1 (C.K.2 0 _ rfl).2) hn hk hN hK hb1 hb2 hc1 hc2 hd fun cA cI H1 _ r1 _ r2 z1 o1 e1 e2 => ?_
  have hcA : cA = T 3 := by
    have h1 : s.vm.findClass ("[" ++ (FieldType.array .int).toString) = some cA := r1
    have h2 : s.vm.findClass ("[" ++ (FieldType.array .int).toString) = some (T 3) := (C.K.2 3 _ rfl).2
    exact Option.some.inj (h1.symm.trans h2)
  have hcI : cI = T 0 := by
    have h1 : s.vm.findClass ("[" ++ FieldType.int.toString) = some cI := r2
    have h2 : s.vm.findClass ("[" ++ FieldType.int.toString) = some (T 0) := (C.K.2 0 _ rfl).2
    exact Option.some.inj (h1.symm.trans h2)
  subst hcA
  subst hcI
  rw [hz] at e1 e2 ⊢
  refine kk H1 _ ls (by rw [z1]; omega) (hP.push hz ho o1 (fun i h1 h2 => ?_)) (hS.grow (by omega) o1) hL
  by_cases h : i = n
  · subst h
    rw [hs]
    exact e1
  · obtain ⟨j, rfl⟩ : ∃ j, i = n + 1 + j := ⟨i - (n + 1), by omega⟩
    rw [hs2 j (by omega), show B + (n + 1 + j) = B + n + 1 + j by omega]
    exact e2 j (by omega)
/-- entries that read alike -/
def eLk (e1 e2 : va_E) : Prop := e1 = e2 ∨ (∃ c N g g', e1 = .inl (c, N, .inl g) ∧ e2 = .inl (c, N, .inl g') ∧ ∀ j, j < N → g j = g' j) ∨ ∃ c N g g', e1 = .inl (c, N, .inr (.inr (.inr (.inr g)))) ∧ e2 = .inl (c, N, .inr (.inr (.inr (.inr g')))) ∧ ∀ j, j < N → g j = g' j
theorem arrV_like {cA : ClassId} {N : Nat} {g g' : Nat → Value} (h : ∀ j, j < N → g j = g' j) : arrV cA N g = arrV cA N g' := by
  unfold arrV
  congr 1
  apply Array.ext
  · simp
  · intro i h1 h2
    simp at h1
    simp [h i h1]
theorem eLk.at {e1 e2 : va_E} {a : Nat} {H : Heap} (h : eLk e1 e2) (k : va_at D vwCl (a, e1) H) : va_at D vwCl (a, e2) H := by
  rcases h with rfl | ⟨c0, N, g, g', rfl, rfl, h⟩ | ⟨c0, N, g, g', rfl, rfl, h⟩
  · exact k
  · have : vp_cell c0 (N, .inl g) = vp_cell c0 (N, .inl g') := by
      first | rw [vp_cell_i, vp_cell_i] | rw [vp_cell_q, vp_cell_q]
      exact arrV_like (fun j hj => by rw [h j hj])
    show H[a]? = _
    rw [← this]
    exact k
  · have : vp_cell c0 (N, .inr (.inr (.inr (.inr g)))) = vp_cell c0 (N, .inr (.inr (.inr (.inr g')))) := by
      first | rw [vp_cell_i, vp_cell_i] | rw [vp_cell_q, vp_cell_q]
      exact arrV_like (fun j hj => by rw [h j hj])
    show H[a]? = _
    rw [← this]
    exact k
theorem U_like (f' : Nat → va_E) (h : ∀ k, lo ≤ k → k < n → eLk (f k) (f' k)) (kk : UU p l e R s m args below meth c Q D B lo n f' nL cells slots pc lv st) : UU p l e R s m args below meth c Q D B lo n f nL cells slots pc lv st :=
  fun H locs ls hz hP hS hL => kk H locs ls hz (fun k h1 h2 => (h k h1 h2).at (hP k h1 h2)) hS hL
theorem U_obj (C : CI p s m meth c D T cc own nL) {idx : Nat} {k : Nat} (hl : Cond.methodLink own idx objectInit ∈ nwL) (hin : Cond.instanceMethod objectInit ∈ nwL) (hco : Cond.code objectInit ⟨#[0xb1]⟩ 1 none ∈ nwL) (hR : 1 ≤ R.frames ∧ 20 ≤ R.locals) (hcat : (st.map fun v => v.category).sum ≤ 8) (hd : decode cc pc = .ok (.invokespecial idx, 3)) (kk : UU p l e R s m args below meth c Q D B lo n f nL cells slots (pc + 3) lv st) : UU p l e R s m args below meth c Q D B lo n f nL cells slots pc lv (.ref k :: st) :=
  fun H locs ls hz hP hS hL => W.objInit C.1 C.2.1 C.2.2.2.1 (C.hts args _ hl) (C.hts args _ hin) (C.hts args _ hco) rfl (by rw [C.2.2.1]; exact hL.1) rfl hd hR.1 (by show 2 * 0 + _ + 12 ≤ _; omega) (kk H locs ls hz hP hS hL)
/-- a start of such a method, and its end -/
def PD (D : va_G) (T : Nat → ClassId) (B lo n : Nat) (f : Nat → va_E) (U : State) : Prop := U.heap.size = B + n ∧ PU D B lo n f U.heap ∧ va_K D vwCl (tyT T) U ∧ NW U ∧ AO U
theorem PD.blind {As : List Value} : FrameBlind (va_Pc As (PD D T B lo n f)) := by
  intro v U g mk h
  obtain ⟨h0, h1, h2, h3, h4, h6⟩ := h
  have h5 : NW (U.calling g mk v) := NW.same (s := U) rfl h4
  exact ⟨h0, h1, h2, va_K.moved (u := U) (U := U.calling g mk v) (Vm.Alike.refl U.vm) h3, h5, AO.moved (u := U) (U := U.calling g mk v) (Vm.Alike.refl U.vm) h6⟩
def QU (D : va_G) (B lo hi : Nat) (F : Nat → va_E) : Array Value → State → Outcome → State → Prop := va_Qv (S := Unit) (fun _ => True) (fun _ t => t.heap.size = B + hi ∧ PU D B lo hi F t.heap) (fun q => B + lo ≤ q)
/-- an int, and the same heap -/
def QW (B lo : Nat) (v : Int32) : Array Value → State → Outcome → State → Prop := va_Qi (S := Unit) (fun r _ => r = v) (fun _ t => t.heap.size = B + lo) (fun q => B + lo ≤ q)
def KM (l : Launch) (y : MethodName) (cc : ByteArray) (maxL : Nat) (ret : Option FieldType) (fr lc mc ms : Nat) (As : List Value) (D : va_G) (T : Nat → ClassId) (B lo n : Nat) (f : Nat → va_E) (Qf : Array Value → State → Outcome → State → Prop) : Prop :=
  Met l y [Cond.code y cc maxL ret] ({ frames := fr, cells := mc, slots := ms, locals := lc }) (va_Pc As (PD D T B lo n f)) Qf mc ms (fun q => B + lo ≤ q)
theorem KM.of {y : MethodName} {maxL : Nat} {ret : Option FieldType} {fr lc mc ms : Nat} {Qf : Array Value → State → Outcome → State → Prop} (hy : plainName y.cls = true) (lv : List (Option Value)) (hlv : As.map some ++ List.replicate (maxL - As.length) none = lv) (hcat : As.all (fun v => v.category == 1) = true) (hlen : As.length ≤ maxL)
    (body : ∀ (p : Program) (e : Env) (s : State) (m : MethodId) (args : Array Value) (below : List Frame) (meth : Method) (c : Code), CI p s m meth c D T cc y.cls maxL → meth.sig.returnType = ret → meth.name = y.name → UU p l e ({ frames := fr, cells := mc, slots := ms, locals := lc }) s m args below meth c (MQ below Qf args s mc ms (fun q => B + lo ≤ q)) D B lo n f maxL 0 0 0 lv []) : KM l y cc maxL ret fr lc mc ms As D T B lo n f Qf := by
  refine Met.ofW (cc := cc) (maxL := maxL) (ret := ret) hy rfl ?_
  intro p e s m args below meth c s₁ X hml hv
  obtain ⟨rfl, hz, hP, hK, hN, hAO⟩ := hv
  have hown : s.vm.findClass y.cls = some m.cls := findClass_of_methodNamed X.named
  rw [lg_entry_eq]
  have hL := LV.entry (n := maxL) hcat hlen
  rw [hlv] at hL
  exact body p e s m As.toArray below meth c ⟨X.exec, X.bytes, hml, hown, hK, hN, X.notSynchronized, hAO⟩ X.returns (name_of_methodNamed X.named X.method).1 s.heap [] _ hz hP va_S.rf hL
theorem U_vret (C : CI p s m meth c D T cc own nL) {mc ms : Nat} {F : Nat → va_E} (hr : meth.sig.returnType = none) (hc1 : cells ≤ mc) (hc2 : slots ≤ ms) (hd : decode cc pc = .ok (.return_, 1)) (hF : ∀ k, lo ≤ k → k < n → eLk (f k) (F k)) : UU p l e R s m args below meth c (MQ below (QU D B lo n F) args s mc ms (fun q => B + lo ≤ q)) D B lo n f nL cells slots pc lv [] :=
  fun H locs ls hz hP hS hL => W.widen hc1 hc2 (W.vret C.1 C.2.1 hr (fun t ht hW => ⟨⟨(), rfl, trivial, by rw [ht]; exact hz, by rw [ht]; exact fun k h1 h2 => (hF k h1 h2).at (hP k h1 h2)⟩, hS.F ht⟩) hS.2.2 hd C.2.2.2.2.2.2.1)
theorem U_iret (C : CI p s m meth c D T cc own nL) {v w : Int32} (hr : meth.sig.returnType = some .int) (hln : n = lo) (hd : decode cc pc = .ok (.ireturn, 1)) (hv : w = v) : UU p l e R s m args below meth c (MQ below (QW B lo v) args s 0 0 (fun q => B + lo ≤ q)) D B lo n f nL 0 0 pc lv [.int w] :=
  fun H locs ls hz hP hS hL => W.iret C.1 C.2.1 hr (fun t ht hW => ⟨⟨w, (), rfl, hv, by show t.heap.size = _; rw [ht, ← hln]; exact hz⟩, hS.F ht⟩) hS.2.2 hd C.2.2.2.2.2.2.1
variable {y : MethodName} {cc' : ByteArray} {maxL' k fr lc mc ms idx hi : Nat}
theorem CI.pre (C : CI p s m meth c D T cc own nL) {H : Heap} {locs : List Loc} (hz : H.size = B + n) (hP : PU D B lo n f H) (hk : lo ≤ k) : ∀ U : State, U.heap = H → s.WarmedH U.vm → va_Pc As (PD D T B k n f) As.toArray U := by
  intro U hU hW
  exact ⟨rfl, by rw [hU]; exact hz, by rw [hU]; exact fun i h1 h2 => hP i (Nat.le_trans hk h1) h2, va_K.moved hW.alike C.K, C.2.2.2.2.2.1.warm hW, C.2.2.2.2.2.2.2.moved hW.alike⟩
theorem U_after {F : Nat → va_E} {aa : Array Value} (hk1 : lo ≤ k) (hk2 : k ≤ n) (hr : ∀ (H : Heap) (locs : List Loc) (ls : Array Slot), H.size = B + n → PU D B lo n f H → va_S (fun q => B + lo ≤ q) s.heap H locs → ls.size = nL → va_Run p l e R s m args below meth c H locs cells slots mc ms (F0 m pc ls rest) st (QU D B k hi F aa) (fun q => B + k ≤ q)) (f' : Nat → va_E) (ho : ∀ i, lo ≤ i → i < k → f' i = f i) (hF : ∀ i, k ≤ i → i < hi → f' i = F i) (kk : UU p l e R s m args below meth c Q D B lo hi f' nL (cells + mc) (slots + ms) (pc + 3) lv st) : UU p l e R s m args below meth c Q D B lo n f nL cells slots pc lv rest := by
  intro H locs ls hz hP hS hL
  refine va_callv (hr H locs ls hz hP hS hL.1) hS (fun q _ h => Nat.le_trans (Nat.add_le_add_left hk1 B) h) (fun q h => Nat.le_trans (Nat.add_le_add_left hk1 B) h) (fun u t H1 locs1 ht _ _ hB hz1 hk0 hS1 => ?_)
  obtain ⟨b1, b2⟩ := hB
  rw [ht] at b1 b2
  refine kk H1 locs1 ls b1 (fun i h1 h2 => ?_) hS1 hL
  by_cases h : i < k
  · rw [ho i h1 h]
    exact (hP i h1 (by omega)).kept (hk0 (B + i) (by omega) (by omega))
  · rw [hF i (by omega) h2]
    exact b2 i (by omega) h2
theorem U_callI (C : CI p s m meth c D T cc own nL) {F : Nat → va_E} (hk1 : lo ≤ k) (hk2 : k ≤ n) (hM : KM l y cc' maxL' none fr lc mc ms [.ref (B + k)] D T B k n f (QU D B k hi F)) (hl : Cond.methodLink own idx y ∈ nwL) (hini : Cond.initialized y.cls ∈ nwL) (hin : Cond.instanceMethod y ∈ nwL) (hco : Cond.code y cc' maxL' none ∈ nwL) (hy1 : y.name = "<init>") (hy : y.cls ≠ "java/lang/invoke/MethodHandle" ∧ y.cls ≠ "java/lang/invoke/VarHandle" ∧ (parseMethodDescriptor y.desc).map (fun d => d.parameters.length) = some 0) (hR : fr + 1 ≤ R.frames ∧ 8 + (maxL' + 11) + lc ≤ R.locals) (hcat : (st.map fun v => v.category).sum ≤ 8) (hf : cells + mc ≤ R.cells ∧ slots + ms ≤ R.slots) (hd : decode cc pc = .ok (.invokespecial idx, 3)) (f' : Nat → va_E) (ho : ∀ i, lo ≤ i → i < k → f' i = f i) (hF : ∀ i, k ≤ i → i < hi → f' i = F i) (kk : UU p l e R s m args below meth c Q D B lo hi f' nL (cells + mc) (slots + ms) (pc + 3) lv st) : UU p l e R s m args below meth c Q D B lo n f nL cells slots pc lv (.ref (B + k) :: st) :=
  U_after hk1 hk2 (fun H locs ls hz hP hS hL => va_runI (As := []) C.fix hM (cwI 0 (C.hts args) (fun w hw => by rw [List.mem_singleton.mp hw]; exact ⟨hco, Or.inl rfl⟩) rfl rfl rfl (C.hts args _ hini) (C.hts args _ hl) (C.hts args _ hin) hy1 hy hR) ⟨PD.blind, C.pre (locs := locs) hz hP hk1⟩ rfl rfl hL rfl (lv_room hcat) hd hf) f' ho hF kk
theorem U_callIN (C : CI p s m meth c D T cc own nL) {host : String} {F : Nat → va_E} (hk1 : lo ≤ k) (hk2 : k ≤ n) (hM : KM l y cc' maxL' none fr lc mc ms [.ref (B + k)] D T B k n f (QU D B k hi F)) (hl : Cond.methodLinkNest own idx y host ∈ nwL) (hini : Cond.initialized y.cls ∈ nwL) (hin : Cond.instanceMethod y ∈ nwL) (hco : Cond.code y cc' maxL' none ∈ nwL) (hy1 : y.name = "<init>") (hy : y.cls ≠ "java/lang/invoke/MethodHandle" ∧ y.cls ≠ "java/lang/invoke/VarHandle" ∧ (parseMethodDescriptor y.desc).map (fun d => d.parameters.length) = some 0) (hR : fr + 1 ≤ R.frames ∧ 8 + (maxL' + 11) + lc ≤ R.locals) (hcat : (st.map fun v => v.category).sum ≤ 8) (hf : cells + mc ≤ R.cells ∧ slots + ms ≤ R.slots) (hd : decode cc pc = .ok (.invokespecial idx, 3)) (f' : Nat → va_E) (ho : ∀ i, lo ≤ i → i < k → f' i = f i) (hF : ∀ i, k ≤ i → i < hi → f' i = F i) (kk : UU p l e R s m args below meth c Q D B lo hi f' nL (cells + mc) (slots + ms) (pc + 3) lv st) : UU p l e R s m args below meth c Q D B lo n f nL cells slots pc lv (.ref (B + k) :: st) :=
  U_after hk1 hk2 (fun H locs ls hz hP hS hL => va_runIN (As := []) C.fix hM ⟨cnm rfl hini hco hy C.hts hl hR, hy1, C.hts args _ hin⟩ ⟨PD.blind, C.pre (locs := locs) hz hP hk1⟩ rfl rfl hL rfl (lv_room hcat) hd hf) f' ho hF kk
theorem U_callS (C : CI p s m meth c D T cc own nL) {nA : Nat} {v : Int32} (hM : KM l y cc' maxL' (some .int) fr lc 0 0 As D T B n n f (QW B n v)) (hw : MSW y cc' maxL' (some .int) nA) (hlk : Cond.methodLink own idx y ∈ nwL) (hlo : lo ≤ n) (hn : As.length = nA) (hR : fr + 1 ≤ R.frames ∧ 8 + (maxL' + 11) + lc ≤ R.locals) (hst : st = As.reverse ++ rest) (hcat : (rest.map fun v => v.category).sum ≤ 8) (hf : cells ≤ R.cells ∧ slots ≤ R.slots) (hd : decode cc pc = .ok (.invokestatic idx, 3)) (kk : UU p l e R s m args below meth c Q D B lo n f nL cells slots (pc + 3) lv (.int v :: rest)) : UU p l e R s m args below meth c Q D B lo n f nL cells slots pc lv st := by
  intro H locs ls hz hP hS hL
  have hle : ∀ q : Nat, B + n ≤ q → B + lo ≤ q := fun q h => Nat.le_trans (Nat.add_le_add_left hlo B) h
  refine va_calli (va_runS C.fix hM (cwSm hw (C.hts args) hlk hR) ⟨PD.blind, C.pre (locs := locs) hz hP hlo⟩ rfl hn hL.1 hst (lv_room hcat) hd hf) hS (fun q _ h => hle q h) (fun q h => hle q h) (fun r u t H1 locs1 ht _ hp hB hz1 hk0 hS1 => ?_)
  have hp' : r = v := hp
  rw [hp']
  have hB' : H1.size = B + n := by rw [← ht]; exact hB
  exact kk H1 locs1 ls hB' (fun i h1 h2 => (hP i h1 h2).kept (hk0 (B + i) (by omega) (by omega))) hS1 hL
end UUR
