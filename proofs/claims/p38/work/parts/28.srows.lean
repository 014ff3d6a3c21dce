/-! rows of the law's own methods: the class's world beside rows of ints, youngest first -/
abbrev bz : Mem := fun _ _ => 0
abbrev oz : Out := (0, 0)
/-- address, kind (0 int, 1 boolean), length, contents -/
abbrev Ar : Type := Nat × Nat × Nat × (Nat → Int32)
def AR (x : Sh) (B : Nat) (ar : List Ar) (H : Heap) : Prop := ∀ (i : Nat) (e : Ar), ar[i]? = some e → B ≤ e.1 ∧ (∀ k, k < 70 → e.1 ≠ x.2.1 k) ∧ (∀ (j : Nat) (e' : Ar), ar[j]? = some e' → i ≠ j → e.1 ≠ e'.1) ∧ H[e.1]? = some (vp_cell (x.2.2 e.2.1) (e.2.2.1, .inl e.2.2.2))
theorem AR.nil {x : Sh} {B : Nat} {H : Heap} : AR x B [] H := fun i e h => by simp at h
theorem AR.lt {x : Sh} {B : Nat} {ar : List Ar} {H : Heap} (h : AR x B ar H) {i : Nat} {e : Ar} (he : ar[i]? = some e) : e.1 < H.size := (Array.getElem?_eq_some_iff.mp (h i e he).2.2.2).1
theorem AR.kept {x : Sh} {B : Nat} {ar : List Ar} {H H1 : Heap} (h : AR x B ar H) (hq : ∀ q : Nat, q < H.size → B ≤ q → (∀ k, k < 70 → q ≠ x.2.1 k) → H1[q]? = H[q]?) : AR x B ar H1 := fun i e he => by
  obtain ⟨h1, h2, h3, h4⟩ := h i e he
  exact ⟨h1, h2, h3, (hq e.1 (h.lt he) h1 h2).trans h4⟩
theorem AR.tail {x : Sh} {B : Nat} {e0 : Ar} {ar : List Ar} {H : Heap} (h : AR x B (e0 :: ar) H) : AR x B ar H := fun i e he => by
  obtain ⟨h1, h2, h3, h4⟩ := h (i + 1) e (by simpa using he)
  exact ⟨h1, h2, fun j e' hj hij => h3 (j + 1) e' (by simpa using hj) (by omega), h4⟩
theorem AR.push {x : Sh} {B q : Nat} {ar : List Ar} {H H1 : Heap} {c n : Nat} {g : Nat → Int32} (h : AR x B ar H) (hB : B ≤ H.size) (hx : ∀ k, k < 70 → x.2.1 k < H.size) (hq : q = H.size) (h1 : H1[q]? = some (vp_cell (x.2.2 c) (n, .inl g))) (ho : ∀ q : Nat, q < H.size → H1[q]? = H[q]?) : AR x B ((q, c, n, g) :: ar) H1 := fun i e he => by
  cases i with
  | zero =>
    have e0 : (q, c, n, g) = e := by simpa using he
    subst e0
    refine ⟨by show B ≤ q; omega, fun k hk z => ?_, fun j e' hj hij z => ?_, h1⟩
    · have := hx k hk
      have z' : q = x.2.1 k := z
      omega
    · cases j with
      | zero => exact hij rfl
      | succ j =>
        have := h.lt (i := j) (e := e') (by simpa using hj)
        have z' : q = e'.1 := z
        omega
  | succ i =>
    have he' : ar[i]? = some e := by simpa using he
    obtain ⟨g1, g2, g3, g4⟩ := h i e he'
    refine ⟨g1, g2, fun j e' hj hij z => ?_, (ho e.1 (h.lt he')).trans g4⟩
    cases j with
    | zero =>
      have e0 : (q, c, n, g) = e' := by simpa using hj
      subst e0
      have := h.lt he'
      have z' : e.1 = q := z
      omega
    | succ j => exact g3 j e' (by simpa using hj) (by omega) z
theorem AR.set {x : Sh} {B i q : Nat} {ar : List Ar} {H H1 : Heap} {c n : Nat} {g g' : Nat → Int32} (h : AR x B ar H) (hi : ar[i]? = some (q, c, n, g)) (h1 : H1[q]? = some (vp_cell (x.2.2 c) (n, .inl g'))) (ho : ∀ q' : Nat, q' ≠ q → H1[q']? = H[q']?) : AR x B (ar.set i (q, c, n, g')) H1 := fun j e he => by
  have key : ∀ (j : Nat) (e : Ar), (ar.set i (q, c, n, g'))[j]? = some e → ∃ e0 : Ar, ar[j]? = some e0 ∧ e0.1 = e.1 ∧ (j = i → e = (q, c, n, g')) ∧ (j ≠ i → e = e0) := by
    intro j e he
    by_cases hji : j = i
    · subst hji
      have hl : j < ar.length := (List.getElem?_eq_some_iff.mp hi).1
      rw [List.getElem?_set_self hl] at he
      cases he
      exact ⟨_, hi, rfl, fun _ => rfl, fun z => absurd rfl z⟩
    · rw [List.getElem?_set_ne (Ne.symm hji)] at he
      exact ⟨e, he, rfl, fun z => absurd z hji, fun _ => rfl⟩
  obtain ⟨e0, k1, k2, k3, k4⟩ := key j e he
  obtain ⟨g1, g2, g3, g4⟩ := h j e0 k1
  rw [k2] at g1 g2 g3 g4
  refine ⟨g1, g2, fun j2 e2 hj2 hne => ?_, ?_⟩
  · obtain ⟨e02, l1, l2, -, -⟩ := key j2 e2 hj2
    rw [← l2]
    exact g3 j2 e02 l1 hne
  · by_cases hji : j = i
    · have e1 := k3 hji
      subst e1
      exact h1
    · have e1 := k4 hji
      have hqe : e.1 ≠ q := by
        have := g3 i _ hi hji
        exact this
      rw [ho e.1 hqe, g4, e1]
def SS (p : Program) (l : Launch) (e : Env) (R : Room) (s : State) (m : MethodId) (args : Array Value) (below : List Frame) (meth : Method) (c : Code) (Q : State → Prop) (x : Sh) (nL : Nat) (a : Mem) (ar : List Ar) (cells slots pc : Nat) (lv : List (Option Value)) (st : List Value) : Prop :=
  ∀ (H : Heap) (locs : List Loc) (ls : Array Slot), va_P x.1 vwCl (wd x a bz oz) H → AR x s.heap.size ar H → va_S (AW x s.heap.size) s.heap H locs → LV nL ls lv → W p l e R s m args below meth c H locs cells slots Q (F0 m pc ls st)
section SSR
variable {p : Program} {l : Launch} {e : Env} {R : Room} {s : State} {m : MethodId} {args : Array Value} {below : List Frame} {meth : Method} {c : Code} {Q : State → Prop} {x : Sh} {nL : Nat} {a a2 : Mem} {ar : List Ar} {cells slots pc : Nat} {lv : List (Option Value)} {st rest As : List Value} {cc : ByteArray} {own : String}
theorem S_iconst (C : CX p l s m meth c x cc own nL) {n : Int} {v : Int32} (hd : decode cc pc = .ok (.iconst n, 1)) (hv : Int32.ofInt n = v) (kk : SS p l e R s m args below meth c Q x nL a ar cells slots (pc + 1) lv (.int v :: st)) : SS p l e R s m args below meth c Q x nL a ar cells slots pc lv (st) := fun H locs ls hP hA hS hL => lv_iconst C.1 C.2.1 hd hv (kk H locs ls hP hA hS hL)
theorem S_bipush (C : CX p l s m meth c x cc own nL) {n : Int} {v : Int32} (hd : decode cc pc = .ok (.bipush n, 2)) (hv : (Int8.ofInt n).toInt32 = v) (kk : SS p l e R s m args below meth c Q x nL a ar cells slots (pc + 2) lv (.int v :: st)) : SS p l e R s m args below meth c Q x nL a ar cells slots pc lv (st) := fun H locs ls hP hA hS hL => lv_bipush C.1 C.2.1 hd hv (kk H locs ls hP hA hS hL)
theorem S_sipush (C : CX p l s m meth c x cc own nL) {n : Int} {v : Int32} (hd : decode cc pc = .ok (.sipush n, 3)) (hv : (Int16.ofInt n).toInt32 = v) (kk : SS p l e R s m args below meth c Q x nL a ar cells slots (pc + 3) lv (.int v :: st)) : SS p l e R s m args below meth c Q x nL a ar cells slots pc lv (st) := fun H locs ls hP hA hS hL => lv_sipush C.1 C.2.1 hd hv (kk H locs ls hP hA hS hL)
theorem S_iadd (C : CX p l s m meth c x cc own nL) {y1 y2 : Int32} (hd : decode cc pc = .ok (.iadd, 1))  (kk : SS p l e R s m args below meth c Q x nL a ar cells slots (pc + 1) lv (.int (y1 + y2) :: st)) : SS p l e R s m args below meth c Q x nL a ar cells slots pc lv (.int y2 :: .int y1 :: st) := fun H locs ls hP hA hS hL => lv_iadd C.1 C.2.1 hd  (kk H locs ls hP hA hS hL)
theorem S_isub (C : CX p l s m meth c x cc own nL) {y1 y2 : Int32} (hd : decode cc pc = .ok (.isub, 1))  (kk : SS p l e R s m args below meth c Q x nL a ar cells slots (pc + 1) lv (.int (y1 - y2) :: st)) : SS p l e R s m args below meth c Q x nL a ar cells slots pc lv (.int y2 :: .int y1 :: st) := fun H locs ls hP hA hS hL => lv_isub C.1 C.2.1 hd  (kk H locs ls hP hA hS hL)
theorem S_imul (C : CX p l s m meth c x cc own nL) {y1 y2 : Int32} (hd : decode cc pc = .ok (.imul, 1))  (kk : SS p l e R s m args below meth c Q x nL a ar cells slots (pc + 1) lv (.int (y1 * y2) :: st)) : SS p l e R s m args below meth c Q x nL a ar cells slots pc lv (.int y2 :: .int y1 :: st) := fun H locs ls hP hA hS hL => lv_imul C.1 C.2.1 hd  (kk H locs ls hP hA hS hL)
theorem S_idiv (C : CX p l s m meth c x cc own nL) {y1 y2 : Int32} (hd : decode cc pc = .ok (.idiv, 1)) (hne : ¬ y2 = 0) (kk : SS p l e R s m args below meth c Q x nL a ar cells slots (pc + 1) lv (.int (y1 / y2) :: st)) : SS p l e R s m args below meth c Q x nL a ar cells slots pc lv (.int y2 :: .int y1 :: st) := fun H locs ls hP hA hS hL => lv_idiv C.1 C.2.1 hd hne (kk H locs ls hP hA hS hL)
theorem S_irem (C : CX p l s m meth c x cc own nL) {y1 y2 : Int32} (hd : decode cc pc = .ok (.irem, 1)) (hne : ¬ y2 = 0) (kk : SS p l e R s m args below meth c Q x nL a ar cells slots (pc + 1) lv (.int (y1 - y1 / y2 * y2) :: st)) : SS p l e R s m args below meth c Q x nL a ar cells slots pc lv (.int y2 :: .int y1 :: st) := fun H locs ls hP hA hS hL => lv_irem C.1 C.2.1 hd hne (kk H locs ls hP hA hS hL)
theorem S_dup (C : CX p l s m meth c x cc own nL) {v : Value} (hd : decode cc pc = .ok (.dup, 1)) (hv : v.category = 1) (kk : SS p l e R s m args below meth c Q x nL a ar cells slots (pc + 1) lv (v :: v :: st)) : SS p l e R s m args below meth c Q x nL a ar cells slots pc lv (v :: st) := fun H locs ls hP hA hS hL => lv_dup C.1 C.2.1 hd hv (kk H locs ls hP hA hS hL)
theorem S_fconst0 (C : CX p l s m meth c x cc own nL)  (hd : decode cc pc = .ok (.fconst 0, 1))  (kk : SS p l e R s m args below meth c Q x nL a ar cells slots (pc + 1) lv (.float FP.fconst0 :: st)) : SS p l e R s m args below meth c Q x nL a ar cells slots pc lv (st) := fun H locs ls hP hA hS hL => lv_fconst0 C.1 C.2.1 hd  (kk H locs ls hP hA hS hL)
theorem S_fcmp (C : CX p l s m meth c x cc own nL) {y1 y2 : UInt32} {op : CmpOp} (hd : decode cc pc = .ok (.fcmp op, 1))  (kk : SS p l e R s m args below meth c Q x nL a ar cells slots (pc + 1) lv (.int (Op.cmpValue (FP.fcmp y1 y2) op) :: st)) : SS p l e R s m args below meth c Q x nL a ar cells slots pc lv (.float y2 :: .float y1 :: st) := fun H locs ls hP hA hS hL => lv_fcmp C.1 C.2.1 hd  (kk H locs ls hP hA hS hL)
theorem S_dcmp (C : CX p l s m meth c x cc own nL) {y1 y2 : UInt64} {op : CmpOp} (hd : decode cc pc = .ok (.dcmp op, 1))  (kk : SS p l e R s m args below meth c Q x nL a ar cells slots (pc + 1) lv (.int (Op.cmpValue (FP.dcmp y1 y2) op) :: st)) : SS p l e R s m args below meth c Q x nL a ar cells slots pc lv (.double y2 :: .double y1 :: st) := fun H locs ls hP hA hS hL => lv_dcmp C.1 C.2.1 hd  (kk H locs ls hP hA hS hL)
theorem S_ldc (C : CX p l s m meth c x cc own nL) {idx : Nat} {v : Int32} (hw : Cond.constant own idx v ∈ nwL) (hd : decode cc pc = .ok (.ldc idx, 2)) (kk : SS p l e R s m args below meth c Q x nL a ar cells slots (pc + 2) lv (.int v :: st)) : SS p l e R s m args below meth c Q x nL a ar cells slots pc lv st := fun H locs ls hP hA hS hL => lv_ldc C.1 C.2.1 C.2.2.2.1 (C.hts (args := args) _ hw) hd (kk H locs ls hP hA hS hL)
theorem S_ldc2d (C : CX p l s m meth c x cc own nL) {idx : Nat} {v : UInt64} (hw : Cond.constantDouble own idx v ∈ nwL) (hd : decode cc pc = .ok (.ldc2_w idx, 3)) (kk : SS p l e R s m args below meth c Q x nL a ar cells slots (pc + 3) lv (.double v :: st)) : SS p l e R s m args below meth c Q x nL a ar cells slots pc lv st := fun H locs ls hP hA hS hL => lv_ldc2d C.1 C.2.1 C.2.2.2.1 (C.hts (args := args) _ hw) hd (kk H locs ls hP hA hS hL)
theorem S_iload_n (C : CX p l s m meth c x cc own nL) {k : Fin 4} {y : Int32} (hd : decode cc pc = .ok (.iload_n k, 1)) (hl : lv[(k : Nat)]? = some (some (.int y))) (kk : SS p l e R s m args below meth c Q x nL a ar cells slots (pc + 1) lv (.int y :: st)) : SS p l e R s m args below meth c Q x nL a ar cells slots pc lv st := fun H locs ls hP hA hS hL => lv_iload_n C.1 C.2.1 hd rfl (hL.2.2.2 _ _ hl).1 (kk H locs ls hP hA hS hL)
theorem S_iload (C : CX p l s m meth c x cc own nL) {k : Nat} {y : Int32} (hd : decode cc pc = .ok (.iload k, 2)) (hl : lv[k]? = some (some (.int y))) (kk : SS p l e R s m args below meth c Q x nL a ar cells slots (pc + 2) lv (.int y :: st)) : SS p l e R s m args below meth c Q x nL a ar cells slots pc lv st := fun H locs ls hP hA hS hL => lv_iload C.1 C.2.1 hd (hL.2.2.2 _ _ hl).1 (kk H locs ls hP hA hS hL)
theorem S_istore_n (C : CX p l s m meth c x cc own nL) {k : Fin 4} {y : Int32} (hd : decode cc pc = .ok (.istore_n k, 1)) (hn : (k : Nat) < nL) {lv' : List (Option Value)} (he : lv.set (k : Nat) (some (.int y)) = lv') (kk : SS p l e R s m args below meth c Q x nL a ar cells slots (pc + 1) lv' st) : SS p l e R s m args below meth c Q x nL a ar cells slots pc lv (.int y :: st) := by
  subst he
  intro H locs ls hP hA hS hL
  obtain ⟨ls', e', h'⟩ := hL.store (v := .int y) hn rfl
  obtain ⟨hx, hb, -⟩ := id C
  intro T hT X
  obtain ⟨t, a1, b1⟩ := kk H locs ls' hP hA hS h' T hT X
  refine ⟨t, ?_, b1⟩
  jvm_step X.here [X.here.top, hx, hb, hd, e', Value.isRef]
  exact a1
theorem S_istore (C : CX p l s m meth c x cc own nL) {k : Nat} {y : Int32} (hd : decode cc pc = .ok (.istore k, 2)) (hn : k < nL) {lv' : List (Option Value)} (he : lv.set k (some (.int y)) = lv') (kk : SS p l e R s m args below meth c Q x nL a ar cells slots (pc + 2) lv' st) : SS p l e R s m args below meth c Q x nL a ar cells slots pc lv (.int y :: st) := by
  subst he
  intro H locs ls hP hA hS hL
  obtain ⟨ls', e', h'⟩ := hL.store (v := .int y) hn rfl
  obtain ⟨hx, hb, -⟩ := id C
  intro T hT X
  obtain ⟨t, a1, b1⟩ := kk H locs ls' hP hA hS h' T hT X
  refine ⟨t, ?_, b1⟩
  jvm_step X.here [X.here.top, hx, hb, hd, e', Value.isRef]
  exact a1
theorem S_aload_n (C : CX p l s m meth c x cc own nL) {k : Fin 4} {y : Nat} (hd : decode cc pc = .ok (.aload_n k, 1)) (hl : lv[(k : Nat)]? = some (some (.ref y))) (kk : SS p l e R s m args below meth c Q x nL a ar cells slots (pc + 1) lv (.ref y :: st)) : SS p l e R s m args below meth c Q x nL a ar cells slots pc lv st := fun H locs ls hP hA hS hL => lv_aload_n C.1 C.2.1 hd rfl (hL.2.2.2 _ _ hl).1 (kk H locs ls hP hA hS hL)
theorem S_aload (C : CX p l s m meth c x cc own nL) {k : Nat} {y : Nat} (hd : decode cc pc = .ok (.aload k, 2)) (hl : lv[k]? = some (some (.ref y))) (kk : SS p l e R s m args below meth c Q x nL a ar cells slots (pc + 2) lv (.ref y :: st)) : SS p l e R s m args below meth c Q x nL a ar cells slots pc lv st := fun H locs ls hP hA hS hL => lv_aload C.1 C.2.1 hd (hL.2.2.2 _ _ hl).1 (kk H locs ls hP hA hS hL)
theorem S_astore_n (C : CX p l s m meth c x cc own nL) {k : Fin 4} {y : Nat} (hd : decode cc pc = .ok (.astore_n k, 1)) (hn : (k : Nat) < nL) {lv' : List (Option Value)} (he : lv.set (k : Nat) (some (.ref y)) = lv') (kk : SS p l e R s m args below meth c Q x nL a ar cells slots (pc + 1) lv' st) : SS p l e R s m args below meth c Q x nL a ar cells slots pc lv (.ref y :: st) := by
  subst he
  intro H locs ls hP hA hS hL
  obtain ⟨ls', e', h'⟩ := hL.store (v := .ref y) hn rfl
  obtain ⟨hx, hb, -⟩ := id C
  intro T hT X
  obtain ⟨t, a1, b1⟩ := kk H locs ls' hP hA hS h' T hT X
  refine ⟨t, ?_, b1⟩
  jvm_step X.here [X.here.top, hx, hb, hd, e', Value.isRef]
  exact a1
theorem S_astore (C : CX p l s m meth c x cc own nL) {k : Nat} {y : Nat} (hd : decode cc pc = .ok (.astore k, 2)) (hn : k < nL) {lv' : List (Option Value)} (he : lv.set k (some (.ref y)) = lv') (kk : SS p l e R s m args below meth c Q x nL a ar cells slots (pc + 2) lv' st) : SS p l e R s m args below meth c Q x nL a ar cells slots pc lv (.ref y :: st) := by
  subst he
  intro H locs ls hP hA hS hL
  obtain ⟨ls', e', h'⟩ := hL.store (v := .ref y) hn rfl
  obtain ⟨hx, hb, -⟩ := id C
  intro T hT X
  obtain ⟨t, a1, b1⟩ := kk H locs ls' hP hA hS h' T hT X
  refine ⟨t, ?_, b1⟩
  jvm_step X.here [X.here.top, hx, hb, hd, e', Value.isRef]
  exact a1
theorem S_iinc (C : CX p l s m meth c x cc own nL) {k : Nat} {z : Int} {y v : Int32} (hd : decode cc pc = .ok (.iinc k z, 3)) (hl : lv[k]? = some (some (.int y))) (hv : y + Int32.ofInt z = v) (hn : k < nL) {lv' : List (Option Value)} (he : lv.set k (some (.int v)) = lv') (kk : SS p l e R s m args below meth c Q x nL a ar cells slots (pc + 3) lv' st) : SS p l e R s m args below meth c Q x nL a ar cells slots pc lv st := by
  subst he
  intro H locs ls hP hA hS hL
  obtain ⟨ls', e', h'⟩ := hL.store (v := .int v) hn rfl
  obtain ⟨hx, hb, -⟩ := id C
  have hg := (hL.2.2.2 _ _ hl).1
  subst hv
  intro T hT X
  obtain ⟨t, a1, b1⟩ := kk H locs ls' hP hA hS h' T hT X
  refine ⟨t, ?_, b1⟩
  jvm_step X.here [X.here.top, hx, hb, hd, hg, e']
  exact a1
theorem S_if_eq (C : CX p l s m meth c x cc own nL) {y1 : Int32} {off : Int} (tgt : Nat) (hd : decode cc pc = .ok (.ifCond .eq off, 3)) (ht : (pc : Int) + off = (tgt : Int)) (kt : y1 = 0 → SS p l e R s m args below meth c Q x nL a ar cells slots tgt lv st) (kf : ¬ y1 = 0 → SS p l e R s m args below meth c Q x nL a ar cells slots (pc + 3) lv st) : SS p l e R s m args below meth c Q x nL a ar cells slots pc lv (.int y1 :: st) := fun H locs ls hP hA hS hL => lv_if_eq C.1 C.2.1 hd ht (fun h => kt h H locs ls hP hA hS hL) (fun h => kf h H locs ls hP hA hS hL)
theorem S_if_ne (C : CX p l s m meth c x cc own nL) {y1 : Int32} {off : Int} (tgt : Nat) (hd : decode cc pc = .ok (.ifCond .ne off, 3)) (ht : (pc : Int) + off = (tgt : Int)) (kt : ¬ y1 = 0 → SS p l e R s m args below meth c Q x nL a ar cells slots tgt lv st) (kf : y1 = 0 → SS p l e R s m args below meth c Q x nL a ar cells slots (pc + 3) lv st) : SS p l e R s m args below meth c Q x nL a ar cells slots pc lv (.int y1 :: st) := fun H locs ls hP hA hS hL => lv_if_ne C.1 C.2.1 hd ht (fun h => kt h H locs ls hP hA hS hL) (fun h => kf h H locs ls hP hA hS hL)
theorem S_if_lt (C : CX p l s m meth c x cc own nL) {y1 : Int32} {off : Int} (tgt : Nat) (hd : decode cc pc = .ok (.ifCond .lt off, 3)) (ht : (pc : Int) + off = (tgt : Int)) (kt : y1 < 0 → SS p l e R s m args below meth c Q x nL a ar cells slots tgt lv st) (kf : ¬ y1 < 0 → SS p l e R s m args below meth c Q x nL a ar cells slots (pc + 3) lv st) : SS p l e R s m args below meth c Q x nL a ar cells slots pc lv (.int y1 :: st) := fun H locs ls hP hA hS hL => lv_if_lt C.1 C.2.1 hd ht (fun h => kt h H locs ls hP hA hS hL) (fun h => kf h H locs ls hP hA hS hL)
theorem S_if_ge (C : CX p l s m meth c x cc own nL) {y1 : Int32} {off : Int} (tgt : Nat) (hd : decode cc pc = .ok (.ifCond .ge off, 3)) (ht : (pc : Int) + off = (tgt : Int)) (kt : 0 ≤ y1 → SS p l e R s m args below meth c Q x nL a ar cells slots tgt lv st) (kf : ¬ 0 ≤ y1 → SS p l e R s m args below meth c Q x nL a ar cells slots (pc + 3) lv st) : SS p l e R s m args below meth c Q x nL a ar cells slots pc lv (.int y1 :: st) := fun H locs ls hP hA hS hL => lv_if_ge C.1 C.2.1 hd ht (fun h => kt h H locs ls hP hA hS hL) (fun h => kf h H locs ls hP hA hS hL)
theorem S_if_gt (C : CX p l s m meth c x cc own nL) {y1 : Int32} {off : Int} (tgt : Nat) (hd : decode cc pc = .ok (.ifCond .gt off, 3)) (ht : (pc : Int) + off = (tgt : Int)) (kt : 0 < y1 → SS p l e R s m args below meth c Q x nL a ar cells slots tgt lv st) (kf : ¬ 0 < y1 → SS p l e R s m args below meth c Q x nL a ar cells slots (pc + 3) lv st) : SS p l e R s m args below meth c Q x nL a ar cells slots pc lv (.int y1 :: st) := fun H locs ls hP hA hS hL => lv_if_gt C.1 C.2.1 hd ht (fun h => kt h H locs ls hP hA hS hL) (fun h => kf h H locs ls hP hA hS hL)
theorem S_if_le (C : CX p l s m meth c x cc own nL) {y1 : Int32} {off : Int} (tgt : Nat) (hd : decode cc pc = .ok (.ifCond .le off, 3)) (ht : (pc : Int) + off = (tgt : Int)) (kt : y1 ≤ 0 → SS p l e R s m args below meth c Q x nL a ar cells slots tgt lv st) (kf : ¬ y1 ≤ 0 → SS p l e R s m args below meth c Q x nL a ar cells slots (pc + 3) lv st) : SS p l e R s m args below meth c Q x nL a ar cells slots pc lv (.int y1 :: st) := fun H locs ls hP hA hS hL => lv_if_le C.1 C.2.1 hd ht (fun h => kt h H locs ls hP hA hS hL) (fun h => kf h H locs ls hP hA hS hL)
theorem S_icmp_eq (C : CX p l s m meth c x cc own nL) {y1 y2 : Int32} {off : Int} (tgt : Nat) (hd : decode cc pc = .ok (.if_icmp .eq off, 3)) (ht : (pc : Int) + off = (tgt : Int)) (kt : y1 = y2 → SS p l e R s m args below meth c Q x nL a ar cells slots tgt lv st) (kf : ¬ y1 = y2 → SS p l e R s m args below meth c Q x nL a ar cells slots (pc + 3) lv st) : SS p l e R s m args below meth c Q x nL a ar cells slots pc lv (.int y2 :: .int y1 :: st) := fun H locs ls hP hA hS hL => lv_icmp_eq C.1 C.2.1 hd ht (fun h => kt h H locs ls hP hA hS hL) (fun h => kf h H locs ls hP hA hS hL)
theorem S_icmp_ne (C : CX p l s m meth c x cc own nL) {y1 y2 : Int32} {off : Int} (tgt : Nat) (hd : decode cc pc = .ok (.if_icmp .ne off, 3)) (ht : (pc : Int) + off = (tgt : Int)) (kt : ¬ y1 = y2 → SS p l e R s m args below meth c Q x nL a ar cells slots tgt lv st) (kf : y1 = y2 → SS p l e R s m args below meth c Q x nL a ar cells slots (pc + 3) lv st) : SS p l e R s m args below meth c Q x nL a ar cells slots pc lv (.int y2 :: .int y1 :: st) := fun H locs ls hP hA hS hL => lv_icmp_ne C.1 C.2.1 hd ht (fun h => kt h H locs ls hP hA hS hL) (fun h => kf h H locs ls hP hA hS hL)
theorem S_icmp_lt (C : CX p l s m meth c x cc own nL) {y1 y2 : Int32} {off : Int} (tgt : Nat) (hd : decode cc pc = .ok (.if_icmp .lt off, 3)) (ht : (pc : Int) + off = (tgt : Int)) (kt : y1 < y2 → SS p l e R s m args below meth c Q x nL a ar cells slots tgt lv st) (kf : ¬ y1 < y2 → SS p l e R s m args below meth c Q x nL a ar cells slots (pc + 3) lv st) : SS p l e R s m args below meth c Q x nL a ar cells slots pc lv (.int y2 :: .int y1 :: st) := fun H locs ls hP hA hS hL => lv_icmp_lt C.1 C.2.1 hd ht (fun h => kt h H locs ls hP hA hS hL) (fun h => kf h H locs ls hP hA hS hL)
theorem S_icmp_ge (C : CX p l s m meth c x cc own nL) {y1 y2 : Int32} {off : Int} (tgt : Nat) (hd : decode cc pc = .ok (.if_icmp .ge off, 3)) (ht : (pc : Int) + off = (tgt : Int)) (kt : y2 ≤ y1 → SS p l e R s m args below meth c Q x nL a ar cells slots tgt lv st) (kf : ¬ y2 ≤ y1 → SS p l e R s m args below meth c Q x nL a ar cells slots (pc + 3) lv st) : SS p l e R s m args below meth c Q x nL a ar cells slots pc lv (.int y2 :: .int y1 :: st) := fun H locs ls hP hA hS hL => lv_icmp_ge C.1 C.2.1 hd ht (fun h => kt h H locs ls hP hA hS hL) (fun h => kf h H locs ls hP hA hS hL)
theorem S_icmp_gt (C : CX p l s m meth c x cc own nL) {y1 y2 : Int32} {off : Int} (tgt : Nat) (hd : decode cc pc = .ok (.if_icmp .gt off, 3)) (ht : (pc : Int) + off = (tgt : Int)) (kt : y2 < y1 → SS p l e R s m args below meth c Q x nL a ar cells slots tgt lv st) (kf : ¬ y2 < y1 → SS p l e R s m args below meth c Q x nL a ar cells slots (pc + 3) lv st) : SS p l e R s m args below meth c Q x nL a ar cells slots pc lv (.int y2 :: .int y1 :: st) := fun H locs ls hP hA hS hL => lv_icmp_gt C.1 C.2.1 hd ht (fun h => kt h H locs ls hP hA hS hL) (fun h => kf h H locs ls hP hA hS hL)
theorem S_icmp_le (C : CX p l s m meth c x cc own nL) {y1 y2 : Int32} {off : Int} (tgt : Nat) (hd : decode cc pc = .ok (.if_icmp .le off, 3)) (ht : (pc : Int) + off = (tgt : Int)) (kt : y1 ≤ y2 → SS p l e R s m args below meth c Q x nL a ar cells slots tgt lv st) (kf : ¬ y1 ≤ y2 → SS p l e R s m args below meth c Q x nL a ar cells slots (pc + 3) lv st) : SS p l e R s m args below meth c Q x nL a ar cells slots pc lv (.int y2 :: .int y1 :: st) := fun H locs ls hP hA hS hL => lv_icmp_le C.1 C.2.1 hd ht (fun h => kt h H locs ls hP hA hS hL) (fun h => kf h H locs ls hP hA hS hL)
theorem S_goto (C : CX p l s m meth c x cc own nL) {off : Int} (tgt : Nat) (hd : decode cc pc = .ok (.goto off, 3)) (ht : (pc : Int) + off = (tgt : Int)) (kk : SS p l e R s m args below meth c Q x nL a ar cells slots tgt lv st) : SS p l e R s m args below meth c Q x nL a ar cells slots pc lv st := fun H locs ls hP hA hS hL => lv_goto C.1 C.2.1 hd ht (kk H locs ls hP hA hS hL)
theorem S_lt (C : CX p l s m meth c x cc own nL) {i n : Nat} {off : Int} (tgt : Nat) (hd : decode cc pc = .ok (.if_icmp .ge off, 3)) (ht : (pc : Int) + off = (tgt : Int)) (hi : i < 2 ^ 31) (hn : n < 2 ^ 31) (kt : n ≤ i → SS p l e R s m args below meth c Q x nL a ar cells slots tgt lv st) (kf : i < n → SS p l e R s m args below meth c Q x nL a ar cells slots (pc + 3) lv st) : SS p l e R s m args below meth c Q x nL a ar cells slots pc lv (.int (nI n) :: .int (nI i) :: st) := S_icmp_ge C tgt hd ht (fun h => kt ((nI_leI hn hi).mp h)) (fun h => kf (by have := mt (nI_leI hn hi).mpr h; omega))
theorem S_eqs {st' : List Value} (h : st = st') (kk : SS p l e R s m args below meth c Q x nL a ar cells slots pc lv st') : SS p l e R s m args below meth c Q x nL a ar cells slots pc lv st := h ▸ kk
theorem S_topi {v w : Int32} (h : v = w) (kk : SS p l e R s m args below meth c Q x nL a ar cells slots pc lv (.int w :: st)) : SS p l e R s m args below meth c Q x nL a ar cells slots pc lv (.int v :: st) := h ▸ kk
theorem S_mem (h : a = a2) (kk : SS p l e R s m args below meth c Q x nL a2 ar cells slots pc lv st) : SS p l e R s m args below meth c Q x nL a ar cells slots pc lv st := h ▸ kk
theorem S_rows {ar' : List Ar} (h : ar = ar') (kk : SS p l e R s m args below meth c Q x nL a ar' cells slots pc lv st) : SS p l e R s m args below meth c Q x nL a ar cells slots pc lv st := h ▸ kk
theorem S_cs {k n : Nat} (h1 : cells ≤ k) (h2 : slots ≤ n) (kk : SS p l e R s m args below meth c Q x nL a ar k n pc lv st) : SS p l e R s m args below meth c Q x nL a ar cells slots pc lv st := fun H locs ls hP hA hS hL => W.widen h1 h2 (kk H locs ls hP hA hS hL)
theorem S_forget {lv' : List (Option Value)} (h : lvLe lv' lv) (kk : SS p l e R s m args below meth c Q x nL a ar cells slots pc lv' st) : SS p l e R s m args below meth c Q x nL a ar cells slots pc lv st :=
  fun H locs ls hP hA hS hL => kk H locs ls hP hA hS ⟨hL.1, hL.2.1, by rw [h.1]; exact hL.2.2.1, fun i v hi => hL.2.2.2 i v (h.2 i v hi)⟩
theorem S_drop {e0 : Ar} (kk : SS p l e R s m args below meth c Q x nL a ar cells slots pc lv st) : SS p l e R s m args below meth c Q x nL a (e0 :: ar) cells slots pc lv st := fun H locs ls hP hA hS hL => kk H locs ls hP hA.tail hS hL
theorem CX.at {H : Heap} (hP : va_P x.1 vwCl (wd x a bz oz) H) {k : Nat} (hk : k < 70) : x.2.1 k < H.size := (hP k _ (wd_at hk)).lt
theorem S_newa (C : CX p l s m meth c x cc own nL) {at0 : ArrayType} {c0 N : Nat} {ty : FieldType} {v : Int32} (hty : newarray.typeOf at0 = ty) (hT : (tysx x)[c0]? = some (x.2.2 c0, ty)) (hRA : va_RA s (x.2.2 c0) ty → s.vm.findClass ("[" ++ ty.toString) = some (x.2.2 c0)) (hz : ∀ cA : ClassId, vp_cell cA (N, .inl (fun _ => 0)) = arrV cA N (fun _ => defaultValue ty)) (hn : ¬ v < 0) (hN : v.toNatClampNeg = N) (hb : N * componentBytes ty ≤ 536870912) (hc1 : cells + 1 ≤ R.cells) (hc2 : slots + N ≤ R.slots) (hd : decode cc pc = .ok (.newarray at0, 2)) (kk : ∀ q : Nat, SS p l e R s m args below meth c Q x nL a ((q, c0, N, fun _ => 0) :: ar) (cells + 1) (slots + N) (pc + 2) lv (.ref q :: st)) : SS p l e R s m args below meth c Q x nL a ar cells slots pc lv (.int v :: st) := by
  subst hty
  intro H locs ls hP hA hS hL
  refine va_newaK C.1 C.2.1 (arrC_of (C.K.2 c0 _ hT).1 (hRA (C.K.2 c0 _ hT).2)) rfl hd rfl hn hN hb hc1 hc2 rfl fun H1 cA e1 z1 o1 _ hNm => ?_
  have hcA : cA = x.2.2 c0 := Option.some.inj (hNm.symm.trans (hRA (C.K.2 c0 _ hT).2))
  subst hcA
  have o1' : ∀ q : Nat, q < H.size → H1[q]? = H[q]? := fun q hq => o1 q hq
  refine kk H.size H1 locs ls (hP.kept fun k q hq => o1' q.1 (hP k q hq).lt) (hA.push hS.1 (fun k hk => CX.at hP hk) rfl ?_ o1') (hS.grow (by omega) o1') hL
  rw [hz]
  exact e1
theorem S_iald (C : CX p l s m meth c x cc own nL) {q n : Nat} {g : Nat → Int32} {iv : Int32} (j : Nat) (hj : ar[j]? = some (q, 0, n, g)) (i : Nat) (hi : i < n) (hn : n < 2 ^ 31) (he : iv = nI i) (hd : decode cc pc = .ok (.iaload, 1)) (kk : SS p l e R s m args below meth c Q x nL a ar cells slots (pc + 1) lv (.int (g i) :: st)) : SS p l e R s m args below meth c Q x nL a ar cells slots pc lv (.int iv :: .ref q :: st) := by
  intro H locs ls hP hA hS hL
  subst he
  have h1 : H[q]? = some (arrV (x.2.2 0) n (fun j => .int (g j))) := (hA j _ hj).2.2.2
  have hin := vp_in_le hi hn
  refine W.iald (v := .int (g i)) C.1 C.2.1 h1 ((C.K.2 0 _ rfl).1 n (fun j => .int (g j))) (fun h => by cases h) (by rw [arrV_size]; exact hin) ?_ rfl rfl hd (kk H locs ls hP hA hS hL)
  rw [nI_clamp (by omega)]
  exact arrV_read _ _ hi
theorem S_zald (C : CX p l s m meth c x cc own nL) {q n : Nat} {g : Nat → Int32} {iv : Int32} (j : Nat) (hj : ar[j]? = some (q, 1, n, g)) (i : Nat) (hi : i < n) (hn : n < 2 ^ 31) (he : iv = nI i) (hd : decode cc pc = .ok (.baload, 1)) (kk : SS p l e R s m args below meth c Q x nL a ar cells slots (pc + 1) lv (.int (g i) :: st)) : SS p l e R s m args below meth c Q x nL a ar cells slots pc lv (.int iv :: .ref q :: st) := by
  intro H locs ls hP hA hS hL
  subst he
  have h1 : va_P x.1 vwCl [(q, .inl (x.2.2 1, n, .inl g))] H := fun k z hz => by
    have h0 : k < 1 := (List.getElem?_eq_some_iff.mp hz).1
    rw [show k = 0 by omega] at hz
    cases hz
    exact (hA j _ hj).2.2.2
  refine va_zald C.1 C.2.1 C.K h1 0 1 rfl rfl (vp_in_le hi hn) hd ?_
  rw [nI_clamp (by omega)]
  exact kk H locs ls hP hA hS hL
theorem S_iast (C : CX p l s m meth c x cc own nL) {q n : Nat} {g : Nat → Int32} {iv v : Int32} (j : Nat) (hj : ar[j]? = some (q, 0, n, g)) (i : Nat) (hi : i < n) (hn : n < 2 ^ 31) (he : iv = nI i) {ar' : List Ar} (hs : ar.set j (q, 0, n, upd g i v) = ar') (hd : decode cc pc = .ok (.iastore, 1)) (kk : SS p l e R s m args below meth c Q x nL a ar' cells slots (pc + 1) lv st) : SS p l e R s m args below meth c Q x nL a ar cells slots pc lv (.int v :: .int iv :: .ref q :: st) := by
  subst hs
  intro H locs ls hP hA hS hL
  subst he
  obtain ⟨hB, hne, -, h1⟩ := hA j _ hj
  have hin : ¬ (nI i < 0 ∨ (arrV (x.2.2 0) n (fun j => .int (g j))).slots.size ≤ (nI i).toNatClampNeg) := by rw [arrV_size]; exact vp_in_le hi hn
  refine W.iast C.1 C.2.1 h1 ((C.K.2 0 _ rfl).1 n (fun j => .int (g j))) (fun h => by cases h) hin rfl rfl hd fun H' e1 z oq => ?_
  refine kk H' _ ls (hP.kept fun k w hw => oq w.1 (fun z => ?_)) (hA.set hj ?_ oq) (hS.put z oq (Or.inr hB)) hL
  · obtain ⟨hk, rfl⟩ := wd_get hw
    exact hne k hk z.symm
  · rw [e1]
    show some ((arrV (x.2.2 0) n (fun j => .int (g j))).setSlot _ _) = _
    rw [arrV_store, vp_cell_i, nI_clamp (by omega)]
    congr 2
    funext j
    unfold updV upd
    by_cases hj : j = i
    · rw [if_pos hj, if_pos hj]
    · rw [if_neg hj, if_neg hj]
theorem S_zast (C : CX p l s m meth c x cc own nL) {q n : Nat} {g : Nat → Int32} {iv v : Int32} (hv : v = 0 ∨ v = 1) (j : Nat) (hj : ar[j]? = some (q, 1, n, g)) (i : Nat) (hi : i < n) (hn : n < 2 ^ 31) (he : iv = nI i) {ar' : List Ar} (hs : ar.set j (q, 1, n, upd g i v) = ar') (hd : decode cc pc = .ok (.bastore, 1)) (kk : SS p l e R s m args below meth c Q x nL a ar' cells slots (pc + 1) lv st) : SS p l e R s m args below meth c Q x nL a ar cells slots pc lv (.int v :: .int iv :: .ref q :: st) := by
  subst hs
  intro H locs ls hP hA hS hL
  subst he
  obtain ⟨hB, hne, -, h1⟩ := hA j _ hj
  have hin : ¬ (nI i < 0 ∨ (arrV (x.2.2 1) n (fun j => .int (g j))).slots.size ≤ (nI i).toNatClampNeg) := by rw [arrV_size]; exact vp_in_le hi hn
  refine W.zast C.1 C.2.1 h1 ((C.K.2 1 _ rfl).1 n (fun j => .int (g j))) (fun h => by cases h) hin rfl rfl hd fun H' e1 z oq => ?_
  refine kk H' _ ls (hP.kept fun k w hw => oq w.1 (fun z => ?_)) (hA.set hj ?_ oq) (hS.put z oq (Or.inr hB)) hL
  · obtain ⟨hk, rfl⟩ := wd_get hw
    exact hne k hk z.symm
  · rw [e1, show narrow .boolean (.int v) = .int v by rcases hv with rfl | rfl <;> rfl]
    show some ((arrV (x.2.2 1) n (fun j => .int (g j))).setSlot _ _) = _
    rw [arrV_store, vp_cell_i, nI_clamp (by omega)]
    congr 2
    funext j
    unfold updV upd
    by_cases hj : j = i
    · rw [if_pos hj, if_pos hj]
    · rw [if_neg hj, if_neg hj]
/-! calls -/
theorem AW_n {x : Sh} {sz q : Nat} (h1 : q < sz) (h2 : ∀ k, k < 70 → q ≠ x.2.1 k) : ¬ AW x sz q := AW_scr h1 h2
variable {y : MethodName} {cc' : ByteArray} {maxL' n fr lo mc ms idx : Nat} {ret' : Option FieldType} {F : Int32} {A' : Mem} {hh : List (Nat × Nat × Nat × Nat)}
theorem S_callf (hr : RUN p l e R s m args below meth c x nL a bz oz cells slots pc st rest (QI x oz (FI F A' bz)) As) (kk : SS p l e R s m args below meth c Q x nL A' ar cells slots (pc + 3) lv (.int F :: rest)) : SS p l e R s m args below meth c Q x nL a ar cells slots pc lv st :=
  fun H locs ls hP hA hS hL => va_calli (hr H locs ls hP hS hL.1) hS (fun q _ h => AW_A hS q h) (AW_A hS) (fun r u t H1 locs1 ht _ hp hB _ hk hS1 => by
    obtain ⟨h1, h2, h3⟩ := hp
    have hB' : va_P x.1 vwCl (wd x u.1 u.2 oz) H1 := by rw [ht] at hB; exact hB
    rw [h2, h3] at hB'
    rw [h1]
    exact kk H1 locs1 ls hB' (hA.kept fun q h1 _ h3 => hk q h1 (AW_n h1 h3)) hS1 hL)
theorem S_callF {g : Option String} {F : UInt32} (hg : g = none) (hr : RUNX p l e R s m args below meth c x nL a bz oz cells slots pc mc ms st rest (QF x oz (GF g F A' bz)) (GX g) As) (kk : SS p l e R s m args below meth c Q x nL A' ar (cells + mc) (slots + ms) (pc + 3) lv (.float F :: rest)) : SS p l e R s m args below meth c Q x nL a ar cells slots pc lv st :=
  fun H locs ls hP hA hS hL => vx_callf (hr H locs ls hP hS hL.1) hS (fun q _ h => AW_A hS q h) (AW_A hS) (fun q _ h => AW_A hS q h)
    (fun E ce q9 u t H1 locs1 htt _ _ hB _ _ hS1 hce hcv hcl => by
      have h : g = some E := hB.1
      rw [hg] at h
      cases h)
    (fun r u t H1 locs1 htt _ hp hB _ hk hS1 => by
      obtain ⟨-, h1, h2, h3⟩ := hp
      have hB' : va_P x.1 vwCl (wd x u.1 u.2 oz) H1 := by rw [htt] at hB; exact hB
      rw [h2, h3] at hB'
      rw [h1]
      exact kk H1 locs1 ls hB' (hA.kept fun q h1 _ h3 => hk q h1 (AW_n h1 h3)) hS1 hL)
theorem S_callD {g : Option String} {F : UInt64} (hg : g = none) (hr : RUNX p l e R s m args below meth c x nL a bz oz cells slots pc mc ms st rest (QDD x oz (GD g F A' bz)) (GX g) As) (kk : SS p l e R s m args below meth c Q x nL A' ar (cells + mc) (slots + ms) (pc + 3) lv (.double F :: rest)) : SS p l e R s m args below meth c Q x nL a ar cells slots pc lv st :=
  fun H locs ls hP hA hS hL => vx_calld (hr H locs ls hP hS hL.1) hS (fun q _ h => AW_A hS q h) (AW_A hS) (fun q _ h => AW_A hS q h)
    (fun E ce q9 u t H1 locs1 htt _ _ hB _ _ hS1 hce hcv hcl => by
      have h : g = some E := hB.1
      rw [hg] at h
      cases h)
    (fun r u t H1 locs1 htt _ hp hB _ hk hS1 => by
      obtain ⟨-, h1, h2, h3⟩ := hp
      have hB' : va_P x.1 vwCl (wd x u.1 u.2 oz) H1 := by rw [htt] at hB; exact hB
      rw [h2, h3] at hB'
      rw [h1]
      exact kk H1 locs1 ls hB' (hA.kept fun q h1 _ h3 => hk q h1 (AW_n h1 h3)) hS1 hL)
def HSW (y : MethodName) (cc' : ByteArray) (maxL' : Nat) (ret' : Option FieldType) (hh : List (Nat × Nat × Nat × Nat)) (n : Nat) : Prop := Cond.static y ∈ nwL ∧ Cond.initialized y.cls ∈ nwL ∧ Cond.codeWith y cc' maxL' ret' hh ∈ nwL ∧ y.cls ≠ "java/lang/invoke/MethodHandle" ∧ y.cls ≠ "java/lang/invoke/VarHandle" ∧ (parseMethodDescriptor y.desc).map (fun d => d.parameters.length) = some n
theorem HSW.cw (hw : HSW y cc' maxL' ret' hh n) (C : CX p l s m meth c x cc own nL) (hlk : Cond.methodLink own idx y ∈ nwL) (hR : fr + 1 ≤ R.frames ∧ 8 + (maxL' + 11) + lo ≤ R.locals) : vx_CSW R s args own idx y cc' maxL' ret' hh [Cond.codeWith y cc' maxL' ret' hh] ({ frames := fr, cells := mc, slots := ms, locals := lo }) mc ms n := by
  obtain ⟨h1, h3, h4, h5, h6, h7⟩ := hw
  refine vx_cwSW n C.hts (fun w hw => ?_) rfl rfl rfl ⟨h5, h6, h7⟩ hR
  simp only [va_wsS, List.cons_append, List.nil_append, List.mem_cons, List.not_mem_nil, or_false] at hw
  rcases hw with rfl | rfl | rfl | rfl
  · exact ⟨hlk, Or.inl rfl⟩
  · exact ⟨h1, Or.inl rfl⟩
  · exact ⟨h3, Or.inl rfl⟩
  · exact ⟨h4, Or.inl rfl⟩
/-- a helper with handlers that holds the class alone -/
theorem S_callh (C : CX p l s m meth c x cc own nL) (hM : LG l x y cc' maxL' ret' hh fr lo mc ms As a bz oz (QI x oz (FI F A' bz))) (hw : HSW y cc' maxL' ret' hh n) (hlk : Cond.methodLink own idx y ∈ nwL) (hn : As.length = n) (hR : fr + 1 ≤ R.frames ∧ 8 + (maxL' + 11) + lo ≤ R.locals) (hst : st = As.reverse ++ rest) (hcat : (rest.map fun v => v.category).sum ≤ 8) (hf : cells + mc ≤ R.cells ∧ slots + ms ≤ R.slots) (hd : decode cc pc = .ok (.invokestatic idx, 3)) (kk : SS p l e R s m args below meth c Q x nL A' ar (cells + mc) (slots + ms) (pc + 3) lv (.int F :: rest)) : SS p l e R s m args below meth c Q x nL a ar cells slots pc lv st :=
  fun H locs ls hP hA hS hL => va_calli (vx_runSW (hh := hh) C.fix (hM H.size) (hw.cw C hlk hR) ⟨Pre.blind, C.pre hP hS⟩ rfl hn hL.1 hst (lv_room hcat) hd hf) hS (fun q _ h => AW_A hS q h) (AW_A hS) (fun r u t H1 locs1 ht _ hp hB _ hk hS1 => by
    obtain ⟨h1, h2, h3⟩ := hp
    have hB' : va_P x.1 vwCl (wd x u.1 u.2 oz) H1 := by rw [ht] at hB; exact hB
    rw [h2, h3] at hB'
    rw [h1]
    exact kk H1 locs1 ls hB' (hA.kept fun q h1 _ h3 => hk q h1 (AW_n h1 h3)) hS1 hL)
theorem X_of {U : State} {T : Nat → ClassId} {D : va_G} {q n : Nat} {g : Nat → Int32} (hK : va_K D vwCl (tyT T) U) (h : U.heap[q]? = some (vp_cell (T 0) (n, .inl g))) : va_X q n g U U.heap := by
  refine ⟨_, h, (hK.2 0 _ rfl).1 n (fun j => .int (g j)), (fun h => by cases h), ?_, fun j hj => ?_⟩
  · rw [vp_cell_i, arrV_size]
  · rw [vp_cell_i]
    exact arrV_read _ _ hj
theorem CX.preA (C : CX p l s m meth c x cc own nL) {H : Heap} {locs : List Loc} {qv n : Nat} {g : Nat → Int32} (hP : va_P x.1 vwCl (wd x a bz oz) H) (hS : va_S (AW x s.heap.size) s.heap H locs) (hne : ∀ k, k < 70 → qv ≠ x.2.1 k) (h1 : H[qv]? = some (vp_cell (x.2.2 0) (n, .inl g))) : ∀ U : State, U.heap = H → s.WarmedH U.vm → va_Pc As (PreA x a bz oz H.size qv n g) As.toArray U := by
  intro U hU hW
  obtain ⟨e1, h⟩ := C.pre (As := As) hP hS U hU hW
  refine ⟨rfl, h, X_of (D := x.1) (T := x.2.2) h.2.2.1 (by rw [hU]; exact h1), (Array.getElem?_eq_some_iff.mp h1).1, hne⟩
theorem CX.preX (C : CX p l s m meth c x cc own nL) {H : Heap} {locs : List Loc} {qv n : Nat} {g : Nat → Int32} (hP : va_P x.1 vwCl (wd x a bz oz) H) (hS : va_S (AW x s.heap.size) s.heap H locs) (hX : va_X qv n g s s.heap) (hq : qv < s.heap.size) (hne : ∀ k, k < 70 → qv ≠ x.2.1 k) : ∀ U : State, U.heap = H → s.WarmedH U.vm → va_Pc As (PreA x a bz oz H.size qv n g) As.toArray U := by
  intro U hU hW
  obtain ⟨e1, h⟩ := C.pre (As := As) hP hS U hU hW
  refine ⟨rfl, h, ?_, Nat.lt_of_lt_of_le hq hS.1, hne⟩
  have h2 := va_X.moved (U := U) hW.alike (hX.kept (hS.2.1 qv hq (AW_n hq hne)))
  rw [hU]
  exact h2
/-- the law's ask -/
theorem S_ask (C : CX p l s m meth c x cc own nL) {ch v : Int32} {n qv : Nat} {g : Nat → Int32} {G : Option String} (hM : AK l x ch n g fr lo mc ms a bz oz (QI x oz (KA G F A' a bz))) (hw : HSW yL_ask cL_ask 4 (some .int) hhA 3) (hlk : Cond.methodLink own idx yL_ask ∈ nwL) (hR : fr + 1 ≤ R.frames ∧ 8 + (4 + 11) + lo ≤ R.locals) (hcat : (rest.map fun v => v.category).sum ≤ 8) (hf : cells + mc ≤ R.cells ∧ slots + ms ≤ R.slots) (hd : decode cc pc = .ok (.invokestatic idx, 3)) (hv : (if gn G = 0 then F else gn G) = v) (ha : (if gn G = 0 then A' else a) = a2) (kk : SS p l e R s m args below meth c Q x nL a2 ar (cells + mc) (slots + ms) (pc + 3) lv (.int v :: rest)) : SS p l e R s m args below meth c Q x nL a ((qv, 0, n, g) :: ar) cells slots pc lv (.ref qv :: .int ch :: .ref (x.2.1 0) :: rest) := by
  intro H locs ls hP hA hS hL
  have h0 := hA 0 _ rfl
  refine va_calli (vx_runSW (hh := hhA) C.fix (hM H.size qv) (hw.cw C hlk hR) ⟨PreA.blind, C.preA hP hS h0.2.1 h0.2.2.2⟩ rfl rfl hL.1 rfl (lv_room hcat) hd hf) hS (fun q _ h => AW_A hS q h) (AW_A hS) (fun r u t H1 locs1 ht _ hp hB _ hk hS1 => ?_)
  obtain ⟨h1, h2, h3⟩ := hp
  have hB' : va_P x.1 vwCl (wd x u.1 u.2 oz) H1 := by rw [ht] at hB; exact hB
  rw [h2, h3, ha] at hB'
  rw [h1, hv]
  exact kk H1 locs1 ls hB' (hA.tail.kept fun q h1 _ h3 => hk q h1 (AW_n h1 h3)) hS1 hL
theorem S_askN (C : CX p l s m meth c x cc own nL) {ch : Int32} {n qv : Nat} {g : Nat → Int32} {G : Option String} (hM : AK l x ch n g fr lo mc ms a bz oz (QI x oz (KA G F A' a bz))) (hw : HSW yL_ask cL_ask 4 (some .int) hhA 3) (hlk : Cond.methodLink own idx yL_ask ∈ nwL) (hR : fr + 1 ≤ R.frames ∧ 8 + (4 + 11) + lo ≤ R.locals) (hcat : (rest.map fun v => v.category).sum ≤ 8) (hf : cells + mc ≤ R.cells ∧ slots + ms ≤ R.slots) (hd : decode cc pc = .ok (.invokestatic idx, 3)) (hg : gn G = 0) {v : Int32} (hF : F = v) {a2 : Mem} (hA : A' = a2) (kk : SS p l e R s m args below meth c Q x nL a2 ar (cells + mc) (slots + ms) (pc + 3) lv (.int v :: rest)) : SS p l e R s m args below meth c Q x nL a ((qv, 0, n, g) :: ar) cells slots pc lv (.ref qv :: .int ch :: .ref (x.2.1 0) :: rest) :=
  S_ask C hM hw hlk hR hcat hf hd ((if_pos hg).trans hF) ((if_pos hg).trans hA) kk
theorem S_askX (C : CX p l s m meth c x cc own nL) {ch : Int32} {n qv : Nat} {g : Nat → Int32} {G : Option String} (hM : AK l x ch n g fr lo mc ms a bz oz (QI x oz (KA G F A' a bz))) (hw : HSW yL_ask cL_ask 4 (some .int) hhA 3) (hlk : Cond.methodLink own idx yL_ask ∈ nwL) (hR : fr + 1 ≤ R.frames ∧ 8 + (4 + 11) + lo ≤ R.locals) (hcat : (rest.map fun v => v.category).sum ≤ 8) (hf : cells + mc ≤ R.cells ∧ slots + ms ≤ R.slots) (hd : decode cc pc = .ok (.invokestatic idx, 3)) {v : Int32} (hg : gn G = v) (hv : v ≠ 0) (kk : SS p l e R s m args below meth c Q x nL a ar (cells + mc) (slots + ms) (pc + 3) lv (.int v :: rest)) : SS p l e R s m args below meth c Q x nL a ((qv, 0, n, g) :: ar) cells slots pc lv (.ref qv :: .int ch :: .ref (x.2.1 0) :: rest) :=
  S_ask C hM hw hlk hR hcat hf hd ((if_neg (by rw [hg]; exact hv)).trans hg) (if_neg (by rw [hg]; exact hv)) kk
/-! the law's at, some -/
def AtG (l : Launch) (x : Sh) (y : MethodName) (cc : ByteArray) (maxL fr lo : Nat) (As' : List Value) (a : Mem) (n : Nat) (g : Nat → Int32) (Qf : Nat → Array Value → State → Outcome → State → Prop) : Prop :=
  ∀ sz q, Met l y [Cond.code y cc maxL (some .int)] ({ frames := fr, cells := 0, slots := 0, locals := lo }) (va_Pc (.ref q :: As') (PreA x a bz oz sz q n g)) (Qf sz) 0 0 (AW x sz)
def atF (g : Nat → Int32) (n j : Nat) : Int32 := if j < n then g j else 0
set_option maxHeartbeats 4000000 in
theorem c_L_at {l : Launch} {x : Sh} {a : Mem} {n j : Nat} {g : Nat → Int32} (hfl : l.stackTraces = false) (hn : n ≤ 260) (hj : j < 2 ^ 31) : AtG l x yL_at cL_at 2 0 40 [.int (nI j)] a n g (QI x oz (FI (atF g n j) a bz)) := by
  intro sz q
  refine Met.ofW (cc := cL_at) (maxL := 2) (ret := some .int) (by decide) rfl ?_
  intro p e s m args below meth c s₁ B hml hv
  obtain ⟨rfl, ⟨rfl, hP, hK⟩, hX, hq, hne⟩ := hv
  have hown : s.vm.findClass yL_at.cls = some m.cls := findClass_of_methodNamed B.named
  rw [lg_entry_eq]
  have hL := LV.entry (As := [Value.ref q, .int (nI j)]) (n := 2) rfl (Nat.le_of_ble_eq_true rfl)
  have C : CX p l s m meth c x cL_at RL 2 := ⟨B.exec, B.bytes, hml, hown, hK, B.notSynchronized, hfl⟩
  have hr := B.returns
  have key : VV p l e ({ frames := 0, cells := 0, slots := 0, locals := 40 } : Room) s m [Value.ref q, .int (nI j)].toArray below meth c (MQ below (QI x oz (FI (atF g n j) a bz) s.heap.size) [Value.ref q, .int (nI j)].toArray s 0 0 (AW x s.heap.size)) x 2 a bz oz 0 0 0 [some (.ref q), some (.int (nI j))] [] := by
    refine V_iload_n C dL_at_0 rfl ?_
    refine V_aload_n C dL_at_1 rfl ?_
    refine V_slen C hX hq hne dL_at_2 ?_
    refine V_lt C 12 dL_at_3 (by decide) hj (by omega) (fun h => ?_) (fun h => ?_)
    · refine V_iconst (v := 0) C dL_at_12 (by decide) ?_
      exact V_ireti C hr dL_at_13 ⟨(if_neg (by omega)).symm, rfl, rfl⟩
    · refine V_aload_n C dL_at_6 rfl ?_
      refine V_iload_n C dL_at_7 rfl ?_
      refine V_scr C hX hq hne j h (by omega) rfl dL_at_8 ?_
      refine V_goto C 13 dL_at_9 (by decide) ?_
      exact V_ireti C hr dL_at_13 ⟨(if_pos h).symm, rfl, rfl⟩
  exact key s.heap [] _ hP va_S.rf hL
def soF (v n : Int32) : Int32 := if v - v / n * n < 0 then v - v / n * n + n else v - v / n * n
set_option maxHeartbeats 4000000 in
theorem c_L_some {l : Launch} {x : Sh} {a : Mem} {v n : Int32} (hfl : l.stackTraces = false) (hn : ¬ n = 0) : MG l x yL_some cL_some 3 (some .int) 0 40 [.int v, .int n] a bz oz (QI x oz (FI (soF v n) a bz)) := by
  refine MG.of (maxL := 3) (ret := (some .int)) hfl (by decide) [some (.int v), some (.int n), none] rfl rfl (Nat.le_of_ble_eq_true rfl) ?_
  intro pP eE sS mM argsA belowB methM cC C hr
  refine V_iload_n C dL_some_0 rfl ?_
  refine V_iload_n C dL_some_1 rfl ?_
  refine V_irem C dL_some_2 hn ?_
  refine V_istore_n2 C dL_some_3 (by decide) ?_
  refine V_iload_n C dL_some_4 rfl ?_
  refine V_if_ge C 14 dL_some_5 (by decide) (fun h => ?_) (fun h => ?_)
  · refine V_iload_n C dL_some_14 rfl ?_
    exact V_ireti C hr dL_some_15 ⟨(if_neg (Int32.not_lt.mpr h)).symm, rfl, rfl⟩
  · refine V_iload_n C dL_some_8 rfl ?_
    refine V_iload_n C dL_some_9 rfl ?_
    refine V_iadd C dL_some_10 ?_
    refine V_goto C 15 dL_some_11 (by decide) ?_
    exact V_ireti C hr dL_some_15 ⟨(if_pos (Int32.not_le.mp h)).symm, rfl, rfl⟩
theorem soF_lt {v : Int32} {m : Nat} (h0 : 0 < m) (h1 : m < 1000) : ∃ j, j < m ∧ soF v (nI m) = nI j := by
  have hm : (nI m).toInt = (m : Int) := nI_toInt (by omega)
  have hv1 := Int32.le_toInt v
  have hv2 := Int32.toInt_lt v
  have hd : (v / nI m).toInt = v.toInt.tdiv m := by
    rw [Int32.toInt_div, hm]
    have a1 : (v.toInt.tdiv m).natAbs ≤ v.toInt.natAbs := Int.natAbs_tdiv_le_natAbs _ _
    have a2 : v.toInt ≤ 0 → v.toInt.tdiv m ≤ 0 := fun h => by
      have := Int.tdiv_nonneg (a := - v.toInt) (b := (m : Int)) (by omega) (by omega)
      rw [Int.neg_tdiv] at this
      omega
    apply Int.bmod_eq_of_le <;> omega
  have hmul := Int.tmod_add_mul_tdiv v.toInt m
  have t1 : (v.toInt.tmod m).natAbs < m := by
    rw [Int.natAbs_tmod]
    exact Nat.mod_lt _ (by omega)
  have t2 : 0 ≤ v.toInt → 0 ≤ v.toInt.tmod m := fun h => Int.tmod_nonneg _ h
  have t3 : v.toInt ≤ 0 → v.toInt.tmod m ≤ 0 := fun h => by
    have := Int.tmod_nonneg (a := - v.toInt) m (by omega)
    rw [Int.neg_tmod] at this
    omega
  have hq : (v / nI m * nI m).toInt = v.toInt - v.toInt.tmod m := by
    rw [Int32.toInt_mul, hd, hm]
    have : v.toInt.tdiv m * m = v.toInt - v.toInt.tmod m := by rw [Int.mul_comm]; omega
    rw [this]
    apply Int.bmod_eq_of_le <;> omega
  have hr : (v - v / nI m * nI m).toInt = v.toInt.tmod m := by
    rw [Int32.toInt_sub, hq]
    have : v.toInt - (v.toInt - v.toInt.tmod m) = v.toInt.tmod m := by omega
    rw [this]
    apply Int.bmod_eq_of_le <;> omega
  have fin : ∀ w : Int32, 0 ≤ w.toInt → w.toInt < m → ∃ j, j < m ∧ w = nI j := fun w g1 g2 => by
    refine ⟨w.toInt.toNat, by omega, Int32.toInt_inj.mp ?_⟩
    rw [nI_toInt (by omega)]
    omega
  unfold soF
  split
  · rename_i h
    rw [Int32.lt_iff_toInt_lt, hr, show (0 : Int32).toInt = 0 from rfl] at h
    have e : (v - v / nI m * nI m + nI m).toInt = v.toInt.tmod m + m := by
      rw [Int32.toInt_add, hr, hm]
      apply Int.bmod_eq_of_le <;> omega
    exact fin _ (by rw [e]; omega) (by rw [e]; omega)
  · rename_i h
    rw [Int32.lt_iff_toInt_lt, hr, show (0 : Int32).toInt = 0 from rfl] at h
    exact fin _ (by rw [hr]; omega) (by rw [hr]; omega)
/-- a word of the script -/
theorem S_at (C : CX p l s m meth c x cc own nL) {bA L j : Nat} {xs : Nat → Int32} (hX : va_X bA L xs s s.heap) (hb : bA < s.heap.size) (hne : ∀ k, k < 70 → bA ≠ x.2.1 k) (hL2 : L ≤ 260) (hj : j < 2 ^ 31) (hw : MSW yL_at cL_at 2 (some .int) 2) (hlk : Cond.methodLink own idx yL_at ∈ nwL) (hR : 0 + 1 ≤ R.frames ∧ 8 + (2 + 11) + 40 ≤ R.locals) (hcat : (rest.map fun v => v.category).sum ≤ 8) (hf : cells ≤ R.cells ∧ slots ≤ R.slots) (hd : decode cc pc = .ok (.invokestatic idx, 3)) (kk : SS p l e R s m args below meth c Q x nL a ar cells slots (pc + 3) lv (.int (atF xs L j) :: rest)) : SS p l e R s m args below meth c Q x nL a ar cells slots pc lv (.int (nI j) :: .ref bA :: rest) := by
  intro H locs ls hP hA hS hL
  refine va_calli (va_runS (As := [.ref bA, .int (nI j)]) C.fix (c_L_at C.2.2.2.2.2.2 hL2 hj H.size bA) (cwSm hw C.hts hlk hR) ⟨PreA.blind, C.preX hP hS hX hb hne⟩ rfl rfl hL.1 rfl (lv_room hcat) hd hf) hS (fun q _ h => AW_A hS q h) (AW_A hS) (fun r u t H1 locs1 ht _ hp hB _ hk hS1 => ?_)
  obtain ⟨h1, h2, h3⟩ := hp
  have hB' : va_P x.1 vwCl (wd x u.1 u.2 oz) H1 := by rw [ht] at hB; exact hB
  rw [h2, h3] at hB'
  rw [h1]
  exact kk H1 locs1 ls hB' (hA.kept fun q h1 _ h3 => hk q h1 (AW_n h1 h3)) hS1 hL
theorem S_some (C : CX p l s m meth c x cc own nL) {v n : Int32} (hn : ¬ n = 0) (hw : MSW yL_some cL_some 3 (some .int) 2) (hlk : Cond.methodLink own idx yL_some ∈ nwL) (hR : 0 + 1 ≤ R.frames ∧ 8 + (3 + 11) + 40 ≤ R.locals) (hcat : (rest.map fun v => v.category).sum ≤ 8) (hf : cells ≤ R.cells ∧ slots ≤ R.slots) (hd : decode cc pc = .ok (.invokestatic idx, 3)) (kk : SS p l e R s m args below meth c Q x nL a ar cells slots (pc + 3) lv (.int (soF v n) :: rest)) : SS p l e R s m args below meth c Q x nL a ar cells slots pc lv (.int n :: .int v :: rest) :=
  S_callf (R_S C (c_L_some C.2.2.2.2.2.2 hn) hw hlk rfl hR rfl hcat hf hd) kk
theorem S_min (C : CX p l s m meth c x cc own nL) {v w : Int32} (hlk : Cond.methodLink own idx Lib.Math.min.name ∈ nwL) (hstat : Cond.static Lib.Math.min.name ∈ nwL) (hini : Cond.initialized "java/lang/Math" ∈ nwL) (hcode : Cond.code Lib.Math.min.name Lib.Math.min.code 2 (some .int) ∈ nwL) (hR : 1 ≤ R.frames ∧ (rest.map fun v => v.category).sum + 13 ≤ R.locals) (hf : cells ≤ R.cells ∧ slots ≤ R.slots) (hd : decode cc pc = .ok (.invokestatic idx, 3)) (kk : SS p l e R s m args below meth c Q x nL a ar cells slots (pc + 3) lv (.int (if w < v then w else v) :: rest)) : SS p l e R s m args below meth c Q x nL a ar cells slots pc lv (.int w :: .int v :: rest) :=
  fun H locs ls hP hA hS hL => va_mmin C.1 C.2.1 (C.2.2.1.trans hL.1.symm) C.2.2.2.1 (C.hts (args := args) _ hlk) (C.hts (args := args) _ hstat) (C.hts (args := args) _ hini) (C.hts (args := args) _ hcode) hR.1 hR.2 hf.1 hf.2 hd (kk H locs ls hP hA hS hL)
end SSR
