def FLk (own : String) (idx : Nat) (ref n d : String) : Prop := Cond.fieldLink own idx ref n d ∈ nwL ∨ ∃ host, Cond.fieldLinkNest own idx ref n d host ∈ nwL
def MIW (y : MethodName) (cc : ByteArray) (maxL : Nat) (ret : Option FieldType) (n : Nat) : Prop := Cond.instanceMethod y ∈ nwL ∧ Cond.selects y.cls y y ∈ nwL ∧ Cond.initialized y.cls ∈ nwL ∧ Cond.code y cc maxL ret ∈ nwL ∧ y.cls ≠ "java/lang/invoke/MethodHandle" ∧ y.cls ≠ "java/lang/invoke/VarHandle" ∧ (parseMethodDescriptor y.desc).map (fun d => d.parameters.length) = some n
def MSW (y : MethodName) (cc : ByteArray) (maxL : Nat) (ret : Option FieldType) (n : Nat) : Prop := Cond.static y ∈ nwL ∧ Cond.initialized y.cls ∈ nwL ∧ Cond.code y cc maxL ret ∈ nwL ∧ y.cls ≠ "java/lang/invoke/MethodHandle" ∧ y.cls ≠ "java/lang/invoke/VarHandle" ∧ (parseMethodDescriptor y.desc).map (fun d => d.parameters.length) = some n
/-- a list's word by its place -/
theorem nw_mem {w : Cond} (i : Nat) (h : lw_tbl[i]? = some w) (hg : wb_g w = true) : w ∈ nwL := List.mem_filter.mpr ⟨List.mem_of_getElem? h, hg⟩
theorem vp_in_le {i n : Nat} (h : i < n) (hn : n < 2 ^ 31) : vp_in (nI i) n := vp_in_nI h hn
theorem vp_nar_z {v : Int32} (h : v = 0 ∨ v = 1) : vp_nar .boolean v = v := by rcases h with rfl | rfl <;> rfl
section VVM
variable {p : Program} {l : Launch} {e : Env} {R : Room} {s : State} {m : MethodId} {args : Array Value} {below : List Frame} {meth : Method} {c : Code} {Q : State → Prop} {x : Sh} {nL : Nat} {a b : Mem} {o : Out} {cells slots pc : Nat} {lv : List (Option Value)} {st rest : List Value} {cc : ByteArray} {own : String}
theorem CX.hts (C : CX p l s m meth c x cc own nL) : ∀ w ∈ nwL, w.before args s = true := fun w hw => C.2.2.2.2.1.2.2.1.use hw
theorem CX.K (C : CX p l s m meth c x cc own nL) : va_K x.1 vwCl (tysx x) s := C.2.2.2.2.1.1
theorem CX.D (C : CX p l s m meth c x cc own nL) {sz : Nat} : va_D (AW x sz) (wd x a b o) := C.2.2.2.2.1.hD
theorem V_get (C : CX p l s m meth c x cc own nL) {k ci N : Nat} {Rn : String} {T : u_T} {fs : List Value} {v : Value} {idx : Nat} (hk : k < 70) (hG : GE x a b o k = .inr (ci, fs)) (hc : vwCl[ci]? = some (Rn, T, N)) (j : Nat) (hj : j < N) (hin : ∀ w ∈ u_ws Rn T N, w ∈ nwL) (hT : (T j).1 = Rn) (hl : FLk own idx Rn (T j).2.1 (T j).2.2.1) (hv : fs[j]? = some v) (hd : decode cc pc = .ok (.getfield idx, 3)) (kk : VV p l e R s m args below meth c Q x nL a b o cells slots (pc + 3) lv (v :: st)) : VV p l e R s m args below meth c Q x nL a b o cells slots pc lv (.ref (x.2.1 k) :: st) := by
  intro H locs ls hP hS hL
  have he : (wd x a b o)[k]? = some (x.2.1 k, .inr (ci, fs)) := by rw [wd_at hk, hG]
  rcases hl with h | ⟨host, h⟩
  · exact va_get C.1 C.2.1 (C.hts) hin C.2.2.2.1 C.K hP k he hc j hj (C.hts _ h) (fun y hy => by rw [hT] at hy; exact hy) hv hd (kk H locs ls hP hS hL)
  · exact va_getN C.1 C.2.1 (C.hts) hin C.2.2.2.1 C.K hP k he hc j hj (C.hts _ h) (fun y hy => by rw [hT] at hy; exact hy) hv hd (kk H locs ls hP hS hL)
theorem V_put (C : CX p l s m meth c x cc own nL) {a' b' : Mem} {k ci N : Nat} {Rn : String} {T : u_T} {fs : List Value} {v : Value} {idx : Nat} (hk : k < 70) (hG : GE x a b o k = .inr (ci, fs)) (hc : vwCl[ci]? = some (Rn, T, N)) (j : Nat) (hj : j < N) (hin : ∀ w ∈ u_ws Rn T N, w ∈ nwL) (hT : (T j).1 = Rn) (hl : FLk own idx Rn (T j).2.1 (T j).2.2.1) (ty0 : Nat → FieldType) (hty : ∀ k, k < N → parseFieldDescriptor (T k).2.2.1 = some (ty0 k)) (hnm : ∀ a, a < N → ∀ b, b < N → a ≠ b → (T a).2.1 ≠ (T b).2.1) (hfin : (T j).2.2.2 = false) {ty : FieldType} (hpd : parseFieldDescriptor (T j).2.2.1 = some ty) (hn : narrow ty v = v) (hfit : fits ty v = true) (hfl : j < fs.length)
    (hs : (wd x a b o).set k (x.2.1 k, .inr (ci, fs.set j v)) = wd x a' b' o) (hd : decode cc pc = .ok (.putfield idx, 3)) (kk : VV p l e R s m args below meth c Q x nL a' b' o cells slots (pc + 3) lv st) : VV p l e R s m args below meth c Q x nL a b o cells slots pc lv (v :: .ref (x.2.1 k) :: st) := by
  intro H locs ls hP hS hL
  have he : (wd x a b o)[k]? = some (x.2.1 k, .inr (ci, fs)) := by rw [wd_at hk, hG]
  rcases hl with h | ⟨host, h⟩
  · exact va_put C.1 C.2.1 (C.hts) hin ty0 hty hnm C.2.2.2.1 C.K hP C.D hS k he hc j hj (C.hts _ h) (fun y hy => by rw [hT] at hy; exact hy) hfin hpd hn hfit hfl hd (fun H1 locs1 hP1 _ hS1 => kk H1 locs1 ls (by rw [hs] at hP1; exact hP1) hS1 hL)
  · exact va_putN C.1 C.2.1 (C.hts) hin ty0 hty hnm C.2.2.2.1 C.K hP C.D hS k he hc j hj (C.hts _ h) (fun y hy => by rw [hT] at hy; exact hy) hfin hpd hn hfit hfl hd (fun H1 locs1 hP1 _ hS1 => kk H1 locs1 ls (by rw [hs] at hP1; exact hP1) hS1 hL)
theorem V_iald (C : CX p l s m meth c x cc own nL) {k n : Nat} {f : Nat → Int32} {iv : Int32} (hk : k < 70) (hG : GE x a b o k = GA x 0 n f) (i : Nat) (hi : i < n) (hn : n < 2 ^ 31) (he : iv = nI i) (hd : decode cc pc = .ok (.iaload, 1)) (kk : VV p l e R s m args below meth c Q x nL a b o cells slots (pc + 1) lv (.int (f i) :: st)) : VV p l e R s m args below meth c Q x nL a b o cells slots pc lv (.int iv :: .ref (x.2.1 k) :: st) := by
  intro H locs ls hP hS hL
  subst he
  have ha : (wd x a b o)[k]? = some (x.2.1 k, .inl (x.2.2 0, n, .inl f)) := by rw [wd_at hk, hG]; rfl
  refine va_iald C.1 C.2.1 C.K hP k 0 ha rfl (vp_in_le hi hn) hd ?_
  rw [nI_clamp (by omega)]
  exact kk H locs ls hP hS hL
theorem V_zald (C : CX p l s m meth c x cc own nL) {k n : Nat} {f : Nat → Int32} {iv : Int32} (hk : k < 70) (hG : GE x a b o k = GA x 1 n f) (i : Nat) (hi : i < n) (hn : n < 2 ^ 31) (he : iv = nI i) (hd : decode cc pc = .ok (.baload, 1)) (kk : VV p l e R s m args below meth c Q x nL a b o cells slots (pc + 1) lv (.int (f i) :: st)) : VV p l e R s m args below meth c Q x nL a b o cells slots pc lv (.int iv :: .ref (x.2.1 k) :: st) := by
  intro H locs ls hP hS hL
  subst he
  have ha : (wd x a b o)[k]? = some (x.2.1 k, .inl (x.2.2 1, n, .inl f)) := by rw [wd_at hk, hG]; rfl
  refine va_zald C.1 C.2.1 C.K hP k 1 ha rfl (vp_in_le hi hn) hd ?_
  rw [nI_clamp (by omega)]
  exact kk H locs ls hP hS hL
theorem V_iast (C : CX p l s m meth c x cc own nL) {a' b' : Mem} {k n : Nat} {f : Nat → Int32} {iv v : Int32} (hk : k < 70) (hG : GE x a b o k = GA x 0 n f) (i : Nat) (hi : i < n) (hn : n < 2 ^ 31) (he : iv = nI i) (hs : (wd x a b o).set k (x.2.1 k, GA x 0 n (upd f i v)) = wd x a' b' o) (hd : decode cc pc = .ok (.iastore, 1)) (kk : VV p l e R s m args below meth c Q x nL a' b' o cells slots (pc + 1) lv st) : VV p l e R s m args below meth c Q x nL a b o cells slots pc lv (.int v :: .int iv :: .ref (x.2.1 k) :: st) := by
  intro H locs ls hP hS hL
  subst he
  have ha : (wd x a b o)[k]? = some (x.2.1 k, .inl (x.2.2 0, n, .inl f)) := by rw [wd_at hk, hG]; rfl
  refine va_iast C.1 C.2.1 C.K hP C.D hS k 0 ha rfl (vp_in_le hi hn) hd (fun H1 locs1 hP1 _ hS1 => ?_)
  rw [nI_clamp (by omega)] at hP1
  have hs' : (wd x a b o).set k (x.2.1 k, .inl (x.2.2 0, n, .inl (upd f i v))) = wd x a' b' o := hs
  rw [hs'] at hP1
  exact kk H1 locs1 ls hP1 hS1 hL
theorem V_zast (C : CX p l s m meth c x cc own nL) {a' b' : Mem} {k n : Nat} {f : Nat → Int32} {iv v : Int32} (hk : k < 70) (hG : GE x a b o k = GA x 1 n f) (i : Nat) (hi : i < n) (hn : n < 2 ^ 31) (he : iv = nI i) (hv : v = 0 ∨ v = 1) (hs : (wd x a b o).set k (x.2.1 k, GA x 1 n (upd f i v)) = wd x a' b' o) (hd : decode cc pc = .ok (.bastore, 1)) (kk : VV p l e R s m args below meth c Q x nL a' b' o cells slots (pc + 1) lv st) : VV p l e R s m args below meth c Q x nL a b o cells slots pc lv (.int v :: .int iv :: .ref (x.2.1 k) :: st) := by
  intro H locs ls hP hS hL
  subst he
  have ha : (wd x a b o)[k]? = some (x.2.1 k, .inl (x.2.2 1, n, .inl f)) := by rw [wd_at hk, hG]; rfl
  refine va_zast C.1 C.2.1 C.K hP C.D hS k 1 ha rfl (vp_in_le hi hn) hd (fun H1 locs1 hP1 _ hS1 => ?_)
  rw [nI_clamp (by omega), vp_nar_z hv] at hP1
  have hs' : (wd x a b o).set k (x.2.1 k, .inl (x.2.2 1, n, .inl (upd f i v))) = wd x a' b' o := hs
  rw [hs'] at hP1
  exact kk H1 locs1 ls hP1 hS1 hL
theorem V_aald (C : CX p l s m meth c x cc own nL) {k n : Nat} {g : Nat → Nat} {iv : Int32} (hk : k < 70) (hG : GE x a b o k = GR x 2 n g) (i : Nat) (hi : i < n) (hn : n < 2 ^ 31) (he : iv = nI i) (hd : decode cc pc = .ok (.aaload, 1)) (kk : VV p l e R s m args below meth c Q x nL a b o cells slots (pc + 1) lv (.ref (x.2.1 (g i)) :: st)) : VV p l e R s m args below meth c Q x nL a b o cells slots pc lv (.int iv :: .ref (x.2.1 k) :: st) := by
  intro H locs ls hP hS hL
  subst he
  have ha : (wd x a b o)[k]? = some (x.2.1 k, .inl (x.2.2 2, n, .inr (.inr (.inr (.inr (fun i => if i < n then some (x.2.1 (g i)) else none)))))) := by rw [wd_at hk, hG]; rfl
  refine va_aldq C.1 C.2.1 C.K hP k 2 ha rfl (vp_in_le hi hn) hd ?_
  rw [nI_clamp (by omega), if_pos hi]
  exact kk H locs ls hP hS hL
theorem V_aald2 (C : CX p l s m meth c x cc own nL) {k n : Nat} {g : Nat → Nat} {iv : Int32} (hk : k < 70) (hG : GE x a b o k = GR x 3 n g) (i : Nat) (hi : i < n) (hn : n < 2 ^ 31) (he : iv = nI i) (hd : decode cc pc = .ok (.aaload, 1)) (kk : VV p l e R s m args below meth c Q x nL a b o cells slots (pc + 1) lv (.ref (x.2.1 (g i)) :: st)) : VV p l e R s m args below meth c Q x nL a b o cells slots pc lv (.int iv :: .ref (x.2.1 k) :: st) := by
  intro H locs ls hP hS hL
  subst he
  have ha : (wd x a b o)[k]? = some (x.2.1 k, .inl (x.2.2 3, n, .inr (.inr (.inr (.inr (fun i => if i < n then some (x.2.1 (g i)) else none)))))) := by rw [wd_at hk, hG]; rfl
  have hin := vp_in_le hi hn
  have hlt : (nI i).toNatClampNeg < n := Nat.not_le.mp fun q => hin (Or.inr q)
  refine W.aald (v := va_rf ((fun i => if i < n then some (x.2.1 (g i)) else none) (nI i).toNatClampNeg)) (ty := .array .int) C.1 C.2.1 (hP k _ ha) ((C.K.2 3 _ rfl).1 n (fun j => va_rf (if j < n then some (x.2.1 (g j)) else none))) rfl (fun q => by cases q) (by show ¬ (nI i < 0 ∨ (arrV _ _ _).slots.size ≤ _); rw [arrV_size]; exact hin) (by show (arrV _ _ _).slots[_]? = _; rw [arrV_read _ _ hlt]) rfl rfl hd ?_
  rw [nI_clamp (by omega)]
  dsimp only
  rw [if_pos hi]
  exact kk H locs ls hP hS hL
/-! ends -/
def QI (x : Sh) (o : Out) (Φ : Int32 → Mem → Mem → Prop) (sz : Nat) : Array Value → State → Outcome → State → Prop := va_Qi (S := Mem × Mem) (fun r u => Φ r u.1 u.2) (fun u t => va_P x.1 vwCl (wd x u.1 u.2 o) t.heap) (AW x sz)
def QV (x : Sh) (o : Out) (Φ : Mem → Mem → Prop) (sz : Nat) : Array Value → State → Outcome → State → Prop := va_Qv (S := Mem × Mem) (fun u => Φ u.1 u.2) (fun u t => va_P x.1 vwCl (wd x u.1 u.2 o) t.heap) (AW x sz)
/-- an answer that is one of the offers -/
def QR (x : Sh) (o : Out) (Φ : Nat → Mem → Mem → Prop) (sz : Nat) : Array Value → State → Outcome → State → Prop := va_Qr (S := Nat × Mem × Mem) (fun u => Φ u.1 u.2.1 u.2.2) (fun u q t => q = x.2.1 u.1 ∧ va_P x.1 vwCl (wd x u.2.1 u.2.2 o) t.heap) (AW x sz)
theorem V_ireti (C : CX p l s m meth c x cc own nL) {Φ : Int32 → Mem → Mem → Prop} {v : Int32} (hr : meth.sig.returnType = some .int) (hd : decode cc pc = .ok (.ireturn, 1)) (h : Φ v a b) : VV p l e R s m args below meth c (MQ below (QI x o Φ s.heap.size) args s cells slots (AW x s.heap.size)) x nL a b o cells slots pc lv [.int v] :=
  fun H locs ls hP hS hL => W.iret C.1 C.2.1 hr (fun t ht hW => ⟨⟨v, (a, b), rfl, h, by show va_P _ _ _ t.heap; rw [ht]; exact hP⟩, hS.F ht⟩) hS.2.2 hd C.2.2.2.2.2.1
theorem V_iretz (C : CX p l s m meth c x cc own nL) {Φ : Int32 → Mem → Mem → Prop} {v : Int32} (hr : meth.sig.returnType = some .boolean) (hz : v = 0 ∨ v = 1) (hd : decode cc pc = .ok (.ireturn, 1)) (h : Φ v a b) : VV p l e R s m args below meth c (MQ below (QI x o Φ s.heap.size) args s cells slots (AW x s.heap.size)) x nL a b o cells slots pc lv [.int v] :=
  fun H locs ls hP hS hL => W.zret C.1 C.2.1 hr (by rcases hz with rfl | rfl <;> rfl) (fun t ht hW => ⟨⟨v, (a, b), rfl, h, by show va_P _ _ _ t.heap; rw [ht]; exact hP⟩, hS.F ht⟩) hS.2.2 hd C.2.2.2.2.2.1
theorem V_vret (C : CX p l s m meth c x cc own nL) {Φ : Mem → Mem → Prop} (hr : meth.sig.returnType = none) (hd : decode cc pc = .ok (.return_, 1)) (h : Φ a b) : VV p l e R s m args below meth c (MQ below (QV x o Φ s.heap.size) args s cells slots (AW x s.heap.size)) x nL a b o cells slots pc lv [] :=
  fun H locs ls hP hS hL => W.vret C.1 C.2.1 hr (fun t ht hW => ⟨⟨(a, b), rfl, h, by show va_P _ _ _ t.heap; rw [ht]; exact hP⟩, hS.F ht⟩) hS.2.2 hd C.2.2.2.2.2.1
theorem V_aret (C : CX p l s m meth c x cc own nL) {Φ : Nat → Mem → Mem → Prop} {k : Nat} {nm : String} (hr : meth.sig.returnType = some (.object nm)) (hd : decode cc pc = .ok (.areturn, 1)) (h : Φ k a b) : VV p l e R s m args below meth c (MQ below (QR x o Φ s.heap.size) args s cells slots (AW x s.heap.size)) x nL a b o cells slots pc lv [.ref (x.2.1 k)] :=
  fun H locs ls hP hS hL => W.aret C.1 C.2.1 hr (Or.inl ⟨nm, rfl⟩) (Or.inr ⟨_, rfl⟩) (fun t ht hW => ⟨⟨(k, a, b), x.2.1 k, rfl, h, rfl, by show va_P _ _ _ t.heap; rw [ht]; exact hP⟩, hS.F ht⟩) hS.2.2 hd C.2.2.2.2.2.1
/-! contracts -/
def MG (l : Launch) (x : Sh) (y : MethodName) (cc : ByteArray) (maxL : Nat) (ret : Option FieldType) (fr lo : Nat) (As : List Value) (a b : Mem) (o : Out) (Qf : Nat → Array Value → State → Outcome → State → Prop) : Prop :=
  ∀ sz, Met l y [Cond.code y cc maxL ret] ({ frames := fr, cells := 0, slots := 0, locals := lo }) (va_Pc As (Pre x a b o sz)) (Qf sz) 0 0 (AW x sz)
/-- a thrown exception changes nothing of the world -/
def XCd (ΦX : String → Prop) (x : Sh) (a b : Mem) (o : Out) (sz : Nat) : String → State → State → Prop := vx_X (S := Unit) (fun _ => True) (fun E _ t => ΦX E ∧ va_P x.1 vwCl (wd x a b o) t.heap) (AW x sz)
def XG (l : Launch) (x : Sh) (y : MethodName) (cc : ByteArray) (maxL : Nat) (ret : Option FieldType) (fr lo mc ms : Nat) (As : List Value) (a b : Mem) (o : Out) (Qf : Nat → Array Value → State → Outcome → State → Prop) (ΦX : String → Prop) : Prop :=
  ∀ sz, vx_Met l y [Cond.code y cc maxL ret] ({ frames := fr, cells := mc, slots := ms, locals := lo }) (va_Pc As (Pre x a b o sz)) (Qf sz) (XCd ΦX x a b o sz) mc ms (AW x sz)
theorem lv_args_at {As : List Value} (h : As.all (fun v => v.category == 1) = true) : ∀ (n i : Nat) (v : Value), As[i]? = some v → (n + i, v) ∈ lv_args n As ∧ v.category = 1 := by
  induction As with
  | nil => intro n i v hi; simp at hi
  | cons w As ih =>
    intro n i v hi
    simp only [List.all_cons, Bool.and_eq_true, beq_iff_eq] at h
    cases i with
    | zero =>
      have e : w = v := by simpa using hi
      subst e
      exact ⟨List.mem_cons_self, h.1⟩
    | succ i =>
      have := ih h.2 (n + 1) i v (by simpa using hi)
      refine ⟨?_, this.2⟩
      unfold lv_args
      rw [if_neg (by omega)]
      refine List.mem_cons_of_mem _ ?_
      rw [show n + (i + 1) = n + 1 + i by omega]
      exact this.1
theorem LV.entry {As : List Value} {n : Nat} (h : As.all (fun v => v.category == 1) = true) (hn : As.length ≤ n) : LV n ((lg_sl As ++ List.replicate (n - (lg_sl As).length) Slot.unset).toArray) (As.map some ++ List.replicate (n - As.length) none) := by
  have hlen : (lg_sl As).length = As.length := by
    have key : ∀ As : List Value, As.all (fun v => v.category == 1) = true → (lg_sl As).length = As.length := by
      intro As
      induction As with
      | nil => intro _; rfl
      | cons w As ih =>
        intro h
        simp only [List.all_cons, Bool.and_eq_true, beq_iff_eq] at h
        have := ih h.2
        simp only [lg_sl, List.flatMap_cons, List.length_append, List.length_cons] at this ⊢
        rw [if_neg (by omega)]
        simp only [List.length_cons, List.length_nil]
        omega
    exact key As h
  have h0 := lv_entry As (n := n) (by rw [hlen]; exact hn)
  refine ⟨h0.1, h0.2.1, by simp; omega, fun i v hi => ?_⟩
  have hv : As[i]? = some v := by
    by_cases hl : i < As.length
    · rw [List.getElem?_append_left (by simpa using hl)] at hi
      simp only [List.getElem?_map] at hi
      cases hx : As[i]? with
      | none => rw [hx] at hi; cases hi
      | some w => rw [hx] at hi; simpa using hi
    · rw [List.getElem?_append_right (by simp; omega)] at hi
      have := List.mem_of_getElem? hi
      simp at this
  have := lv_args_at h 0 i v hv
  rw [Nat.zero_add] at this
  exact ⟨h0.2.2 (i, v) this.1, this.2⟩
theorem MG.of {y : MethodName} {maxL : Nat} {ret : Option FieldType} {fr lo : Nat} {As : List Value} {Qf : Nat → Array Value → State → Outcome → State → Prop} (hl : l.stackTraces = false) (hy : plainName y.cls = true) (lv : List (Option Value)) (hlv : As.map some ++ List.replicate (maxL - As.length) none = lv) (hcat : As.all (fun v => v.category == 1) = true) (hlen : As.length ≤ maxL)
    (body : ∀ (p : Program) (e : Env) (s : State) (m : MethodId) (args : Array Value) (below : List Frame) (meth : Method) (c : Code), CX p l s m meth c x cc y.cls maxL → meth.sig.returnType = ret → VV p l e ({ frames := fr, cells := 0, slots := 0, locals := lo }) s m args below meth c (MQ below (Qf s.heap.size) args s 0 0 (AW x s.heap.size)) x maxL a b o 0 0 0 lv []) : MG l x y cc maxL ret fr lo As a b o Qf := by
  intro sz
  refine Met.ofW (cc := cc) (maxL := maxL) (ret := ret) hy rfl ?_
  intro p e s m args below meth c s₁ B hml hv
  obtain ⟨rfl, rfl, hP, hK⟩ := hv
  have hown : s.vm.findClass y.cls = some m.cls := findClass_of_methodNamed B.named
  rw [lg_entry_eq]
  have hL := LV.entry (n := maxL) hcat hlen
  rw [hlv] at hL
  exact body p e s m As.toArray below meth c ⟨B.exec, B.bytes, hml, hown, hK, B.notSynchronized, hl⟩ B.returns s.heap [] _ hP va_S.rf hL
theorem XG.of {y : MethodName} {maxL : Nat} {ret : Option FieldType} {fr lo mc ms : Nat} {As : List Value} {Qf : Nat → Array Value → State → Outcome → State → Prop} {ΦX : String → Prop} (hl : l.stackTraces = false) (hy : plainName y.cls = true) (lv : List (Option Value)) (hlv : As.map some ++ List.replicate (maxL - As.length) none = lv) (hcat : As.all (fun v => v.category == 1) = true) (hlen : As.length ≤ maxL)
    (body : ∀ (p : Program) (e : Env) (s : State) (m : MethodId) (args : Array Value) (below : List Frame) (meth : Method) (c : Code), CX p l s m meth c x cc y.cls maxL → meth.sig.returnType = ret → (∀ z ∈ c.exceptionTable.toList, False) → VV p l e ({ frames := fr, cells := mc, slots := ms, locals := lo }) s m args below meth c (vx_MQ below (Qf s.heap.size) (XCd ΦX x a b o s.heap.size) args s mc ms (AW x s.heap.size)) x maxL a b o 0 0 0 lv []) : XG l x y cc maxL ret fr lo mc ms As a b o Qf ΦX := by
  intro sz
  refine vx_ofW (cc := cc) (maxL := maxL) (ret := ret) hy rfl ?_
  intro p e s m args below meth c s₁ B hml ht hv
  obtain ⟨rfl, rfl, hP, hK⟩ := hv
  have hown : s.vm.findClass y.cls = some m.cls := findClass_of_methodNamed B.named
  rw [lg_entry_eq]
  have hL := LV.entry (n := maxL) hcat hlen
  rw [hlv] at hL
  exact body p e s m As.toArray below meth c ⟨B.exec, B.bytes, hml, hown, hK, B.notSynchronized, hl⟩ B.returns ht s.heap [] _ hP va_S.rf hL
/-- an end of a method that may throw, where it returns -/
theorem V_xret {Qc : Array Value → State → Outcome → State → Prop} {XC : String → State → State → Prop} {mc ms : Nat} {free : Addr → Prop} (h1 : cells ≤ mc) (h2 : slots ≤ ms) (k : VV p l e R s m args below meth c (MQ below Qc args s mc ms free) x nL a b o mc ms pc lv st) : VV p l e R s m args below meth c (vx_MQ below Qc XC args s mc ms free) x nL a b o cells slots pc lv st :=
  fun H locs ls hP hS hL => W.widen h1 h2 (vx_ret (k H locs ls hP hS hL))
/-! calls -/
theorem CX.fix (C : CX p l s m meth c x cc own nL) : CallFix p m c cc nL s args nwL own := ⟨C.1, C.2.1, C.2.2.1, C.2.2.2.1, C.hts⟩
theorem CX.pre (C : CX p l s m meth c x cc own nL) {H : Heap} {locs : List Loc} {As : List Value} (hP : va_P x.1 vwCl (wd x a b o) H) (hS : va_S (AW x s.heap.size) s.heap H locs) : ∀ U : State, U.heap = H → s.WarmedH U.vm → va_Pc As (Pre x a b o H.size) As.toArray U := by
  intro U hU hW
  refine ⟨rfl, by rw [hU], by rw [hU]; exact hP, ?_⟩
  have h := C.2.2.2.2.1.call hS hW
  rw [hU]
  exact h
/-- a call's run out of any start of the world -/
def RUN (p : Program) (l : Launch) (e : Env) (R : Room) (s : State) (m : MethodId) (args : Array Value) (below : List Frame) (meth : Method) (c : Code) (x : Sh) (nL : Nat) (a b : Mem) (o : Out) (cells slots pc : Nat) (st rest : List Value) (Qf : Nat → Array Value → State → Outcome → State → Prop) (As : List Value) : Prop :=
  ∀ (H : Heap) (locs : List Loc) (ls : Array Slot), va_P x.1 vwCl (wd x a b o) H → va_S (AW x s.heap.size) s.heap H locs → ls.size = nL → va_Run p l e R s m args below meth c H locs cells slots 0 0 (F0 m pc ls st) rest (Qf H.size As.toArray) (AW x H.size)
def RUNX (p : Program) (l : Launch) (e : Env) (R : Room) (s : State) (m : MethodId) (args : Array Value) (below : List Frame) (meth : Method) (c : Code) (x : Sh) (nL : Nat) (a b : Mem) (o : Out) (cells slots pc mc ms : Nat) (st rest : List Value) (Qf : Nat → Array Value → State → Outcome → State → Prop) (ΦX : String → Prop) (As : List Value) : Prop :=
  ∀ (H : Heap) (locs : List Loc) (ls : Array Slot), va_P x.1 vwCl (wd x a b o) H → va_S (AW x s.heap.size) s.heap H locs → ls.size = nL → vx_Run p l e R s m args below meth c H locs cells slots mc ms (F0 m pc ls st) rest (Qf H.size As.toArray) (XCd ΦX x a b o H.size) (AW x H.size)
variable {y : MethodName} {cc' : ByteArray} {maxL' n fr lo mc ms k ci N idx : Nat} {ret' : Option FieldType} {As : List Value} {Qf : Nat → Array Value → State → Outcome → State → Prop} {ΦX : String → Prop} {T : u_T} {fs : List Value}
theorem cwVm (hw : MIW y cc' maxL' ret' n) (hts : ∀ w ∈ nwL, w.before args s = true) (hlk : Cond.methodLink own idx y ∈ nwL) (hR : fr + 1 ≤ R.frames ∧ 8 + (maxL' + 11) + lo ≤ R.locals) : CallW R s args own y.cls idx y cc' maxL' ret' [Cond.code y cc' maxL' ret'] ({ frames := fr, cells := mc, slots := ms, locals := lo }) mc ms n := by
  obtain ⟨h1, h2, h3, h4, h5, h6, h7⟩ := hw
  refine cwV n hts (fun w hw => ?_) rfl rfl rfl ⟨rfl, h5, h6, h7⟩ hR
  simp only [wsV, List.cons_append, List.nil_append, List.mem_cons, List.not_mem_nil, or_false] at hw
  rcases hw with rfl | rfl | rfl | rfl | rfl
  · exact ⟨hlk, Or.inl rfl⟩
  · exact ⟨h1, Or.inl rfl⟩
  · exact ⟨h2, Or.inl rfl⟩
  · exact ⟨h3, Or.inl rfl⟩
  · exact ⟨h4, Or.inl rfl⟩
theorem cwSm (hw : MSW y cc' maxL' ret' n) (hts : ∀ w ∈ nwL, w.before args s = true) (hlk : Cond.methodLink own idx y ∈ nwL) (hR : fr + 1 ≤ R.frames ∧ 8 + (maxL' + 11) + lo ≤ R.locals) : CallB R s args own idx y cc' maxL' ret' [Cond.code y cc' maxL' ret'] ({ frames := fr, cells := mc, slots := ms, locals := lo }) mc ms n ∧ (Cond.static y).before args s = true := by
  obtain ⟨h1, h3, h4, h5, h6, h7⟩ := hw
  refine va_cwS n hts (fun w hw => ?_) rfl rfl rfl ⟨h5, h6, h7⟩ hR
  simp only [va_wsS, List.cons_append, List.nil_append, List.mem_cons, List.not_mem_nil, or_false] at hw
  rcases hw with rfl | rfl | rfl | rfl
  · exact ⟨hlk, Or.inl rfl⟩
  · exact ⟨h1, Or.inl rfl⟩
  · exact ⟨h3, Or.inl rfl⟩
  · exact ⟨h4, Or.inl rfl⟩
theorem CX.recv (C : CX p l s m meth c x cc own nL) {H : Heap} {Rn : String} (hP : va_P x.1 vwCl (wd x a b o) H) (hk : k < 70) (hG : GE x a b o k = .inr (ci, fs)) (hc : vwCl[ci]? = some (Rn, T, N)) : ∃ cell : Cell, H[x.2.1 k]? = some cell ∧ cell.vm.isStatics = false ∧ s.vm.findClass Rn = some cell.cls :=
  va_recv (q := (Rn, T, N)) C.K hP hc (q0 := k) (a := x.2.1 k) (fs := fs) (by rw [wd_at hk, hG])
theorem R_V (C : CX p l s m meth c x cc own nL) (hM : MG l x y cc' maxL' ret' fr lo (.ref (x.2.1 k) :: As) a b o Qf) (hw : MIW y cc' maxL' ret' n) (hlk : Cond.methodLink own idx y ∈ nwL) (hn : As.length = n) (hk : k < 70) (hG : GE x a b o k = .inr (ci, fs)) (hc : vwCl[ci]? = some (y.cls, T, N)) (hR : fr + 1 ≤ R.frames ∧ 8 + (maxL' + 11) + lo ≤ R.locals) (hst : st = As.reverse ++ .ref (x.2.1 k) :: rest) (hcat : (rest.map fun v => v.category).sum ≤ 8) (hf : cells ≤ R.cells ∧ slots ≤ R.slots) (hd : decode cc pc = .ok (.invokevirtual idx, 3)) : RUN p l e R s m args below meth c x nL a b o cells slots pc st rest Qf (.ref (x.2.1 k) :: As) :=
  fun H locs ls hP hS hL => va_runV C.fix (hM H.size) (cwVm hw C.hts hlk hR) ⟨Pre.blind, C.recv hP hk hG hc, C.pre hP hS⟩ rfl hn hL hst (lv_room hcat) hd hf
theorem R_S (C : CX p l s m meth c x cc own nL) (hM : MG l x y cc' maxL' ret' fr lo As a b o Qf) (hw : MSW y cc' maxL' ret' n) (hlk : Cond.methodLink own idx y ∈ nwL) (hn : As.length = n) (hR : fr + 1 ≤ R.frames ∧ 8 + (maxL' + 11) + lo ≤ R.locals) (hst : st = As.reverse ++ rest) (hcat : (rest.map fun v => v.category).sum ≤ 8) (hf : cells ≤ R.cells ∧ slots ≤ R.slots) (hd : decode cc pc = .ok (.invokestatic idx, 3)) : RUN p l e R s m args below meth c x nL a b o cells slots pc st rest Qf As :=
  fun H locs ls hP hS hL => va_runS C.fix (hM H.size) (cwSm hw C.hts hlk hR) ⟨Pre.blind, C.pre hP hS⟩ rfl hn hL hst (lv_room hcat) hd hf
theorem cnm {host : String} {ws : List Cond} (hws : ws = [Cond.code y cc' maxL' ret']) (h3 : Cond.initialized y.cls ∈ nwL) (h4 : Cond.code y cc' maxL' ret' ∈ nwL) (h5 : y.cls ≠ "java/lang/invoke/MethodHandle" ∧ y.cls ≠ "java/lang/invoke/VarHandle" ∧ (parseMethodDescriptor y.desc).map (fun d => d.parameters.length) = some n) (hts : ∀ (A : Array Value), ∀ w ∈ nwL, w.before A s = true) (hlk : Cond.methodLinkNest own idx y host ∈ nwL) (hR : fr + 1 ≤ R.frames ∧ 8 + (maxL' + 11) + lo ≤ R.locals) : va_CN R s args own idx y host cc' maxL' ret' ws ({ frames := fr, cells := mc, slots := ms, locals := lo }) mc ms n := by
  subst hws
  refine va_cnB n (hts args) (fun w hw => ?_) rfl rfl rfl (va_Nw.of rfl (hts args _ hlk)) (hts args _ h3) h5 hR
  rw [List.mem_singleton.mp hw]
  exact ⟨h4, Or.inl rfl⟩
theorem R_VN (C : CX p l s m meth c x cc own nL) {host : String} (hM : MG l x y cc' maxL' ret' fr lo (.ref (x.2.1 k) :: As) a b o Qf) (hw : MIW y cc' maxL' ret' n) (hlk : Cond.methodLinkNest own idx y host ∈ nwL) (hn : As.length = n) (hk : k < 70) (hG : GE x a b o k = .inr (ci, fs)) (hc : vwCl[ci]? = some (y.cls, T, N)) (hR : fr + 1 ≤ R.frames ∧ 8 + (maxL' + 11) + lo ≤ R.locals) (hst : st = As.reverse ++ .ref (x.2.1 k) :: rest) (hcat : (rest.map fun v => v.category).sum ≤ 8) (hf : cells ≤ R.cells ∧ slots ≤ R.slots) (hd : decode cc pc = .ok (.invokevirtual idx, 3)) : RUN p l e R s m args below meth c x nL a b o cells slots pc st rest Qf (.ref (x.2.1 k) :: As) :=
  fun H locs ls hP hS hL => va_runVN C.fix (hM H.size) ⟨cnm rfl hw.2.2.1 hw.2.2.2.1 hw.2.2.2.2 (fun A => C.hts) hlk hR, C.hts _ hw.1, C.hts _ hw.2.1⟩ ⟨Pre.blind, C.recv hP hk hG hc, C.pre hP hS⟩ rfl hn hL hst (lv_room hcat) hd hf
theorem R_SN (C : CX p l s m meth c x cc own nL) {host : String} (hM : MG l x y cc' maxL' ret' fr lo As a b o Qf) (hw : MSW y cc' maxL' ret' n) (hlk : Cond.methodLinkNest own idx y host ∈ nwL) (hn : As.length = n) (hR : fr + 1 ≤ R.frames ∧ 8 + (maxL' + 11) + lo ≤ R.locals) (hst : st = As.reverse ++ rest) (hcat : (rest.map fun v => v.category).sum ≤ 8) (hf : cells ≤ R.cells ∧ slots ≤ R.slots) (hd : decode cc pc = .ok (.invokestatic idx, 3)) : RUN p l e R s m args below meth c x nL a b o cells slots pc st rest Qf As :=
  fun H locs ls hP hS hL => va_runSN C.fix (hM H.size) ⟨cnm rfl hw.2.1 hw.2.2.1 hw.2.2.2 (fun A => C.hts) hlk hR, C.hts _ hw.1, trivial⟩ ⟨Pre.blind, C.pre hP hS⟩ rfl hn hL hst (lv_room hcat) hd hf
theorem RX_V (C : CX p l s m meth c x cc own nL) (hM : XG l x y cc' maxL' ret' fr lo mc ms (.ref (x.2.1 k) :: As) a b o Qf ΦX) (hw : MIW y cc' maxL' ret' n) (hlk : Cond.methodLink own idx y ∈ nwL) (hn : As.length = n) (hk : k < 70) (hG : GE x a b o k = .inr (ci, fs)) (hc : vwCl[ci]? = some (y.cls, T, N)) (hR : fr + 1 ≤ R.frames ∧ 8 + (maxL' + 11) + lo ≤ R.locals) (hst : st = As.reverse ++ .ref (x.2.1 k) :: rest) (hcat : (rest.map fun v => v.category).sum ≤ 8) (hf : cells + mc ≤ R.cells ∧ slots + ms ≤ R.slots) (hd : decode cc pc = .ok (.invokevirtual idx, 3)) : RUNX p l e R s m args below meth c x nL a b o cells slots pc mc ms st rest Qf ΦX (.ref (x.2.1 k) :: As) :=
  fun H locs ls hP hS hL => vx_runV C.fix (hM H.size) (cwVm hw C.hts hlk hR) ⟨Pre.blind, C.recv hP hk hG hc, C.pre hP hS⟩ rfl hn hL hst (lv_room hcat) hd hf
theorem RX_S (C : CX p l s m meth c x cc own nL) (hM : XG l x y cc' maxL' ret' fr lo mc ms As a b o Qf ΦX) (hw : MSW y cc' maxL' ret' n) (hlk : Cond.methodLink own idx y ∈ nwL) (hn : As.length = n) (hR : fr + 1 ≤ R.frames ∧ 8 + (maxL' + 11) + lo ≤ R.locals) (hst : st = As.reverse ++ rest) (hcat : (rest.map fun v => v.category).sum ≤ 8) (hf : cells + mc ≤ R.cells ∧ slots + ms ≤ R.slots) (hd : decode cc pc = .ok (.invokestatic idx, 3)) : RUNX p l e R s m args below meth c x nL a b o cells slots pc mc ms st rest Qf ΦX As :=
  fun H locs ls hP hS hL => vx_runS C.fix (hM H.size) (cwSm hw C.hts hlk hR) ⟨Pre.blind, C.pre hP hS⟩ rfl hn hL hst (lv_room hcat) hd hf
theorem AW_A {H : Heap} {x : Sh} {s : State} {locs : List Loc} (hS : va_S (AW x s.heap.size) s.heap H locs) : ∀ q, AW x H.size q → AW x s.heap.size q := fun q h => h.narrow hS.1
theorem V_calli {Φ : Int32 → Mem → Mem → Prop} (hr : RUN p l e R s m args below meth c x nL a b o cells slots pc st rest (QI x o Φ) As) (kk : ∀ r a' b', Φ r a' b' → VV p l e R s m args below meth c Q x nL a' b' o cells slots (pc + 3) lv (.int r :: rest)) : VV p l e R s m args below meth c Q x nL a b o cells slots pc lv st :=
  fun H locs ls hP hS hL => va_calli (hr H locs ls hP hS hL.1) hS (fun q _ h => AW_A hS q h) (AW_A hS) (fun r u t H1 locs1 ht _ hp hB _ _ hS1 => kk r u.1 u.2 hp H1 locs1 ls (by rw [ht] at hB; exact hB) hS1 hL)
theorem V_callv {Φ : Mem → Mem → Prop} (hr : RUN p l e R s m args below meth c x nL a b o cells slots pc st rest (QV x o Φ) As) (kk : ∀ a' b', Φ a' b' → VV p l e R s m args below meth c Q x nL a' b' o cells slots (pc + 3) lv rest) : VV p l e R s m args below meth c Q x nL a b o cells slots pc lv st :=
  fun H locs ls hP hS hL => va_callv (hr H locs ls hP hS hL.1) hS (fun q _ h => AW_A hS q h) (AW_A hS) (fun u t H1 locs1 ht _ hp hB _ _ hS1 => kk u.1 u.2 hp H1 locs1 ls (by rw [ht] at hB; exact hB) hS1 hL)
/-- not caught here -/
theorem vv_out {Qc : Array Value → State → Outcome → State → Prop} {ΦX' : String → Prop} {mc' ms' : Nat} {H : Heap} {locs : List Loc} {ls : Array Slot} {E : String} {ce : Cell} {q9 : Addr} (C : CX p l s m meth c x cc own nL) (ht : ∀ z ∈ c.exceptionTable.toList, False) (hX : ΦX' E) (hcs : cells ≤ mc' ∧ slots ≤ ms') (hP : va_P x.1 vwCl (wd x a b o) H) (hS : va_S (AW x s.heap.size) s.heap H locs) (hcell : H[q9]? = some ce) (hv : ce.vm = .none) (hcl : s.vm.findClass E = some ce.cls) : vx_W p l e R s m args below meth c H locs cells slots (vx_MQ below Qc (XCd ΦX' x a b o s.heap.size) args s mc' ms' (AW x s.heap.size)) (F0 m pc ls rest) q9 :=
  vx_out (fun z hz => (ht z hz).elim) C.2.2.2.2.2.1 hcell hv hcl (fun t htt _ => ⟨(), trivial, ⟨hX, by rw [htt]; exact hP⟩, hS.F htt⟩) hS.2.2 hcs.1 hcs.2
theorem V_xcalli {Qc : Array Value → State → Outcome → State → Prop} {ΦX' : String → Prop} {mc' ms' : Nat} {Φ : Int32 → Mem → Mem → Prop} (C : CX p l s m meth c x cc own nL) (ht : ∀ z ∈ c.exceptionTable.toList, False) (hr : RUNX p l e R s m args below meth c x nL a b o cells slots pc mc ms st rest (QI x o Φ) ΦX As) (hX : ∀ E, ΦX E → ΦX' E) (hcs : cells + mc ≤ mc' ∧ slots + ms ≤ ms') (kk : ∀ r a' b', Φ r a' b' → VV p l e R s m args below meth c (vx_MQ below Qc (XCd ΦX' x a b o s.heap.size) args s mc' ms' (AW x s.heap.size)) x nL a' b' o (cells + mc) (slots + ms) (pc + 3) lv (.int r :: rest)) : VV p l e R s m args below meth c (vx_MQ below Qc (XCd ΦX' x a b o s.heap.size) args s mc' ms' (AW x s.heap.size)) x nL a b o cells slots pc lv st :=
  fun H locs ls hP hS hL => vx_calli (hr H locs ls hP hS hL.1) hS (fun q _ h => AW_A hS q h) (AW_A hS) (fun q _ h => AW_A hS q h)
    (fun E ce q9 u t H1 locs1 htt _ _ hB _ _ hS1 hce hcv hcl => vv_out C ht (hX E hB.1) hcs (by have := hB.2; rw [htt] at this; exact this) hS1 hce hcv hcl)
    (fun r u t H1 locs1 htt _ hp hB _ _ hS1 => kk r u.1 u.2 hp H1 locs1 ls (by rw [htt] at hB; exact hB) hS1 hL)
theorem V_xcallv {Qc : Array Value → State → Outcome → State → Prop} {ΦX' : String → Prop} {mc' ms' : Nat} {Φ : Mem → Mem → Prop} (C : CX p l s m meth c x cc own nL) (ht : ∀ z ∈ c.exceptionTable.toList, False) (hr : RUNX p l e R s m args below meth c x nL a b o cells slots pc mc ms st rest (QV x o Φ) ΦX As) (hX : ∀ E, ΦX E → ΦX' E) (hcs : cells + mc ≤ mc' ∧ slots + ms ≤ ms') (kk : ∀ a' b', Φ a' b' → VV p l e R s m args below meth c (vx_MQ below Qc (XCd ΦX' x a b o s.heap.size) args s mc' ms' (AW x s.heap.size)) x nL a' b' o (cells + mc) (slots + ms) (pc + 3) lv rest) : VV p l e R s m args below meth c (vx_MQ below Qc (XCd ΦX' x a b o s.heap.size) args s mc' ms' (AW x s.heap.size)) x nL a b o cells slots pc lv st :=
  fun H locs ls hP hS hL => vx_callv (hr H locs ls hP hS hL.1) hS (fun q _ h => AW_A hS q h) (AW_A hS) (fun q _ h => AW_A hS q h)
    (fun E ce q9 u t H1 locs1 htt _ _ hB _ _ hS1 hce hcv hcl => vv_out C ht (hX E hB.1) hcs (by have := hB.2; rw [htt] at this; exact this) hS1 hce hcv hcl)
    (fun u t H1 locs1 htt _ hp hB _ _ hS1 => kk u.1 u.2 hp H1 locs1 ls (by rw [htt] at hB; exact hB) hS1 hL)
theorem V_xcallr {Qc : Array Value → State → Outcome → State → Prop} {ΦX' : String → Prop} {mc' ms' : Nat} {Φ : Nat → Mem → Mem → Prop} (C : CX p l s m meth c x cc own nL) (ht : ∀ z ∈ c.exceptionTable.toList, False) (hr : RUNX p l e R s m args below meth c x nL a b o cells slots pc mc ms st rest (QR x o Φ) ΦX As) (hX : ∀ E, ΦX E → ΦX' E) (hcs : cells + mc ≤ mc' ∧ slots + ms ≤ ms') (kk : ∀ k a' b', Φ k a' b' → VV p l e R s m args below meth c (vx_MQ below Qc (XCd ΦX' x a b o s.heap.size) args s mc' ms' (AW x s.heap.size)) x nL a' b' o (cells + mc) (slots + ms) (pc + 3) lv (.ref (x.2.1 k) :: rest)) : VV p l e R s m args below meth c (vx_MQ below Qc (XCd ΦX' x a b o s.heap.size) args s mc' ms' (AW x s.heap.size)) x nL a b o cells slots pc lv st := by
  intro H locs ls hP hS hL T hT X
  rcases hr H locs ls hP hS hL.1 T hT X with ⟨v, st₀, t, T', L, h0, X', hLf, e1, e2, ⟨⟨u, ra, hv, hp, hb⟩, hF⟩, sts⟩ | ⟨q, st₀, t, T', L, E, ce, h0, X', hLf, e1, e2, ⟨u, hp, hb, hF⟩, hce, hcv, hcl, sts⟩
  · cases hv
    obtain ⟨k1, k2, k3⟩ := vx_keep h0 e1 hS (fun q _ h => AW_A hS q h) (AW_A hS) hLf hF
    obtain ⟨e3, hP1⟩ := hb
    subst e3
    obtain ⟨t2, a1, b1⟩ := kk u.1 u.2.1 u.2.2 hp T'.heap (locs ++ L) ls (by rw [e1]; exact hP1) k3 hL T' rfl X'
    exact ⟨t2, sts t2 a1, b1⟩
  · obtain ⟨k1, k2, k3⟩ := vx_keep h0 e1 hS (fun q _ h => AW_A hS q h) (AW_A hS) hLf hF
    obtain ⟨t2, a1, b1⟩ := vv_out (Qc := Qc) (R := R) (below := below) (args := args) (e := e) (pc := pc) (rest := rest) (ls := ls) C ht (hX E hb.1) hcs (by rw [e1]; exact hb.2) k3 (by rw [e1]; exact hce) hcv hcl T' rfl X'
    exact ⟨t2, sts.trans a1, b1⟩
/-- the words of a throw -/
def TW (own : String) (ik ic : Nat) (cls : String) : Prop := Bundle.fit cls = true ∧ ∀ w ∈ Cond.classLink own ik cls :: Cond.initialized cls :: vx_atS own ic cls ["java/lang/RuntimeException", "java/lang/Exception"], w ∈ nwL ∧ vx_ot w = true
theorem V_throwS {Qc : Array Value → State → Outcome → State → Prop} {ΦX' : String → Prop} {cls text : String} {ik is ic : Nat} (C : CX p l s m meth c x cc own nL) (ht : ∀ z ∈ c.exceptionTable.toList, False) (hw : TW own ik ic cls) (hstr : (own, is, text) ∈ strL) (hX : ΦX' cls) (d0 : decode cc pc = .ok (.new ik, 3)) (d3 : decode cc (pc + 3) = .ok (.dup, 1)) (d4 : decode cc (pc + 4) = .ok (.ldc is, 2)) (d6 : decode cc (pc + 6) = .ok (.invokespecial ic, 3)) (d9 : decode cc (pc + 9) = .ok (.athrow, 1))
    (hR : 5 < R.frames ∧ (st.map fun v => v.category).sum + 82 ≤ R.locals ∧ cells + 1 ≤ R.cells ∧ slots + 6 ≤ R.slots) (hcs : cells + 1 ≤ mc ∧ slots + 6 ≤ ms) : VV p l e R s m args below meth c (vx_MQ below Qc (XCd ΦX' x a b o s.heap.size) args s mc ms (AW x s.heap.size)) x nL a b o cells slots pc lv st := by
  intro H locs ls hP hS hL
  obtain ⟨hfit, hw⟩ := hw
  obtain ⟨hx, hb, hml, hown, hK, hlo, hfl⟩ := id C
  obtain ⟨sa, hsa⟩ := hK.2.2.2.1.2.2 _ hstr
  have hw2 := hw
  refine vx_throwS hx hb hfl hown hfit (by decide) (C.hts _ (hw _ List.mem_cons_self).1) (C.hts _ (hw _ (List.mem_cons_of_mem _ List.mem_cons_self)).1) hsa (fun w h => C.hts _ (hw w (List.mem_cons_of_mem _ (List.mem_cons_of_mem _ h))).1) (fun w h => (hw2 w h).2) hK.2.2.2.1.1 hK.2.2.2.1.2.1 hS (hL.1.trans hml.symm) d0 d3 d4 d6 d9 (fun z hz => (ht z hz).elim) hR.1 hR.2.1 hR.2.2.1 hR.2.2.2 hlo (fun t _ hsz heq => ?_) hS.2.2 hcs.1 hcs.2
  refine ⟨(), trivial, ⟨hX, hP.kept (fun k q hq => heq q.1 ((hP k q hq).lt))⟩, ⟨Nat.le_trans hS.1 hsz, fun q hq hnq => ?_⟩⟩
  rw [heq q (Nat.lt_of_lt_of_le hq hS.1)]
  exact hS.2.1 q hq hnq
theorem V_throwSW {Qc : Array Value → State → Outcome → State → Prop} {ΦX' : String → Prop} {cls text : String} {ik is ic : Nat} (C : CX p l s m meth c x cc own nL) (ht : ∀ z ∈ c.exceptionTable.toList, False) (hw : TW own ik ic cls) (hstr : (own, is, text) ∈ strL) (hX : ΦX' cls) (d0 : decode cc pc = .ok (.new ik, 3)) (d3 : decode cc (pc + 3) = .ok (.dup, 1)) (d4 : decode cc (pc + 4) = .ok (.ldc_w is, 3)) (d6 : decode cc (pc + 7) = .ok (.invokespecial ic, 3)) (d9 : decode cc (pc + 10) = .ok (.athrow, 1))
    (hR : 5 < R.frames ∧ (st.map fun v => v.category).sum + 82 ≤ R.locals ∧ cells + 1 ≤ R.cells ∧ slots + 6 ≤ R.slots) (hcs : cells + 1 ≤ mc ∧ slots + 6 ≤ ms) : VV p l e R s m args below meth c (vx_MQ below Qc (XCd ΦX' x a b o s.heap.size) args s mc ms (AW x s.heap.size)) x nL a b o cells slots pc lv st := by
  intro H locs ls hP hS hL
  obtain ⟨hfit, hw⟩ := hw
  obtain ⟨hx, hb, hml, hown, hK, hlo, hfl⟩ := id C
  obtain ⟨sa, hsa⟩ := hK.2.2.2.1.2.2 _ hstr
  have hw2 := hw
  refine vx_throwSW hx hb hfl hown hfit (by decide) (C.hts _ (hw _ List.mem_cons_self).1) (C.hts _ (hw _ (List.mem_cons_of_mem _ List.mem_cons_self)).1) hsa (fun w h => C.hts _ (hw w (List.mem_cons_of_mem _ (List.mem_cons_of_mem _ h))).1) (fun w h => (hw2 w h).2) hK.2.2.2.1.1 hK.2.2.2.1.2.1 hS (hL.1.trans hml.symm) d0 d3 d4 d6 d9 (fun z hz => (ht z hz).elim) hR.1 hR.2.1 hR.2.2.1 hR.2.2.2 hlo (fun t _ hsz heq => ?_) hS.2.2 hcs.1 hcs.2
  refine ⟨(), trivial, ⟨hX, hP.kept (fun k q hq => heq q.1 ((hP k q hq).lt))⟩, ⟨Nat.le_trans hS.1 hsz, fun q hq hnq => ?_⟩⟩
  rw [heq q (Nat.lt_of_lt_of_le hq hS.1)]
  exact hS.2.1 q hq hnq
end VVM
