/-! the law's helpers: bodies with handlers -/
section LGR
variable {p : Program} {l : Launch} {e : Env} {R : Room} {s : State} {m : MethodId} {args : Array Value} {below : List Frame} {meth : Method} {c : Code} {Q : State → Prop} {x : Sh} {nL : Nat} {a b : Mem} {o : Out} {cells slots pc : Nat} {lv : List (Option Value)} {st rest As : List Value} {cc : ByteArray} {own : String} {mc ms : Nat} {hh : List (Nat × Nat × Nat × Nat)}
def QL (x : Sh) (Φ : Int32 → Mem → Mem → Out → Prop) (sz : Nat) : Array Value → State → Outcome → State → Prop := va_Qi (S := Mem × Mem × Out) (fun r u => Φ r u.1 u.2.1 u.2.2) (fun u t => va_P x.1 vwCl (wd x u.1 u.2.1 u.2.2) t.heap) (AW x sz)
def LG (l : Launch) (x : Sh) (y : MethodName) (cc : ByteArray) (maxL : Nat) (ret : Option FieldType) (hh : List (Nat × Nat × Nat × Nat)) (fr lo mc ms : Nat) (As : List Value) (a b : Mem) (o : Out) (Qf : Nat → Array Value → State → Outcome → State → Prop) : Prop :=
  ∀ sz, Met l y [Cond.codeWith y cc maxL ret hh] ({ frames := fr, cells := mc, slots := ms, locals := lo }) (va_Pc As (Pre x a b o sz)) (Qf sz) mc ms (AW x sz)
theorem LG.of {y : MethodName} {maxL : Nat} {ret : Option FieldType} {fr lo : Nat} {Qf : Nat → Array Value → State → Outcome → State → Prop} (hl : l.stackTraces = false) (hy : plainName y.cls = true) (lv : List (Option Value)) (hlv : As.map some ++ List.replicate (maxL - As.length) none = lv) (hcat : As.all (fun v => v.category == 1) = true) (hlen : As.length ≤ maxL)
    (body : ∀ (p : Program) (e : Env) (s : State) (m : MethodId) (args : Array Value) (below : List Frame) (meth : Method) (c : Code), CX p l s m meth c x cc y.cls maxL → meth.sig.returnType = ret → c.exceptionTable.toList = tableOf hh → VV p l e ({ frames := fr, cells := mc, slots := ms, locals := lo }) s m args below meth c (MQ below (Qf s.heap.size) args s mc ms (AW x s.heap.size)) x maxL a b o 0 0 0 lv []) : LG l x y cc maxL ret hh fr lo mc ms As a b o Qf := by
  intro sz
  refine MetFree.of_bodyS (code := cc) (maxLocals := maxL) (ret := ret) hy ?_ ?_
  · intro args s m h hn
    obtain ⟨m9, meth, c, hn9, h1, h2, h3, h4, -, h5, h6, -⟩ := Cond.codeWith_spec (atoms_spec (ws := [Cond.codeWith y cc maxL ret hh]) h _ List.mem_cons_self)
    cases hn.symm.trans hn9
    exact ⟨meth, c, h1, h2, h3, h4, h5, h6⟩
  · intro p e s m args below meth c s₁ B hml hP _
    have hh0 : s₁.heap = s.heap := by rw [B.state]; rfl
    have htab := vx_table (x := y) B (atoms_spec (ws := [Cond.codeWith y cc maxL ret hh]) B.pre _ List.mem_cons_self)
    obtain ⟨rfl, rfl, hPP, hK⟩ := hP
    have hown : s.vm.findClass y.cls = some m.cls := findClass_of_methodNamed B.named
    have hL := LV.entry (n := maxL) hcat hlen
    rw [hlv] at hL
    have hb := body p e s m As.toArray below meth c ⟨B.exec, B.bytes, hml, hown, hK, B.notSynchronized, hl⟩ B.returns htab s.heap [] _ hPP va_S.rf hL
    rw [← lg_entry_eq] at hb
    obtain ⟨t, a1, o, b1, b2, b3, b4⟩ := hb s₁ hh0 (Stand.of_body B)
    exact ⟨t, o, a1, b1, b2, b3, b4⟩
/-- an end of such a body -/
theorem V_lret (C : CX p l s m meth c x cc own nL) {Φ : Int32 → Mem → Mem → Out → Prop} {v : Int32} (hr : meth.sig.returnType = some .int) (hd : decode cc pc = .ok (.ireturn, 1)) (h : Φ v a b o) (hcs : cells ≤ mc ∧ slots ≤ ms) : VV p l e R s m args below meth c (MQ below (QL x Φ s.heap.size) args s mc ms (AW x s.heap.size)) x nL a b o cells slots pc lv [.int v] :=
  fun H locs ls hP hS hL => W.widen hcs.1 hcs.2 (W.iret C.1 C.2.1 hr (fun t ht hW => ⟨⟨v, (a, b, o), rfl, h, by show va_P _ _ _ t.heap; rw [ht]; exact hP⟩, hS.F ht⟩) hS.2.2 hd C.2.2.2.2.2.1)
theorem GE_o {x : Sh} {a b : Mem} {o o' : Out} {j : Nat} (h : j < 87) : GE x a b o' j = GE x a b o j := by
  unfold GE
  by_cases h1 : j < 70
  · rw [if_pos h1, if_pos h1]
  · rw [if_neg h1, if_neg h1, if_pos h, if_pos h]
theorem wd_set2 {x : Sh} {a b : Mem} {o o' : Out} {k : Nat} {e : va_E} (hk : k < 89) (he : GE x a b o' k = e) (hne : ∀ j, j < 89 → j ≠ k → GE x a b o' j = GE x a b o j) : (wd x a b o).set k (x.2.1 k, e) = wd x a b o' := by
  apply List.ext_getElem?
  intro j
  by_cases hj : j = k
  · subst hj
    rw [List.getElem?_set_self (by rw [wd_len]; exact hk), wd_at hk, he]
  · rw [List.getElem?_set_ne (Ne.symm hj)]
    by_cases h89 : j < 89
    · rw [wd_at h89, wd_at h89, hne j h89 hj]
    · rw [List.getElem?_eq_none (by rw [wd_len]; omega), List.getElem?_eq_none (by rw [wd_len]; omega)]
theorem GE_87 {x : Sh} {a b : Mem} {o : Out} : GE x a b o 87 = .inl (x.2.2 4, 1, .inr (.inl (fun j => if j = 0 then o.1 else 0))) := rfl
theorem GE_88 {x : Sh} {a b : Mem} {o : Out} : GE x a b o 88 = .inl (x.2.2 5, 1, .inr (.inr (.inr (.inl (fun j => if j = 0 then o.2 else 0))))) := rfl
theorem V_last (C : CX p l s m meth c x cc own nL) {v : Int64} {iv : Int32} (he : iv = 0) (hd : decode cc pc = .ok (.lastore, 1)) (kk : VV p l e R s m args below meth c Q x nL a b (v, o.2) cells slots (pc + 1) lv st) : VV p l e R s m args below meth c Q x nL a b o cells slots pc lv (.long v :: .int iv :: .ref (x.2.1 87) :: st) := by
  intro H locs ls hP hS hL
  subst he
  have ha : (wd x a b o)[87]? = some (x.2.1 87, .inl (x.2.2 4, 1, .inr (.inl (fun j => if j = 0 then o.1 else 0)))) := wd_at (by decide)
  refine va_last C.1 C.2.1 C.K hP C.D hS 87 4 ha rfl (vp_in_le (i := 0) (n := 1) (by decide) (by decide)) hd (fun H1 locs1 hP1 _ hS1 => ?_)
  have hs : (wd x a b o).set 87 (x.2.1 87, .inl (x.2.2 4, 1, .inr (.inl (vp_updL (fun j => if j = 0 then o.1 else 0) (0 : Int32).toNatClampNeg v)))) = wd x a b (v, o.2) := by
    refine wd_set2 (by decide) ?_ (fun j hj9 hj => ?_)
    · have e : vp_updL (fun j => if j = 0 then o.1 else 0) (0 : Int32).toNatClampNeg v = (fun j => if j = 0 then v else 0) := by
        funext j
        unfold vp_updL
        show (if j = 0 then v else if j = 0 then o.1 else 0) = _
        by_cases h : j = 0
        · rw [if_pos h, if_pos h]
        · rw [if_neg h, if_neg h, if_neg h]
      rw [e]
      rfl
    · rcases Nat.lt_or_ge j 87 with h | h
      · exact GE_o h
      · have e : j = 88 := by omega
        subst e
        rw [GE_88, GE_88]
  rw [hs] at hP1
  exact kk H1 locs1 ls hP1 hS1 hL
theorem V_dast (C : CX p l s m meth c x cc own nL) {v : UInt64} {iv : Int32} (he : iv = 0) (hd : decode cc pc = .ok (.dastore, 1)) (kk : VV p l e R s m args below meth c Q x nL a b (o.1, v) cells slots (pc + 1) lv st) : VV p l e R s m args below meth c Q x nL a b o cells slots pc lv (.double v :: .int iv :: .ref (x.2.1 88) :: st) := by
  intro H locs ls hP hS hL
  subst he
  have ha : (wd x a b o)[88]? = some (x.2.1 88, .inl (x.2.2 5, 1, .inr (.inr (.inr (.inl (fun j => if j = 0 then o.2 else 0)))))) := wd_at (by decide)
  refine va_dast C.1 C.2.1 C.K hP C.D hS 88 5 ha rfl (vp_in_le (i := 0) (n := 1) (by decide) (by decide)) hd (fun H1 locs1 hP1 _ hS1 => ?_)
  have hs : (wd x a b o).set 88 (x.2.1 88, .inl (x.2.2 5, 1, .inr (.inr (.inr (.inl (vf_upd (fun j => if j = 0 then o.2 else 0) (0 : Int32).toNatClampNeg v)))))) = wd x a b (o.1, v) := by
    refine wd_set2 (by decide) ?_ (fun j hj9 hj => ?_)
    · have e : vf_upd (fun j => if j = 0 then o.2 else 0) (0 : Int32).toNatClampNeg v = (fun j => if j = 0 then v else 0) := by
        funext j
        unfold vf_upd
        show (if j = 0 then v else if j = 0 then o.2 else 0) = _
        by_cases h : j = 0
        · rw [if_pos h, if_pos h]
        · rw [if_neg h, if_neg h, if_neg h]
      rw [e]
      rfl
    · rcases Nat.lt_or_ge j 87 with h | h
      · exact GE_o h
      · have e : j = 87 := by omega
        subst e
        rw [GE_87, GE_87]
  rw [hs] at hP1
  exact kk H1 locs1 ls hP1 hS1 hL
/-- the row of a table that takes an exception: those ahead don't -/
def Takes (own : String) (hh : List (Nat × Nat × Nat × Nat)) (pc : Nat) (E : String) (tgt : Nat) : Prop := ∃ (pre : List (Nat × Nat × Nat × Nat)) (h : Nat × Nat × Nat × Nat) (suf : List (Nat × Nat × Nat × Nat)), hh = pre ++ h :: suf ∧ (∀ z ∈ pre, z.2.2.2 ≠ 0 ∧ ∃ N, N ∈ exL ∧ E ≠ N ∧ Cond.classLink own z.2.2.2 N ∈ nwL) ∧ h.1 ≤ pc ∧ pc < h.2.1 ∧ h.2.2.2 ≠ 0 ∧ h.2.2.1 = tgt ∧ E ∈ exL ∧ Cond.classLink own h.2.2.2 E ∈ nwL ∧ Cond.castable E E ∈ nwL
theorem vv_catch {E : String} {tgt : Nat} {H : Heap} {locs : List Loc} {ls : Array Slot} {q9 : Addr} {ce : Cell} (C : CX p l s m meth c x cc own nL) (tab : c.exceptionTable.toList = tableOf hh) (ht : Takes own hh pc E tgt) (hP : va_P x.1 vwCl (wd x a b o) H) (hS : va_S (AW x s.heap.size) s.heap H locs) (hL : LV nL ls lv) (hcell : H[q9]? = some ce) (hv : ce.vm = .none) (hcl : s.vm.findClass E = some ce.cls) (kk : VV p l e R s m args below meth c Q x nL a b o cells slots tgt lv [.ref q9]) : vx_W p l e R s m args below meth c H locs cells slots Q (F0 m pc ls rest) q9 := by
  obtain ⟨pre, h, suf, h1, h2, h3, h4, h5, h6, h7, h8, h9⟩ := ht
  have hK : KX x s s.heap := C.2.2.2.2.1
  have hNC : NC s := hK.2.2.2.2
  refine vx_catch C.2.2.2.1 (name := E) (pre.map fun q => ⟨q.1, q.2.1, q.2.2.1, q.2.2.2⟩) ⟨h.1, h.2.1, h.2.2.1, h.2.2.2⟩ (suf.map fun q => ⟨q.1, q.2.1, q.2.2.1, q.2.2.2⟩) (by rw [tab, h1, tableOf, List.map_append, List.map_cons]) (fun z hz => ?_) ?_ h5 (C.hts _ h8) (C.hts _ h9) hcell hv hcl ?_
  · obtain ⟨w, hw, rfl⟩ := List.mem_map.mp hz
    obtain ⟨g1, N, g2, g3, g4⟩ := h2 w hw
    exact Or.inr ⟨g1, N, C.hts _ g4, hNC E h7 N g2 g3⟩
  · show (decide _ && decide _) = true
    rw [decide_eq_true h3, decide_eq_true h4]; rfl
  · rw [show ({ startPc := h.1, endPc := h.2.1, handlerPc := h.2.2.1, catchType := h.2.2.2 } : ExceptionTableEntry).handlerPc = tgt from h6]
    exact kk H locs ls hP hS hL
theorem V_hcall {g : Option String} {F : Int32} {A' B' : Mem} {tgt : String → Nat} (C : CX p l s m meth c x cc own nL) (tab : c.exceptionTable.toList = tableOf hh) (hr : RUNX p l e R s m args below meth c x nL a b o cells slots pc mc ms st rest (QI x o (GI g F A' B')) (GX g) As)
    (ht : ∀ E, g = some E → Takes own hh pc E (tgt E)) (kx : ∀ E q9, g = some E → VV p l e R s m args below meth c Q x nL a b o (cells + mc) (slots + ms) (tgt E) lv [.ref q9]) (kk : g = none → VV p l e R s m args below meth c Q x nL A' B' o (cells + mc) (slots + ms) (pc + 3) lv (.int F :: rest)) : VV p l e R s m args below meth c Q x nL a b o cells slots pc lv st :=
  fun H locs ls hP hS hL => vx_calli (hr H locs ls hP hS hL.1) hS (fun q _ h => AW_A hS q h) (AW_A hS) (fun q _ h => AW_A hS q h)
    (fun E ce q9 u t H1 locs1 htt _ _ hB _ _ hS1 hce hcv hcl => vv_catch C tab (ht E hB.1) (by have := hB.2; rw [htt] at this; exact this) hS1 hL hce hcv hcl (kx E q9 hB.1))
    (fun r u t H1 locs1 htt _ hp hB _ _ hS1 => by
      obtain ⟨h0, rfl, h2, h3⟩ := hp
      have hB' : va_P x.1 vwCl (wd x u.1 u.2 o) H1 := by rw [htt] at hB; exact hB
      rw [h2, h3] at hB'
      exact kk h0 H1 locs1 ls hB' hS1 hL)
theorem V_hcallf {g : Option String} {F : UInt32} {A' B' : Mem} {tgt : String → Nat} (C : CX p l s m meth c x cc own nL) (tab : c.exceptionTable.toList = tableOf hh) (hr : RUNX p l e R s m args below meth c x nL a b o cells slots pc mc ms st rest (QF x o (GF g F A' B')) (GX g) As)
    (ht : ∀ E, g = some E → Takes own hh pc E (tgt E)) (kx : ∀ E q9, g = some E → VV p l e R s m args below meth c Q x nL a b o (cells + mc) (slots + ms) (tgt E) lv [.ref q9]) (kk : g = none → VV p l e R s m args below meth c Q x nL A' B' o (cells + mc) (slots + ms) (pc + 3) lv (.float F :: rest)) : VV p l e R s m args below meth c Q x nL a b o cells slots pc lv st :=
  fun H locs ls hP hS hL => vx_callf (hr H locs ls hP hS hL.1) hS (fun q _ h => AW_A hS q h) (AW_A hS) (fun q _ h => AW_A hS q h)
    (fun E ce q9 u t H1 locs1 htt _ _ hB _ _ hS1 hce hcv hcl => vv_catch C tab (ht E hB.1) (by have := hB.2; rw [htt] at this; exact this) hS1 hL hce hcv hcl (kx E q9 hB.1))
    (fun r u t H1 locs1 htt _ hp hB _ _ hS1 => by
      obtain ⟨h0, rfl, h2, h3⟩ := hp
      have hB' : va_P x.1 vwCl (wd x u.1 u.2 o) H1 := by rw [htt] at hB; exact hB
      rw [h2, h3] at hB'
      exact kk h0 H1 locs1 ls hB' hS1 hL)
theorem V_hcalld {g : Option String} {F : UInt64} {A' B' : Mem} {tgt : String → Nat} (C : CX p l s m meth c x cc own nL) (tab : c.exceptionTable.toList = tableOf hh) (hr : RUNX p l e R s m args below meth c x nL a b o cells slots pc mc ms st rest (QDD x o (GD g F A' B')) (GX g) As)
    (ht : ∀ E, g = some E → Takes own hh pc E (tgt E)) (kx : ∀ E q9, g = some E → VV p l e R s m args below meth c Q x nL a b o (cells + mc) (slots + ms) (tgt E) lv [.ref q9]) (kk : g = none → VV p l e R s m args below meth c Q x nL A' B' o (cells + mc) (slots + ms) (pc + 3) lv (.double F :: rest)) : VV p l e R s m args below meth c Q x nL a b o cells slots pc lv st :=
  fun H locs ls hP hS hL => vx_calld (hr H locs ls hP hS hL.1) hS (fun q _ h => AW_A hS q h) (AW_A hS) (fun q _ h => AW_A hS q h)
    (fun E ce q9 u t H1 locs1 htt _ _ hB _ _ hS1 hce hcv hcl => vv_catch C tab (ht E hB.1) (by have := hB.2; rw [htt] at this; exact this) hS1 hL hce hcv hcl (kx E q9 hB.1))
    (fun r u t H1 locs1 htt _ hp hB _ _ hS1 => by
      obtain ⟨h0, rfl, h2, h3⟩ := hp
      have hB' : va_P x.1 vwCl (wd x u.1 u.2 o) H1 := by rw [htt] at hB; exact hB
      rw [h2, h3] at hB'
      exact kk h0 H1 locs1 ls hB' hS1 hL)
theorem V_f2d (C : CX p l s m meth c x cc own nL) {y1 : UInt32} (hd : decode cc pc = .ok (.f2d, 1)) (hne : vf_n64 (FP.f2d y1)) (kk : VV p l e R s m args below meth c Q x nL a b o cells slots (pc + 1) lv (.double (FP.f2d y1) :: st)) : VV p l e R s m args below meth c Q x nL a b o cells slots pc lv (.float y1 :: st) := fun H locs ls hP hS hL => lv_f2d C.1 C.2.1 hd hne (kk H locs ls hP hS hL)
end LGR
