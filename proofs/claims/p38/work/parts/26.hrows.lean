/-! the law's helpers: bodies with handlers -/
section LGR
variable {p : Program} {l : Launch} {e : Env} {R : Room} {s : State} {m : MethodId} {args : Array Value} {below : List Frame} {meth : Method} {c : Code} {Q : State → Prop} {x : Sh} {nL : Nat} {a b : Mem} {o : Out} {cells slots pc : Nat} {lv : List (Option Value)} {st rest As : List Value} {cc : ByteArray} {own : String} {mc ms : Nat} {hh : List (Nat × Nat × Nat × Nat)}
def LG (l : Launch) (x : Sh) (y : MethodName) (cc : ByteArray) (maxL : Nat) (ret : Option FieldType) (hh : List (Nat × Nat × Nat × Nat)) (fr lo mc ms : Nat) (As : List Value) (a b : Mem) (o : Out) (Qf : Nat → Array Value → State → Outcome → State → Prop) : Prop :=
  ∀ sz, Met l y [Cond.codeWith y cc maxL ret hh] ({ frames := fr, cells := mc, slots := ms, locals := lo }) (va_Pc As (Pre x a b o sz)) (Qf sz) mc ms (AW x sz)
theorem LG.of {y : MethodName} {maxL : Nat} {ret : Option FieldType} {fr lo : Nat} {Qf : Nat → Array Value → State → Outcome → State → Prop} (hl : l.stackTraces = false) (hy : plainName y.cls = true) (lv : List (Option Value)) (hlv : As.map some ++ List.replicate (maxL - As.length) none = lv) (hcat : As.all (fun v => v.category == 1) = true) (hlen : As.length ≤ maxL)
    (body : ∀ (p : Program) (e : Env) (s : State) (m : MethodId) (args : Array Value) (below : List Frame) (meth : Method) (c : Code), CX p l s m meth c x cc y.cls maxL → meth.sig.returnType = ret → c.exceptionTable.toList = tableOf hh → VV p l e ({ frames := fr, cells := mc, slots := ms, locals := lo }) s m args below meth c (MQ below (Qf s.heap.size) args s mc ms (AW x s.heap.size)) x maxL a b o 0 0 0 lv []) : LG l x y cc maxL ret hh fr lo mc ms As a b o Qf := by
  intro sz
  refine MetFree.of_bodyS (code := cc) (maxLocals := maxL) (ret := ret) hy ?_ ?_
  · intro args s m h hn
    obtain ⟨m9, meth, c, hn9, h1, h2, h3, h4, -, h5, h6, -⟩ := Cond.codeWith_spec (atoms_spec (ws := [Cond.codeWith y cc maxL ret hh]) h _ List.mem_cons_self)
    cases hn.symm.trans hn9
    exact ⟨meth, c, h1, h2, h3, h4, h5, h6⟩
  · intro p e s m args below meth c s₁ B hml hP _
    have hh0 : s₁.heap = s.heap := by rw [B.state]; rfl
    have htab := vx_table (x := y) B (atoms_spec (ws := [Cond.codeWith y cc maxL ret hh]) B.pre _ List.mem_cons_self)
    obtain ⟨rfl, rfl, hPP, hK⟩ := hP
    have hown : s.vm.findClass y.cls = some m.cls := findClass_of_methodNamed B.named
    have hL := LV.entry (n := maxL) hcat hlen
    rw [hlv] at hL
    have hb := body p e s m As.toArray below meth c ⟨B.exec, B.bytes, hml, hown, hK, B.notSynchronized, hl⟩ B.returns htab s.heap [] _ hPP va_S.rf hL
    rw [← lg_entry_eq] at hb
    obtain ⟨t, a1, o, b1, b2, b3, b4⟩ := hb s₁ hh0 (Stand.of_body B)
    exact ⟨t, o, a1, b1, b2, b3, b4⟩
/-- ends of such a body -/
theorem V_lret (C : CX p l s m meth c x cc own nL) {Φ : Int32 → Mem → Mem → Prop} {v : Int32} (hr : meth.sig.returnType = some .int) (hd : decode cc pc = .ok (.ireturn, 1)) (h : Φ v a b) (hcs : cells ≤ mc ∧ slots ≤ ms) : VV p l e R s m args below meth c (MQ below (QI x o Φ s.heap.size) args s mc ms (AW x s.heap.size)) x nL a b o cells slots pc lv [.int v] :=
  V_widen hcs.1 hcs.2 (V_ireti C hr hd h)
theorem V_lretz (C : CX p l s m meth c x cc own nL) {Φ : Int32 → Mem → Mem → Prop} {v : Int32} (hr : meth.sig.returnType = some .boolean) (hz : v = 0 ∨ v = 1) (hd : decode cc pc = .ok (.ireturn, 1)) (h : Φ v a b) (hcs : cells ≤ mc ∧ slots ≤ ms) : VV p l e R s m args below meth c (MQ below (QI x o Φ s.heap.size) args s mc ms (AW x s.heap.size)) x nL a b o cells slots pc lv [.int v] :=
  V_widen hcs.1 hcs.2 (V_iretz C hr hz hd h)
theorem V_ldc (C : CX p l s m meth c x cc own nL) {idx : Nat} {v : Int32} (hw : Cond.constant own idx v ∈ nwL) (hd : decode cc pc = .ok (.ldc idx, 2)) (kk : VV p l e R s m args below meth c Q x nL a b o cells slots (pc + 2) lv (.int v :: st)) : VV p l e R s m args below meth c Q x nL a b o cells slots pc lv st :=
  fun H locs ls hP hS hL => lv_ldc C.1 C.2.1 C.2.2.2.1 (C.hts (args := args) _ hw) hd (kk H locs ls hP hS hL)
theorem V_tsw (C : CX p l s m meth c x cc own nL) {dflt lo hi : Int} {offs : Array Int} {len : Nat} {y : Int32} (off : Int) (tgt : Nat) (hd : decode cc pc = .ok (.tableswitch dflt lo hi offs, len)) (h1 : ¬ y.toInt < lo) (h2 : ¬ hi < y.toInt) (ho : offs[(y.toInt - lo).toNat]? = some off) (ht : (pc : Int) + off = (tgt : Int)) (kk : VV p l e R s m args below meth c Q x nL a b o cells slots tgt lv st) : VV p l e R s m args below meth c Q x nL a b o cells slots pc lv (.int y :: st) :=
  fun H locs ls hP hS hL => lv_tableIn C.1 C.2.1 hd h1 h2 ho ht (kk H locs ls hP hS hL)
/-- the row of a table that takes an exception: those ahead don't -/
def Takes (own : String) (hh : List (Nat × Nat × Nat × Nat)) (pc : Nat) (E : String) (tgt : Nat) : Prop := ∃ (pre : List (Nat × Nat × Nat × Nat)) (h : Nat × Nat × Nat × Nat) (suf : List (Nat × Nat × Nat × Nat)), hh = pre ++ h :: suf ∧ (∀ z ∈ pre, (¬ (z.1 ≤ pc ∧ pc < z.2.1)) ∨ (z.2.2.2 ≠ 0 ∧ ∃ N, N ∈ exL ∧ E ≠ N ∧ Cond.classLink own z.2.2.2 N ∈ nwL)) ∧ h.1 ≤ pc ∧ pc < h.2.1 ∧ h.2.2.2 ≠ 0 ∧ h.2.2.1 = tgt ∧ E ∈ exL ∧ Cond.classLink own h.2.2.2 E ∈ nwL ∧ Cond.castable E E ∈ nwL
theorem vv_catch {E : String} {tgt : Nat} {H : Heap} {locs : List Loc} {ls : Array Slot} {q9 : Addr} {ce : Cell} (C : CX p l s m meth c x cc own nL) (tab : c.exceptionTable.toList = tableOf hh) (ht : Takes own hh pc E tgt) (hP : va_P x.1 vwCl (wd x a b o) H) (hS : va_S (AW x s.heap.size) s.heap H locs) (hL : LV nL ls lv) (hcell : H[q9]? = some ce) (hv : ce.vm = .none) (hcl : s.vm.findClass E = some ce.cls) (kk : VV p l e R s m args below meth c Q x nL a b o cells slots tgt lv [.ref q9]) : vx_W p l e R s m args below meth c H locs cells slots Q (F0 m pc ls rest) q9 := by
  obtain ⟨pre, h, suf, h1, h2, h3, h4, h5, h6, h7, h8, h9⟩ := ht
  have hK : KX x s s.heap := C.2.2.2.2.1
  have hNC : NC s := hK.2.2.2.2
  refine vx_catch C.2.2.2.1 (name := E) (pre.map fun q => ⟨q.1, q.2.1, q.2.2.1, q.2.2.2⟩) ⟨h.1, h.2.1, h.2.2.1, h.2.2.2⟩ (suf.map fun q => ⟨q.1, q.2.1, q.2.2.1, q.2.2.2⟩) (by rw [tab, h1, tableOf, List.map_append, List.map_cons]) (fun z hz => ?_) ?_ h5 (C.hts _ h8) (C.hts _ h9) hcell hv hcl ?_
  · obtain ⟨w, hw, rfl⟩ := List.mem_map.mp hz
    rcases h2 w hw with g0 | ⟨g1, N, g2, g3, g4⟩
    · refine Or.inl ?_
      show (decide (w.1 ≤ pc) && decide (pc < w.2.1)) = false
      by_cases h : w.1 ≤ pc
      · rw [decide_eq_false (fun z => g0 ⟨h, z⟩), Bool.and_false]
      · rw [decide_eq_false h, Bool.false_and]
    · exact Or.inr ⟨g1, N, C.hts _ g4, hNC E h7 N g2 g3⟩
  · show (decide _ && decide _) = true
    rw [decide_eq_true h3, decide_eq_true h4]; rfl
  · rw [show ({ startPc := h.1, endPc := h.2.1, handlerPc := h.2.2.1, catchType := h.2.2.2 } : ExceptionTableEntry).handlerPc = tgt from h6]
    exact kk H locs ls hP hS hL
theorem V_hcall {g : Option String} {F : Int32} {A' B' : Mem} {tgt : String → Nat} (C : CX p l s m meth c x cc own nL) (tab : c.exceptionTable.toList = tableOf hh) (hr : RUNX p l e R s m args below meth c x nL a b o cells slots pc mc ms st rest (QI x o (GI g F A' B')) (GX g) As)
    (ht : ∀ E, g = some E → Takes own hh pc E (tgt E)) (kx : ∀ E q9, g = some E → VV p l e R s m args below meth c Q x nL a b o (cells + mc) (slots + ms) (tgt E) lv [.ref q9]) (kk : g = none → VV p l e R s m args below meth c Q x nL A' B' o (cells + mc) (slots + ms) (pc + 3) lv (.int F :: rest)) : VV p l e R s m args below meth c Q x nL a b o cells slots pc lv st :=
  fun H locs ls hP hS hL => vx_calli (hr H locs ls hP hS hL.1) hS (fun q _ h => AW_A hS q h) (AW_A hS) (fun q _ h => AW_A hS q h)
    (fun E ce q9 u t H1 locs1 htt _ _ hB _ _ hS1 hce hcv hcl => vv_catch C tab (ht E hB.1) (by have := hB.2; rw [htt] at this; exact this) hS1 hL hce hcv hcl (kx E q9 hB.1))
    (fun r u t H1 locs1 htt _ hp hB _ _ hS1 => by
      obtain ⟨h0, rfl, h2, h3⟩ := hp
      have hB' : va_P x.1 vwCl (wd x u.1 u.2 o) H1 := by rw [htt] at hB; exact hB
      rw [h2, h3] at hB'
      exact kk h0 H1 locs1 ls hB' hS1 hL)
theorem V_hcallf {g : Option String} {F : UInt32} {A' B' : Mem} {tgt : String → Nat} (C : CX p l s m meth c x cc own nL) (tab : c.exceptionTable.toList = tableOf hh) (hr : RUNX p l e R s m args below meth c x nL a b o cells slots pc mc ms st rest (QF x o (GF g F A' B')) (GX g) As)
    (ht : ∀ E, g = some E → Takes own hh pc E (tgt E)) (kx : ∀ E q9, g = some E → VV p l e R s m args below meth c Q x nL a b o (cells + mc) (slots + ms) (tgt E) lv [.ref q9]) (kk : g = none → VV p l e R s m args below meth c Q x nL A' B' o (cells + mc) (slots + ms) (pc + 3) lv (.float F :: rest)) : VV p l e R s m args below meth c Q x nL a b o cells slots pc lv st :=
  fun H locs ls hP hS hL => vx_callf (hr H locs ls hP hS hL.1) hS (fun q _ h => AW_A hS q h) (AW_A hS) (fun q _ h => AW_A hS q h)
    (fun E ce q9 u t H1 locs1 htt _ _ hB _ _ hS1 hce hcv hcl => vv_catch C tab (ht E hB.1) (by have := hB.2; rw [htt] at this; exact this) hS1 hL hce hcv hcl (kx E q9 hB.1))
    (fun r u t H1 locs1 htt _ hp hB _ _ hS1 => by
      obtain ⟨h0, rfl, h2, h3⟩ := hp
      have hB' : va_P x.1 vwCl (wd x u.1 u.2 o) H1 := by rw [htt] at hB; exact hB
      rw [h2, h3] at hB'
      exact kk h0 H1 locs1 ls hB' hS1 hL)
theorem V_hcalld {g : Option String} {F : UInt64} {A' B' : Mem} {tgt : String → Nat} (C : CX p l s m meth c x cc own nL) (tab : c.exceptionTable.toList = tableOf hh) (hr : RUNX p l e R s m args below meth c x nL a b o cells slots pc mc ms st rest (QDD x o (GD g F A' B')) (GX g) As)
    (ht : ∀ E, g = some E → Takes own hh pc E (tgt E)) (kx : ∀ E q9, g = some E → VV p l e R s m args below meth c Q x nL a b o (cells + mc) (slots + ms) (tgt E) lv [.ref q9]) (kk : g = none → VV p l e R s m args below meth c Q x nL A' B' o (cells + mc) (slots + ms) (pc + 3) lv (.double F :: rest)) : VV p l e R s m args below meth c Q x nL a b o cells slots pc lv st :=
  fun H locs ls hP hS hL => vx_calld (hr H locs ls hP hS hL.1) hS (fun q _ h => AW_A hS q h) (AW_A hS) (fun q _ h => AW_A hS q h)
    (fun E ce q9 u t H1 locs1 htt _ _ hB _ _ hS1 hce hcv hcl => vv_catch C tab (ht E hB.1) (by have := hB.2; rw [htt] at this; exact this) hS1 hL hce hcv hcl (kx E q9 hB.1))
    (fun r u t H1 locs1 htt _ hp hB _ _ hS1 => by
      obtain ⟨h0, rfl, h2, h3⟩ := hp
      have hB' : va_P x.1 vwCl (wd x u.1 u.2 o) H1 := by rw [htt] at hB; exact hB
      rw [h2, h3] at hB'
      exact kk h0 H1 locs1 ls hB' hS1 hL)
theorem V_f2d (C : CX p l s m meth c x cc own nL) {y1 : UInt32} (hd : decode cc pc = .ok (.f2d, 1)) (hne : vf_n64 (FP.f2d y1)) (kk : VV p l e R s m args below meth c Q x nL a b o cells slots (pc + 1) lv (.double (FP.f2d y1) :: st)) : VV p l e R s m args below meth c Q x nL a b o cells slots pc lv (.float y1 :: st) := fun H locs ls hP hS hL => lv_f2d C.1 C.2.1 hd hne (kk H locs ls hP hS hL)
end LGR
