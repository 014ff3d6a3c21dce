/-! rows of the law's body -/
section LBR
variable {p : Program} {l : Launch} {e : Env} {R : Room} {s : State} {m : MethodId} {args : Array Value} {below : List Frame} {meth : Method} {c : Code} {Q : State → Prop} {x : Sh} {nL : Nat} {a b : Mem} {o : Out} {cells slots pc : Nat} {lv : List (Option Value)} {st rest As : List Value} {cc : ByteArray} {own : String}
theorem V_lald (C : CX p l s m meth c x cc own nL) {iv : Int32} (he : iv = 0) (hd : decode cc pc = .ok (.laload, 1)) (kk : VV p l e R s m args below meth c Q x nL a b o cells slots (pc + 1) lv (.long o.1 :: st)) : VV p l e R s m args below meth c Q x nL a b o cells slots pc lv (.int iv :: .ref (x.2.1 87) :: st) := by
  intro H locs ls hP hS hL
  subst he
  have ha : (wd x a b o)[87]? = some (x.2.1 87, .inl (x.2.2 4, 1, .inr (.inl (fun j => if j = 0 then o.1 else 0)))) := wd_at (by decide)
  exact va_lald C.1 C.2.1 C.K hP 87 4 ha rfl (vp_in_le (i := 0) (n := 1) (by decide) (by decide)) hd (kk H locs ls hP hS hL)
theorem V_dald (C : CX p l s m meth c x cc own nL) {iv : Int32} (he : iv = 0) (hd : decode cc pc = .ok (.daload, 1)) (kk : VV p l e R s m args below meth c Q x nL a b o cells slots (pc + 1) lv (.double o.2 :: st)) : VV p l e R s m args below meth c Q x nL a b o cells slots pc lv (.int iv :: .ref (x.2.1 88) :: st) := by
  intro H locs ls hP hS hL
  subst he
  have ha : (wd x a b o)[88]? = some (x.2.1 88, .inl (x.2.2 5, 1, .inr (.inr (.inr (.inl (fun j => if j = 0 then o.2 else 0)))))) := wd_at (by decide)
  exact va_dald C.1 C.2.1 C.K hP 88 5 ha rfl (vp_in_le (i := 0) (n := 1) (by decide) (by decide)) hd (kk H locs ls hP hS hL)
theorem V_dcmp (C : CX p l s m meth c x cc own nL) {y1 y2 : UInt64} {op : CmpOp} (hd : decode cc pc = .ok (.dcmp op, 1)) (kk : VV p l e R s m args below meth c Q x nL a b o cells slots (pc + 1) lv (.int (Op.cmpValue (FP.dcmp y1 y2) op) :: st)) : VV p l e R s m args below meth c Q x nL a b o cells slots pc lv (.double y2 :: .double y1 :: st) := fun H locs ls hP hS hL => lv_dcmp C.1 C.2.1 hd (kk H locs ls hP hS hL)
theorem V_fcmp (C : CX p l s m meth c x cc own nL) {y1 y2 : UInt32} {op : CmpOp} (hd : decode cc pc = .ok (.fcmp op, 1)) (kk : VV p l e R s m args below meth c Q x nL a b o cells slots (pc + 1) lv (.int (Op.cmpValue (FP.fcmp y1 y2) op) :: st)) : VV p l e R s m args below meth c Q x nL a b o cells slots pc lv (.float y2 :: .float y1 :: st) := fun H locs ls hP hS hL => lv_fcmp C.1 C.2.1 hd (kk H locs ls hP hS hL)
/-- the script's row, which lies under the law's start -/
theorem AW_scr {x : Sh} {sz bA : Nat} (hb : bA < sz) (hn : ∀ k, k < 89 → bA ≠ x.2.1 k) : ¬ AW x sz bA := by
  intro h
  rcases h with ⟨k, hk, e⟩ | h
  · exact hn k hk e
  · omega
theorem V_scr (C : CX p l s m meth c x cc own nL) {bA L : Nat} {xs : Nat → Int32} {iv : Int32} (hX : va_X bA L xs s s.heap) (hb : bA < s.heap.size) (hn : ∀ k, k < 89 → bA ≠ x.2.1 k) (i : Nat) (hi : i < L) (hL2 : L ≤ 3072) (he : iv = nI i) (hd : decode cc pc = .ok (.iaload, 1)) (kk : VV p l e R s m args below meth c Q x nL a b o cells slots (pc + 1) lv (.int (xs i) :: st)) : VV p l e R s m args below meth c Q x nL a b o cells slots pc lv (.int iv :: .ref bA :: st) := by
  intro H locs ls hP hS hL
  subst he
  refine va_sld C.1 C.2.1 hX hb (AW_scr hb hn) hS (vp_in_le hi (by omega)) hd ?_
  rw [nI_clamp (by omega)]
  exact kk H locs ls hP hS hL
theorem V_slen (C : CX p l s m meth c x cc own nL) {bA L : Nat} {xs : Nat → Int32} (hX : va_X bA L xs s s.heap) (hb : bA < s.heap.size) (hn : ∀ k, k < 89 → bA ≠ x.2.1 k) (hd : decode cc pc = .ok (.arraylength, 1)) (kk : VV p l e R s m args below meth c Q x nL a b o cells slots (pc + 1) lv (.int (Int32.ofNat L) :: st)) : VV p l e R s m args below meth c Q x nL a b o cells slots pc lv (.ref bA :: st) := by
  intro H locs ls hP hS hL
  exact va_slen C.1 C.2.1 hX hb (AW_scr hb hn) hS hd (kk H locs ls hP hS hL)
theorem lg_cmp_s (v : Int64) : lg_cmp v v = 0 := by
  unfold lg_cmp
  simp
end LBR
