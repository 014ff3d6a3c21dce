section LCR
variable {p : Program} {l : Launch} {e : Env} {R : Room} {s : State} {m : MethodId} {args : Array Value} {below : List Frame} {meth : Method} {c : Code} {Q : State → Prop} {x : Sh} {nL : Nat} {a b : Mem} {o : Out} {cells slots pc : Nat} {lv : List (Option Value)} {st rest As : List Value} {cc : ByteArray} {own : String} {mc ms : Nat} {hh : List (Nat × Nat × Nat × Nat)}
variable {y : MethodName} {cc' : ByteArray} {maxL' n fr lo idx : Nat} {ret' : Option FieldType} {Qf : Nat → Array Value → State → Outcome → State → Prop}
def HSW (y : MethodName) (cc' : ByteArray) (maxL' : Nat) (ret' : Option FieldType) (hh : List (Nat × Nat × Nat × Nat)) (n : Nat) : Prop := Cond.static y ∈ nwL ∧ Cond.initialized y.cls ∈ nwL ∧ Cond.codeWith y cc' maxL' ret' hh ∈ nwL ∧ y.cls ≠ "java/lang/invoke/MethodHandle" ∧ y.cls ≠ "java/lang/invoke/VarHandle" ∧ (parseMethodDescriptor y.desc).map (fun d => d.parameters.length) = some n
def RUNL (p : Program) (l : Launch) (e : Env) (R : Room) (s : State) (m : MethodId) (args : Array Value) (below : List Frame) (meth : Method) (c : Code) (x : Sh) (nL : Nat) (a b : Mem) (o : Out) (cells slots pc mc ms : Nat) (st rest : List Value) (Qf : Nat → Array Value → State → Outcome → State → Prop) (As : List Value) : Prop :=
  ∀ (H : Heap) (locs : List Loc) (ls : Array Slot), va_P x.1 vwCl (wd x a b o) H → va_S (AW x s.heap.size) s.heap H locs → ls.size = nL → va_Run p l e R s m args below meth c H locs cells slots mc ms (F0 m pc ls st) rest (Qf H.size As.toArray) (AW x H.size)
theorem R_L (C : CX p l s m meth c x cc own nL) (hM : LG l x y cc' maxL' ret' hh fr lo mc ms As a b o Qf) (hw : HSW y cc' maxL' ret' hh n) (hlk : Cond.methodLink own idx y ∈ nwL) (hn : As.length = n) (hR : fr + 1 ≤ R.frames ∧ 8 + (maxL' + 11) + lo ≤ R.locals) (hst : st = As.reverse ++ rest) (hcat : (rest.map fun v => v.category).sum ≤ 8) (hf : cells + mc ≤ R.cells ∧ slots + ms ≤ R.slots) (hd : decode cc pc = .ok (.invokestatic idx, 3)) : RUNL p l e R s m args below meth c x nL a b o cells slots pc mc ms st rest Qf As := by
  intro H locs ls hP hS hL
  obtain ⟨h1, h3, h4, h5, h6, h7⟩ := hw
  refine vx_runSW (hh := hh) C.fix (hM H.size) (vx_cwSW n C.hts (fun w hw => ?_) rfl rfl rfl ⟨h5, h6, h7⟩ hR) ⟨Pre.blind, C.pre hP hS⟩ rfl hn hL hst (lv_room hcat) hd hf
  simp only [va_wsS, List.cons_append, List.nil_append, List.mem_cons, List.not_mem_nil, or_false] at hw
  rcases hw with rfl | rfl | rfl | rfl
  · exact ⟨hlk, Or.inl rfl⟩
  · exact ⟨h1, Or.inl rfl⟩
  · exact ⟨h3, Or.inl rfl⟩
  · exact ⟨h4, Or.inl rfl⟩
theorem V_calll {Φ : Int32 → Mem → Mem → Out → Prop} (hr : RUNL p l e R s m args below meth c x nL a b o cells slots pc mc ms st rest (QL x Φ) As) (kk : ∀ r a' b' o', Φ r a' b' o' → VV p l e R s m args below meth c Q x nL a' b' o' (cells + mc) (slots + ms) (pc + 3) lv (.int r :: rest)) : VV p l e R s m args below meth c Q x nL a b o cells slots pc lv st :=
  fun H locs ls hP hS hL => va_calli (hr H locs ls hP hS hL.1) hS (fun q _ h => AW_A hS q h) (AW_A hS) (fun r u t H1 locs1 ht _ hp hB _ _ hS1 => kk r u.1 u.2.1 u.2.2 hp H1 locs1 ls (by rw [ht] at hB; exact hB) hS1 hL)
end LCR

set_option maxRecDepth 100000 in
theorem hw_L_room : HSW yL_room cL_room 4 (some .int) [(0, 9, 12, 13), (0, 9, 15, 15)] 3 := ⟨nw_mem 339 rfl rfl, nw_mem 68 rfl rfl, nw_mem 340 rfl rfl, by decide +kernel, by decide +kernel, by decide +kernel⟩
set_option maxRecDepth 100000 in
theorem hw_L_exam : HSW yL_exam cL_exam 3 (some .int) [(0, 8, 11, 15)] 2 := ⟨nw_mem 436 rfl rfl, nw_mem 68 rfl rfl, nw_mem 437 rfl rfl, by decide +kernel, by decide +kernel, by decide +kernel⟩
set_option maxRecDepth 100000 in
theorem hw_L_pupil : HSW yL_pupil cL_pupil 3 (some .int) [(0, 8, 11, 15)] 2 := ⟨nw_mem 444 rfl rfl, nw_mem 68 rfl rfl, nw_mem 445 rfl rfl, by decide +kernel, by decide +kernel, by decide +kernel⟩
set_option maxRecDepth 100000 in
theorem hw_L_offer : HSW yL_offer cL_offer 7 (some .int) [(0, 14, 17, 28), (0, 14, 21, 13), (0, 14, 25, 30), (0, 14, 29, 15)] 6 := ⟨nw_mem 452 rfl rfl, nw_mem 68 rfl rfl, nw_mem 453 rfl rfl, by decide +kernel, by decide +kernel, by decide +kernel⟩
set_option maxRecDepth 100000 in
theorem hw_L_bid : HSW yL_bid cL_bid 6 (some .int) [(0, 12, 15, 28), (0, 12, 19, 13), (0, 12, 23, 30)] 5 := ⟨nw_mem 531 rfl rfl, nw_mem 68 rfl rfl, nw_mem 532 rfl rfl, by decide +kernel, by decide +kernel, by decide +kernel⟩
set_option maxRecDepth 100000 in
theorem hw_L_unbid : HSW yL_unbid cL_unbid 5 (some .int) [(0, 10, 13, 28), (0, 10, 17, 40)] 4 := ⟨nw_mem 574 rfl rfl, nw_mem 68 rfl rfl, nw_mem 575 rfl rfl, by decide +kernel, by decide +kernel, by decide +kernel⟩
set_option maxRecDepth 100000 in
theorem hw_L_points : HSW yL_points cL_points 4 (some .int) [(0, 9, 12, 28)] 3 := ⟨nw_mem 598 rfl rfl, nw_mem 68 rfl rfl, nw_mem 599 rfl rfl, by decide +kernel, by decide +kernel, by decide +kernel⟩
set_option maxRecDepth 100000 in
theorem hw_L_seat : HSW yL_seat cL_seat 6 (some .int) [(0, 12, 15, 28), (0, 12, 19, 40)] 5 := ⟨nw_mem 605 rfl rfl, nw_mem 68 rfl rfl, nw_mem 606 rfl rfl, by decide +kernel, by decide +kernel, by decide +kernel⟩
set_option maxRecDepth 100000 in
theorem hw_L_at : HSW yL_at cL_at 5 (some .int) [(0, 10, 13, 28), (0, 10, 17, 13), (0, 10, 21, 40)] 4 := ⟨nw_mem 613 rfl rfl, nw_mem 68 rfl rfl, nw_mem 614 rfl rfl, by decide +kernel, by decide +kernel, by decide +kernel⟩
set_option maxRecDepth 100000 in
theorem hw_L_holders : HSW yL_holders cL_holders 4 (some .int) [(0, 9, 12, 28)] 3 := ⟨nw_mem 625 rfl rfl, nw_mem 68 rfl rfl, nw_mem 626 rfl rfl, by decide +kernel, by decide +kernel, by decide +kernel⟩
set_option maxRecDepth 100000 in
theorem hw_L_holder : HSW yL_holder cL_holder 5 (some .int) [(0, 10, 13, 28), (0, 10, 17, 40)] 4 := ⟨nw_mem 632 rfl rfl, nw_mem 68 rfl rfl, nw_mem 633 rfl rfl, by decide +kernel, by decide +kernel, by decide +kernel⟩
set_option maxRecDepth 100000 in
theorem hw_L_paid : HSW yL_paid cL_paid 5 (some .int) [(0, 10, 13, 28), (0, 10, 17, 40)] 4 := ⟨nw_mem 644 rfl rfl, nw_mem 68 rfl rfl, nw_mem 645 rfl rfl, by decide +kernel, by decide +kernel, by decide +kernel⟩
set_option maxRecDepth 100000 in
theorem hw_L_waiting : HSW yL_waiting cL_waiting 4 (some .int) [(0, 9, 12, 28)] 3 := ⟨nw_mem 652 rfl rfl, nw_mem 68 rfl rfl, nw_mem 653 rfl rfl, by decide +kernel, by decide +kernel, by decide +kernel⟩
set_option maxRecDepth 100000 in
theorem hw_L_waiter : HSW yL_waiter cL_waiter 5 (some .int) [(0, 10, 13, 28), (0, 10, 17, 40)] 4 := ⟨nw_mem 659 rfl rfl, nw_mem 68 rfl rfl, nw_mem 660 rfl rfl, by decide +kernel, by decide +kernel, by decide +kernel⟩
set_option maxRecDepth 100000 in
theorem hw_L_giveUp : HSW yL_giveUp cL_giveUp 5 (some .int) [(0, 10, 13, 28), (0, 10, 17, 30)] 4 := ⟨nw_mem 667 rfl rfl, nw_mem 68 rfl rfl, nw_mem 668 rfl rfl, by decide +kernel, by decide +kernel, by decide +kernel⟩
set_option maxRecDepth 100000 in
theorem hw_L_move : HSW yL_move cL_move 5 (some .int) [(0, 10, 13, 28), (0, 10, 17, 13), (0, 10, 21, 30)] 4 := ⟨nw_mem 687 rfl rfl, nw_mem 68 rfl rfl, nw_mem 688 rfl rfl, by decide +kernel, by decide +kernel, by decide +kernel⟩
set_option maxRecDepth 100000 in
theorem hw_L_slotOf : HSW yL_slotOf cL_slotOf 4 (some .int) [(0, 9, 12, 28)] 3 := ⟨nw_mem 699 rfl rfl, nw_mem 68 rfl rfl, nw_mem 700 rfl rfl, by decide +kernel, by decide +kernel, by decide +kernel⟩
set_option maxRecDepth 100000 in
theorem hw_L_write : HSW yL_write cL_write 8 (some .int) [(0, 16, 19, 28), (0, 16, 23, 13)] 7 := ⟨nw_mem 706 rfl rfl, nw_mem 68 rfl rfl, nw_mem 707 rfl rfl, by decide +kernel, by decide +kernel, by decide +kernel⟩
set_option maxRecDepth 100000 in
theorem hw_L_read : HSW yL_read cL_read 7 (some .int) [(0, 14, 17, 28), (0, 14, 21, 13)] 6 := ⟨nw_mem 730 rfl rfl, nw_mem 68 rfl rfl, nw_mem 731 rfl rfl, by decide +kernel, by decide +kernel, by decide +kernel⟩
set_option maxRecDepth 100000 in
theorem hw_L_sync : HSW yL_sync cL_sync 5 (some .int) [(0, 10, 13, 28), (0, 10, 17, 13)] 4 := ⟨nw_mem 737 rfl rfl, nw_mem 68 rfl rfl, nw_mem 738 rfl rfl, by decide +kernel, by decide +kernel, by decide +kernel⟩
set_option maxRecDepth 100000 in
theorem hw_L_owner : HSW yL_owner cL_owner 4 (some .int) [(0, 9, 12, 13)] 3 := ⟨nw_mem 752 rfl rfl, nw_mem 68 rfl rfl, nw_mem 753 rfl rfl, by decide +kernel, by decide +kernel, by decide +kernel⟩
set_option maxRecDepth 100000 in
theorem hw_L_setOwner : HSW yL_setOwner cL_setOwner 5 (some .int) [(0, 10, 13, 13), (0, 10, 17, 28), (0, 10, 21, 30)] 4 := ⟨nw_mem 759 rfl rfl, nw_mem 68 rfl rfl, nw_mem 760 rfl rfl, by decide +kernel, by decide +kernel, by decide +kernel⟩
set_option maxRecDepth 100000 in
theorem hw_L_apart : HSW yL_apart cL_apart 4 (some .int) [(0, 9, 12, 13)] 3 := ⟨nw_mem 771 rfl rfl, nw_mem 68 rfl rfl, nw_mem 772 rfl rfl, by decide +kernel, by decide +kernel, by decide +kernel⟩
set_option maxRecDepth 100000 in
theorem hw_L_maySit : HSW yL_maySit cL_maySit 5 (some .int) [(0, 17, 20, 28)] 4 := ⟨nw_mem 782 rfl rfl, nw_mem 68 rfl rfl, nw_mem 783 rfl rfl, by decide +kernel, by decide +kernel, by decide +kernel⟩
set_option maxRecDepth 100000 in
theorem hw_L_isOpen : HSW yL_isOpen cL_isOpen 5 (some .int) [(0, 17, 20, 28)] 4 := ⟨nw_mem 789 rfl rfl, nw_mem 68 rfl rfl, nw_mem 790 rfl rfl, by decide +kernel, by decide +kernel, by decide +kernel⟩
set_option maxRecDepth 100000 in
theorem hw_L_sit : HSW yL_sit cL_sit 4 (some .int) [(0, 9, 12, 13), (0, 9, 15, 30)] 3 := ⟨nw_mem 796 rfl rfl, nw_mem 68 rfl rfl, nw_mem 797 rfl rfl, by decide +kernel, by decide +kernel, by decide +kernel⟩
set_option maxRecDepth 100000 in
theorem hw_L_hasSat : HSW yL_hasSat cL_hasSat 6 (some .int) [(0, 19, 22, 28)] 5 := ⟨nw_mem 808 rfl rfl, nw_mem 68 rfl rfl, nw_mem 809 rfl rfl, by decide +kernel, by decide +kernel, by decide +kernel⟩
set_option maxRecDepth 100000 in
theorem hw_L_more : HSW yL_more cL_more 5 (some .int) [(0, 10, 13, 28), (0, 10, 17, 13), (0, 10, 21, 40)] 4 := ⟨nw_mem 815 rfl rfl, nw_mem 68 rfl rfl, nw_mem 816 rfl rfl, by decide +kernel, by decide +kernel, by decide +kernel⟩
set_option maxRecDepth 100000 in
theorem hw_L_takenShare : HSW yL_takenShare cL_takenShare 3 (some .int) [(0, 8, 11, 119)] 2 := ⟨nw_mem 822 rfl rfl, nw_mem 68 rfl rfl, nw_mem 823 rfl rfl, by decide +kernel, by decide +kernel, by decide +kernel⟩
set_option maxRecDepth 100000 in
theorem hw_L_meanPoints : HSW yL_meanPoints cL_meanPoints 3 (some .int) [(0, 7, 10, 119)] 2 := ⟨nw_mem 846 rfl rfl, nw_mem 68 rfl rfl, nw_mem 847 rfl rfl, by decide +kernel, by decide +kernel, by decide +kernel⟩
