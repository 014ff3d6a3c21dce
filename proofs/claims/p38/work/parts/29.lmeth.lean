/-! the law's own methods: starts, ends, calls -/
theorem st_IN {D : va_G} {T : Nat → ClassId} {B : Nat} : IN (sh D B T) := fun i j hi hj h => by
  have h' : B + i = B + j := h
  omega
def PreL (D : va_G) (T : Nat → ClassId) (U : State) : Prop := KX (sh D U.heap.size T) U U.heap ∧ AO U
def Q1 (B : Nat) : Array Value → State → Outcome → State → Prop := va_Qi (S := Unit) (fun r _ => r = 1) (fun _ _ => True) (fun q => B ≤ q)
def LM (l : Launch) (y : MethodName) (cc : ByteArray) (maxL fr lo mc ms : Nat) (As : List Value) (D : va_G) (T : Nat → ClassId) (Z : State → Prop) : Prop :=
  ∀ B, Met l y [Cond.code y cc maxL (some .boolean)] ({ frames := fr, cells := mc, slots := ms, locals := lo }) (va_Pc As (fun U => U.heap.size = B ∧ PreL D T U ∧ Z U)) (Q1 B) mc ms (fun q => B ≤ q)
section LMR
variable {p : Program} {l : Launch} {e : Env} {R : Room} {s : State} {m : MethodId} {args : Array Value} {below : List Frame} {meth : Method} {c : Code} {Q : State → Prop} {D : va_G} {T : Nat → ClassId} {x : Sh} {nL : Nat} {a : Mem} {ar : List Ar} {cells slots pc : Nat} {lv : List (Option Value)} {st rest As : List Value} {cc : ByteArray} {own : String} {f : Nat → va_E}
theorem CX.ci {B : Nat} (C : CX p l s m meth c (sh D B T) cc own nL) (h : AO s) : CI p s m meth c D T cc own nL := ⟨C.1, C.2.1, C.2.2.1, C.2.2.2.1, C.2.2.2.2.1.1, C.2.2.2.2.1.2.2.1, C.2.2.2.2.2.1, h⟩
theorem U_toS (kk : SS p l e R s m args below meth c Q (sh D s.heap.size T) nL a [] cells slots pc lv st) : UU p l e R s m args below meth c Q D s.heap.size 0 70 (fun k => GC (sh D s.heap.size T) k (a k)) nL cells slots pc lv st :=
  fun H locs ls hz hP hS hL => kk H locs ls (fun k q hq => by
    obtain ⟨hk, rfl⟩ := wd_get hq
    exact hP k (Nat.zero_le k) hk) AR.nil ⟨hS.1, fun q h1 h2 => hS.2.1 q h1 (fun z => h2 (Or.inr z)), fun z hz => Or.inr (hS.2.2 z hz)⟩ hL
set_option maxHeartbeats 4000000 in
set_option maxRecDepth 100000 in
/-- each begins with an object of its own -/
theorem S_begin (C : CI p s m meth c D T cc RL nL) {k : Fin 4} (d0 : decode cc 0 = .ok (.new 8, 3)) (d3 : decode cc 3 = .ok (.dup, 1)) (d4 : decode cc 4 = .ok (.invokespecial 132, 3)) (d7 : decode cc 7 = .ok (.astore_n k, 1)) (hk : (k : Nat) < nL) (hR : 2 + 1 ≤ R.frames ∧ 8 + (2 + 11) + 140 ≤ R.locals) (hc1 : 70 ≤ R.cells) (hc2 : 1440 ≤ R.slots) {lv' : List (Option Value)} (he : lv.set k (some (.ref (s.heap.size + 0))) = lv') (kk : SS p l e R s m args below meth c Q (sh D s.heap.size T) nL a00 [] 70 1440 8 lv' []) : UU p l e R s m args below meth c Q D s.heap.size 0 0 f nL 0 0 0 lv [] := by
  refine U_like (fun k => GC (sh D s.heap.size T) k (a00 k)) (fun k h1 h2 => absurd h2 (Nat.not_lt_zero k)) ?_
  refine U_new C (ci := 5) (N := 13) (Rn := RX3) (TT := TX3) (fs := vX0) iw_X3 tyX3 tyX3_ok wk_L_8 wn_X3 wi_X3 rfl (fun j hj => by rcases (show j = 0 ∨ j = 1 ∨ j = 2 ∨ j = 3 ∨ j = 4 ∨ j = 5 ∨ j = 6 ∨ j = 7 ∨ j = 8 ∨ j = 9 ∨ j = 10 ∨ j = 11 ∨ j = 12 by omega) with rfl | rfl | rfl | rfl | rfl | rfl | rfl | rfl | rfl | rfl | rfl | rfl | rfl <;> rfl) (by omega) (by omega) (fup (fun k => GC (sh D s.heap.size T) k (a00 k)) 0 (.inr (5, vX0))) (if_pos rfl) (fun i h1 h2 => if_neg (by omega)) d0 ?_
  refine U_dup C d3 rfl ?_
  refine U_callI C (k := 0) (hi := 70) (by omega) (by omega) (u_X3_init (B := s.heap.size) (if_pos rfl)) wl_L_132 wi_X3 wm_X3 wc_X3 rfl wy_X3 hR (Nat.le_of_ble_eq_true rfl) ⟨(by omega), (by omega)⟩ d4 (fun k => GC (sh D s.heap.size T) k (a00 k)) (fun i h1 h2 => absurd h2 (Nat.not_lt_zero i)) (fun i h1 h2 => rfl) ?_
  refine U_astore_n C d7 hk he ?_
  exact U_toS kk
theorem LM.of {y : MethodName} {maxL fr lo mc ms : Nat} {Z : State → Prop} (hl : l.stackTraces = false) (hy : y.cls = RL) (hy2 : plainName y.cls = true) (lv : List (Option Value)) (hlv : As.map some ++ List.replicate (maxL - As.length) none = lv) (hcat : As.all (fun v => v.category == 1) = true) (hlen : As.length ≤ maxL)
    {k : Fin 4} (d0 : decode cc 0 = .ok (.new 8, 3)) (d3 : decode cc 3 = .ok (.dup, 1)) (d4 : decode cc 4 = .ok (.invokespecial 132, 3)) (d7 : decode cc 7 = .ok (.astore_n k, 1)) (hk : (k : Nat) < maxL) (hR : 2 + 1 ≤ fr ∧ 8 + (2 + 11) + 140 ≤ lo) (hc1 : 70 ≤ mc) (hc2 : 1440 ≤ ms) (lv' : Nat → List (Option Value)) (he : ∀ q, lv.set k (some (.ref q)) = lv' q)
    (body : ∀ (p : Program) (e : Env) (s : State) (m : MethodId) (args : Array Value) (below : List Frame) (meth : Method) (c : Code) (x : Sh), CX p l s m meth c x cc RL maxL → (∀ q, AW x s.heap.size q → s.heap.size ≤ q) → (∀ k, k < 70 → s.heap.size ≤ x.2.1 k) → meth.sig.returnType = some .boolean → Z s → SS p l e ({ frames := fr, cells := mc, slots := ms, locals := lo }) s m args below meth c (MQ below (Q1 s.heap.size) args s mc ms (fun q => s.heap.size ≤ q)) x maxL a00 [] 70 1440 8 (lv' (x.2.1 0)) []) : LM l y cc maxL fr lo mc ms As D T Z := by
  intro B0
  refine Met.ofW (cc := cc) (maxL := maxL) (ret := some .boolean) hy2 rfl ?_
  intro p e s m args below meth c s₁ X hml hv
  obtain ⟨rfl, rfl, ⟨hK, hAO⟩, hZ⟩ := hv
  have hown : s.vm.findClass y.cls = some m.cls := findClass_of_methodNamed X.named
  rw [hy] at hown
  rw [lg_entry_eq]
  have hL := LV.entry (n := maxL) hcat hlen
  rw [hlv] at hL
  have C : CX p l s m meth c (sh D s.heap.size T) cc RL maxL := ⟨X.exec, X.bytes, hml, hown, hK, X.notSynchronized, hl⟩
  have h := body p e s m As.toArray below meth c (sh D s.heap.size T) C (fun q hq => by
    rcases hq with ⟨k, hk, e⟩ | h
    · have e' : q = s.heap.size + k := e
      omega
    · exact h) (fun k hk => Nat.le_add_right _ _) X.returns hZ
  exact S_begin (f := fun _ => .inr (0, [])) (C.ci hAO) d0 d3 d4 d7 hk hR hc1 hc2 (he _) h s.heap [] _ rfl (fun k h1 h2 => absurd h2 (Nat.not_lt_zero k)) va_S.rf hL
/-- the end, with 1 on the stack -/
theorem S_one (C : CX p l s m meth c x cc own nL) (hAW : ∀ q, AW x s.heap.size q → s.heap.size ≤ q) {mc ms : Nat} (hr : meth.sig.returnType = some .boolean) (hd : decode cc pc = .ok (.ireturn, 1)) (hcs : cells ≤ mc ∧ slots ≤ ms) : SS p l e R s m args below meth c (MQ below (Q1 s.heap.size) args s mc ms (fun q => s.heap.size ≤ q)) x nL a ar cells slots pc lv [.int 1] :=
  fun H locs ls hP hA hS hL => by
    have hS' : va_S (fun q => s.heap.size ≤ q) s.heap H locs := ⟨hS.1, fun q h1 h2 => hS.2.1 q h1 (fun z => h2 (hAW q z)), fun z hz => hAW _ (hS.2.2 z hz)⟩
    exact W.widen hcs.1 hcs.2 (W.zret C.1 C.2.1 hr rfl (fun t ht hW => ⟨⟨1, (), rfl, rfl, trivial⟩, hS'.F ht⟩) hS'.2.2 hd C.2.2.2.2.2.1)
theorem PreL.call (C : CX p l s m meth c x cc own nL) (hAO : AO s) {H : Heap} {locs : List Loc} (hS : va_S (AW x s.heap.size) s.heap H locs) : ∀ U : State, U.heap = H → s.WarmedH U.vm → PreL x.1 x.2.2 U := by
  intro U hU hW
  have h := C.2.2.2.2.1.call hS hW
  obtain ⟨h1, h2, h3, ⟨g1, g2, g3⟩, h5⟩ := h
  have nar : ∀ q, AW (sh x.1 H.size x.2.2) H.size q → AW x H.size q := fun q hq => by
    rcases hq with ⟨k, hk, e⟩ | h
    · have e' : q = H.size + k := e
      exact Or.inr (by omega)
    · exact Or.inr h
  have hK : KX (sh x.1 H.size x.2.2) U H := ⟨h1, st_IN, h3, ⟨vx_Zq.narrow g1 nar, vx_Zq.narrow g2 nar, g3⟩, h5⟩
  refine ⟨?_, hAO.moved hW.alike⟩
  rw [hU]
  exact hK
theorem S_callL (C : CX p l s m meth c x cc own nL) (hAO : AO s) {y : MethodName} {cc' : ByteArray} {maxL' n fr lo mc ms idx : Nat} {Z : State → Prop} (hM : LM l y cc' maxL' fr lo mc ms As x.1 x.2.2 Z) (hZb : ∀ (U : State) g mk v, Z U → Z (U.calling g mk v)) (hZ : ∀ (H : Heap) (locs : List Loc) (U : State), va_S (AW x s.heap.size) s.heap H locs → U.heap = H → s.WarmedH U.vm → Z U) (hw : MSW y cc' maxL' (some .boolean) n) (hlk : Cond.methodLink own idx y ∈ nwL) (hn : As.length = n) (hR : fr + 1 ≤ R.frames ∧ 8 + (maxL' + 11) + lo ≤ R.locals) (hst : st = As.reverse ++ rest) (hcat : (rest.map fun v => v.category).sum ≤ 8) (hf : cells + mc ≤ R.cells ∧ slots + ms ≤ R.slots) (hd : decode cc pc = .ok (.invokestatic idx, 3)) (kk : SS p l e R s m args below meth c Q x nL a ar (cells + mc) (slots + ms) (pc + 3) lv (.int 1 :: rest)) : SS p l e R s m args below meth c Q x nL a ar cells slots pc lv st := by
  intro H locs ls hP hA hS hL
  have hbl : FrameBlind (va_Pc As (fun U => U.heap.size = H.size ∧ PreL x.1 x.2.2 U ∧ Z U)) := by
    intro v U g mk h
    obtain ⟨h0, h1, ⟨h2, h3⟩, h4⟩ := h
    have h5 : KX (sh x.1 U.heap.size x.2.2) (U.calling g mk v) U.heap := KX.same (s := U) rfl h2
    exact ⟨h0, h1, ⟨h5, AO.moved (u := U) (U := U.calling g mk v) (Vm.Alike.refl U.vm) h3⟩, hZb U g mk v h4⟩
  refine va_calli (va_runS C.fix (hM H.size) (cwSm hw C.hts hlk hR) ⟨hbl, fun U hU hW => ⟨rfl, by rw [hU], PreL.call C hAO hS U hU hW, hZ H locs U hS hU hW⟩⟩ rfl hn hL.1 hst (lv_room hcat) hd hf) hS (fun q _ h => Or.inr (Nat.le_trans hS.1 h)) (fun q h => Or.inr (Nat.le_trans hS.1 h)) (fun r u t H1 locs1 ht _ hp hB _ hk hS1 => ?_)
  have hp' : r = 1 := hp
  rw [hp']
  exact kk H1 locs1 ls (hP.kept fun k q hq => hk q.1 (hP k q hq).lt (Nat.not_le.mpr (hP k q hq).lt)) (hA.kept fun q h1 _ _ => hk q h1 (Nat.not_le.mpr h1)) hS1 hL
end LMR
/-- the script, at a start -/
def ZS (bA L : Nat) (xs : Nat → Int32) (U : State) : Prop := va_X bA L xs U U.heap ∧ bA < U.heap.size ∧ L ≤ 260
theorem ZS.blind {bA L : Nat} {xs : Nat → Int32} : ∀ (U : State) g mk v, ZS bA L xs U → ZS bA L xs (U.calling g mk v) := fun U g mk v h => ⟨va_X.moved (u := U) (U := U.calling g mk v) (Vm.Alike.refl U.vm) h.1, h.2⟩
set_option maxRecDepth 100000 in
theorem hw_L_ask : HSW yL_ask cL_ask 4 (some .int) hhA 3 := ⟨nw_mem 317 rfl rfl, nw_mem 46 rfl rfl, nw_mem 318 rfl rfl, by decide +kernel, by decide +kernel, by decide +kernel⟩
set_option maxRecDepth 100000 in
theorem hw_L_hasNone : HSW yL_hasNone cL_hasNone 4 (some .boolean) [(0, 18, 19, 130)] 2 := ⟨nw_mem 724 rfl rfl, nw_mem 46 rfl rfl, nw_mem 725 rfl rfl, by decide +kernel, by decide +kernel, by decide +kernel⟩
set_option maxRecDepth 100000 in
theorem wx_mlk : Cond.methodLink RL 175 Lib.Math.min.name ∈ nwL := nw_mem 765 rfl rfl
set_option maxRecDepth 100000 in
theorem wx_mst : Cond.static Lib.Math.min.name ∈ nwL := nw_mem 766 rfl rfl
set_option maxRecDepth 100000 in
theorem wx_min : Cond.initialized "java/lang/Math" ∈ nwL := nw_mem 62 rfl rfl
set_option maxRecDepth 100000 in
theorem wx_mco : Cond.code Lib.Math.min.name Lib.Math.min.code 2 (some .int) ∈ nwL := nw_mem 767 rfl rfl
set_option maxRecDepth 100000 in
theorem wx_167 : Cond.constantDouble RL 167 4636737291354636288 ∈ nwL := nw_mem 755 rfl rfl
