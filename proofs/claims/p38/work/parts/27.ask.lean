set_option maxRecDepth 100000 in
theorem lk_L_105 : Cond.classLink RL 105 "java/lang/IndexOutOfBoundsException" ∈ nwL := nw_mem 319 rfl rfl
set_option maxRecDepth 100000 in
theorem lk_L_110 : Cond.classLink RL 110 "java/lang/IllegalArgumentException" ∈ nwL := nw_mem 399 rfl rfl
set_option maxRecDepth 100000 in
theorem lk_L_113 : Cond.classLink RL 113 "java/lang/IllegalStateException" ∈ nwL := nw_mem 400 rfl rfl
set_option maxRecDepth 100000 in
theorem lk_L_116 : Cond.classLink RL 116 "java/lang/UnsupportedOperationException" ∈ nwL := nw_mem 401 rfl rfl
set_option maxRecDepth 100000 in
theorem lk_L_119 : Cond.classLink RL 119 "java/util/NoSuchElementException" ∈ nwL := nw_mem 402 rfl rfl
set_option maxRecDepth 100000 in
theorem kc_L_109 : Cond.constant RL 109 (-2000000001) ∈ nwL := nw_mem 718 rfl rfl
set_option maxRecDepth 100000 in
theorem kc_L_112 : Cond.constant RL 112 (-2000000002) ∈ nwL := nw_mem 719 rfl rfl
set_option maxRecDepth 100000 in
theorem kc_L_115 : Cond.constant RL 115 (-2000000003) ∈ nwL := nw_mem 720 rfl rfl
set_option maxRecDepth 100000 in
theorem kc_L_118 : Cond.constant RL 118 (-2000000004) ∈ nwL := nw_mem 721 rfl rfl
set_option maxRecDepth 100000 in
theorem kc_L_121 : Cond.constant RL 121 (-2000000005) ∈ nwL := nw_mem 722 rfl rfl
set_option maxRecDepth 100000 in
theorem lk_L_130 : Cond.classLink RL 130 "java/lang/ArithmeticException" ∈ nwL := nw_mem 726 rfl rfl
set_option maxRecDepth 100000 in
theorem cs_eA : Cond.castable eA eA ∈ nwL := nw_mem 409 rfl rfl
set_option maxRecDepth 100000 in
theorem cs_eS : Cond.castable eS eS ∈ nwL := nw_mem 425 rfl rfl
set_option maxRecDepth 100000 in
theorem cs_eI : Cond.castable eI eI ∈ nwL := nw_mem 459 rfl rfl
set_option maxRecDepth 100000 in
theorem cs_eU : Cond.castable eU eU ∈ nwL := nw_mem 481 rfl rfl
set_option maxRecDepth 100000 in
theorem cs_eN : Cond.castable eN eN ∈ nwL := nw_mem 546 rfl rfl
set_option maxRecDepth 100000 in
theorem cs_eR : Cond.castable eR eR ∈ nwL := nw_mem 738 rfl rfl
def hhA : List (Nat × Nat × Nat × Nat) := [(0, 251, 602, 105), (252, 256, 602, 105), (257, 261, 602, 105), (262, 287, 602, 105), (288, 301, 602, 105), (302, 312, 602, 105), (313, 320, 602, 105), (321, 343, 602, 105), (344, 354, 602, 105), (355, 362, 602, 105), (363, 373, 602, 105), (374, 384, 602, 105), (385, 392, 602, 105), (393, 403, 602, 105), (404, 414, 602, 105), (415, 425, 602, 105), (426, 433, 602, 105), (434, 454, 602, 105), (455, 472, 602, 105), (473, 483, 602, 105), (484, 492, 602, 105), (493, 504, 602, 105), (505, 513, 602, 105), (514, 532, 602, 105), (533, 551, 602, 105), (552, 559, 602, 105), (560, 590, 602, 105), (591, 601, 602, 105), (0, 251, 606, 110), (252, 256, 606, 110), (257, 261, 606, 110), (262, 287, 606, 110), (288, 301, 606, 110), (302, 312, 606, 110), (313, 320, 606, 110), (321, 343, 606, 110), (344, 354, 606, 110), (355, 362, 606, 110), (363, 373, 606, 110), (374, 384, 606, 110), (385, 392, 606, 110), (393, 403, 606, 110), (404, 414, 606, 110), (415, 425, 606, 110), (426, 433, 606, 110), (434, 454, 606, 110), (455, 472, 606, 110), (473, 483, 606, 110), (484, 492, 606, 110), (493, 504, 606, 110), (505, 513, 606, 110), (514, 532, 606, 110), (533, 551, 606, 110), (552, 559, 606, 110), (560, 590, 606, 110), (591, 601, 606, 110), (0, 251, 610, 113), (252, 256, 610, 113), (257, 261, 610, 113), (262, 287, 610, 113), (288, 301, 610, 113), (302, 312, 610, 113), (313, 320, 610, 113), (321, 343, 610, 113), (344, 354, 610, 113), (355, 362, 610, 113), (363, 373, 610, 113), (374, 384, 610, 113), (385, 392, 610, 113), (393, 403, 610, 113), (404, 414, 610, 113), (415, 425, 610, 113), (426, 433, 610, 113), (434, 454, 610, 113), (455, 472, 610, 113), (473, 483, 610, 113), (484, 492, 610, 113), (493, 504, 610, 113), (505, 513, 610, 113), (514, 532, 610, 113), (533, 551, 610, 113), (552, 559, 610, 113), (560, 590, 610, 113), (591, 601, 610, 113), (0, 251, 614, 116), (252, 256, 614, 116), (257, 261, 614, 116), (262, 287, 614, 116), (288, 301, 614, 116), (302, 312, 614, 116), (313, 320, 614, 116), (321, 343, 614, 116), (344, 354, 614, 116), (355, 362, 614, 116), (363, 373, 614, 116), (374, 384, 614, 116), (385, 392, 614, 116), (393, 403, 614, 116), (404, 414, 614, 116), (415, 425, 614, 116), (426, 433, 614, 116), (434, 454, 614, 116), (455, 472, 614, 116), (473, 483, 614, 116), (484, 492, 614, 116), (493, 504, 614, 116), (505, 513, 614, 116), (514, 532, 614, 116), (533, 551, 614, 116), (552, 559, 614, 116), (560, 590, 614, 116), (591, 601, 614, 116), (0, 251, 618, 119), (252, 256, 618, 119), (257, 261, 618, 119), (262, 287, 618, 119), (288, 301, 618, 119), (302, 312, 618, 119), (313, 320, 618, 119), (321, 343, 618, 119), (344, 354, 618, 119), (355, 362, 618, 119), (363, 373, 618, 119), (374, 384, 618, 119), (385, 392, 618, 119), (393, 403, 618, 119), (404, 414, 618, 119), (415, 425, 618, 119), (426, 433, 618, 119), (434, 454, 618, 119), (455, 472, 618, 119), (473, 483, 618, 119), (484, 492, 618, 119), (493, 504, 618, 119), (505, 513, 618, 119), (514, 532, 618, 119), (533, 551, 618, 119), (552, 559, 618, 119), (560, 590, 618, 119), (591, 601, 618, 119)]
def ksA : List Nat := [105, 110, 113, 116, 119]
/-- the codes of the exceptions, and of a check -/
def cE (E : String) : Int32 := if E = eI then -2000000001 else if E = eA then -2000000002 else if E = eS then -2000000003 else if E = eU then -2000000004 else -2000000005
theorem cE_I : cE eI = -2000000001 := if_pos rfl
theorem cE_A : cE eA = -2000000002 := (if_neg (by decide)).trans (if_pos rfl)
theorem cE_S : cE eS = -2000000003 := (if_neg (by decide)).trans ((if_neg (by decide)).trans (if_pos rfl))
theorem cE_U : cE eU = -2000000004 := (if_neg (by decide)).trans ((if_neg (by decide)).trans ((if_neg (by decide)).trans (if_pos rfl)))
theorem cE_N : cE eN = -2000000005 := (if_neg (by decide)).trans ((if_neg (by decide)).trans ((if_neg (by decide)).trans (if_neg (by decide))))
theorem cE_0 {E : String} : cE E ≠ 0 := by
  unfold cE
  split
  · decide
  · split
    · decide
    · split
      · decide
      · split <;> decide
def gn (g : Option String) : Int32 := match g with
  | none => 0
  | some E => cE E
theorem gn_0 {g : Option String} : gn g = 0 ↔ g = none := by
  cases g with
  | none => exact ⟨fun _ => rfl, fun _ => rfl⟩
  | some E => exact ⟨fun h => absurd h cE_0, fun h => by cases h⟩
theorem gn_S {g1 g2 : Option String} : gn (gS g1 g2) = if gn g1 = 0 then gn g2 else gn g1 := by
  cases g1 with
  | none => exact (if_pos rfl).symm
  | some E => exact (if_neg (show ¬ gn (some E) = 0 from cE_0)).symm
theorem gn_O {ok : Bool} {E : String} : gn (gO ok E) = if ok = true then 0 else cE E := by
  cases ok <;> rfl
def KA (G : Option String) (F : Int32) (A' a b : Mem) : Int32 → Mem → Mem → Prop := fun r a' b' => r = (if gn G = 0 then F else gn G) ∧ a' = (if gn G = 0 then A' else a) ∧ b' = b
theorem KA.n {G : Option String} {F : Int32} {A' a b : Mem} (h : G = none) : KA G F A' a b F A' b := by
  subst h
  exact ⟨(if_pos rfl).symm, (if_pos rfl).symm, rfl⟩
theorem KA.x {G : Option String} {F : Int32} {A' a b : Mem} {E : String} (h : G = some E) : KA G F A' a b (cE E) a b := by
  subst h
  exact ⟨(if_neg (show ¬ gn (some E) = 0 from cE_0)).symm, (if_neg (show ¬ gn (some E) = 0 from cE_0)).symm, rfl⟩
def L5 : List String := [eI, eA, eS, eU, eN]
def gIn (L : List String) (g : Option String) : Prop := ∀ E, g = some E → E ∈ L
theorem gIn_S {L : List String} {g1 g2 : Option String} (h1 : gIn L g1) (h2 : gIn L g2) : gIn L (gS g1 g2) := by
  intro E h
  cases g1 with
  | none => exact h2 E h
  | some X => exact h1 E h
theorem gIn_O {L : List String} {ok : Bool} {X : String} (h : X ∈ L) : gIn L (gO ok X) := by
  intro E hE
  unfold gO at hE
  split at hE
  · cases hE
  · cases hE; exact h
def tgtA (E : String) : Nat := if E = eI then 602 else if E = eA then 606 else if E = eS then 610 else if E = eU then 614 else 618
theorem tgt_I : tgtA eI = 602 := if_pos rfl
theorem tgt_A : tgtA eA = 606 := (if_neg (by decide)).trans (if_pos rfl)
theorem tgt_S : tgtA eS = 610 := (if_neg (by decide)).trans ((if_neg (by decide)).trans (if_pos rfl))
theorem tgt_U : tgtA eU = 614 := (if_neg (by decide)).trans ((if_neg (by decide)).trans ((if_neg (by decide)).trans (if_pos rfl)))
theorem tgt_N : tgtA eN = 618 := (if_neg (by decide)).trans ((if_neg (by decide)).trans ((if_neg (by decide)).trans (if_neg (by decide))))
def chA (pc b r : Nat) : Bool := (hhA.take (b * 28 + r)).all (fun z => !(decide (z.1 ≤ pc) && decide (pc < z.2.1)) || (ksA.take b).contains z.2.2.2)
theorem tk_of {pc b r t k : Nat} {E : String} (hE : E ∈ exL) (hks : ∀ z ∈ ksA.take b, z ≠ 0 ∧ ∃ N, N ∈ exL ∧ E ≠ N ∧ Cond.classLink RL z N ∈ nwL) (hk : k ≠ 0) (hl : Cond.classLink RL k E ∈ nwL) (hc : Cond.castable E E ∈ nwL) (h1 : chA pc b r = true) (lo hi : Nat) (h2 : hhA[b * 28 + r]? = some (lo, hi, t, k)) (h3 : lo ≤ pc) (h4 : pc < hi) : Takes RL hhA pc E t := by
  obtain ⟨hlt, he⟩ := List.getElem?_eq_some_iff.mp h2
  refine ⟨hhA.take (b * 28 + r), (lo, hi, t, k), hhA.drop (b * 28 + r + 1), ?_, fun z hz => ?_, h3, h4, hk, rfl, hE, hl, hc⟩
  · rw [← he, ← List.drop_eq_getElem_cons hlt, List.take_append_drop]
  · have h5 := List.all_eq_true.mp h1 z hz
    rcases Bool.or_eq_true_iff.mp h5 with h6 | h6
    · refine Or.inl (fun h7 => ?_)
      rw [decide_eq_true h7.1, decide_eq_true h7.2] at h6
      cases h6
    · exact Or.inr (hks _ (List.contains_iff_mem.mp h6))
/-- each of the five finds its row -/
theorem A_tk {pc : Nat} (r lo hi : Nat) (h1 : chA pc 0 r = true ∧ chA pc 1 r = true ∧ chA pc 2 r = true ∧ chA pc 3 r = true ∧ chA pc 4 r = true) (h2 : hhA[0 * 28 + r]? = some (lo, hi, 602, 105) ∧ hhA[1 * 28 + r]? = some (lo, hi, 606, 110) ∧ hhA[2 * 28 + r]? = some (lo, hi, 610, 113) ∧ hhA[3 * 28 + r]? = some (lo, hi, 614, 116) ∧ hhA[4 * 28 + r]? = some (lo, hi, 618, 119)) (h3 : lo ≤ pc) (h4 : pc < hi) {G : Option String} (hin : gIn L5 G) : ∀ E, G = some E → Takes RL hhA pc E (tgtA E) := by
  intro E hE
  have hm := hin E hE
  obtain ⟨c0, c1, c2, c3, c4⟩ := h1
  obtain ⟨d0, d1, d2, d3, d4⟩ := h2
  simp only [L5, List.mem_cons, List.not_mem_nil, or_false] at hm
  rcases hm with rfl | rfl | rfl | rfl | rfl
  · rw [tgt_I]
    exact tk_of (by decide) (fun z h => absurd h List.not_mem_nil) (by decide) lk_L_105 cs_eI c0 lo hi d0 h3 h4
  · rw [tgt_A]
    exact tk_of (by decide) (List.forall_mem_cons.mpr ⟨⟨by decide, eI, by decide, by decide, lk_L_105⟩, (fun z h => absurd h List.not_mem_nil)⟩) (by decide) lk_L_110 cs_eA c1 lo hi d1 h3 h4
  · rw [tgt_S]
    exact tk_of (by decide) (List.forall_mem_cons.mpr ⟨⟨by decide, eI, by decide, by decide, lk_L_105⟩, (List.forall_mem_cons.mpr ⟨⟨by decide, eA, by decide, by decide, lk_L_110⟩, (fun z h => absurd h List.not_mem_nil)⟩)⟩) (by decide) lk_L_113 cs_eS c2 lo hi d2 h3 h4
  · rw [tgt_U]
    exact tk_of (by decide) (List.forall_mem_cons.mpr ⟨⟨by decide, eI, by decide, by decide, lk_L_105⟩, (List.forall_mem_cons.mpr ⟨⟨by decide, eA, by decide, by decide, lk_L_110⟩, (List.forall_mem_cons.mpr ⟨⟨by decide, eS, by decide, by decide, lk_L_113⟩, (fun z h => absurd h List.not_mem_nil)⟩)⟩)⟩) (by decide) lk_L_116 cs_eU c3 lo hi d3 h3 h4
  · rw [tgt_N]
    exact tk_of (by decide) (List.forall_mem_cons.mpr ⟨⟨by decide, eI, by decide, by decide, lk_L_105⟩, (List.forall_mem_cons.mpr ⟨⟨by decide, eA, by decide, by decide, lk_L_110⟩, (List.forall_mem_cons.mpr ⟨⟨by decide, eS, by decide, by decide, lk_L_113⟩, (List.forall_mem_cons.mpr ⟨⟨by decide, eU, by decide, by decide, lk_L_116⟩, (fun z h => absurd h List.not_mem_nil)⟩)⟩)⟩)⟩) (by decide) lk_L_119 cs_eN c4 lo hi d4 h3 h4
section ASK
variable {p : Program} {l : Launch} {e : Env} {R : Room} {s : State} {m : MethodId} {args : Array Value} {below : List Frame} {meth : Method} {c : Code} {Q : State → Prop} {x : Sh} {nL : Nat} {a b : Mem} {o : Out} {cells slots pc : Nat} {lv : List (Option Value)} {st rest As : List Value} {cc : ByteArray} {own : String} {mc ms : Nat}
theorem AW_scr {x : Sh} {sz bA : Nat} (hb : bA < sz) (hn : ∀ k, k < 70 → bA ≠ x.2.1 k) : ¬ AW x sz bA := by
  intro h
  rcases h with ⟨k, hk, e⟩ | h
  · exact hn k hk e
  · omega
theorem V_scr (C : CX p l s m meth c x cc own nL) {bA L : Nat} {xs : Nat → Int32} {iv : Int32} (hX : va_X bA L xs s s.heap) (hb : bA < s.heap.size) (hn : ∀ k, k < 70 → bA ≠ x.2.1 k) (i : Nat) (hi : i < L) (hL2 : L ≤ 3072) (he : iv = nI i) (hd : decode cc pc = .ok (.iaload, 1)) (kk : VV p l e R s m args below meth c Q x nL a b o cells slots (pc + 1) lv (.int (xs i) :: st)) : VV p l e R s m args below meth c Q x nL a b o cells slots pc lv (.int iv :: .ref bA :: st) := by
  intro H locs ls hP hS hL
  subst he
  refine va_sld C.1 C.2.1 hX hb (AW_scr hb hn) hS (vp_in_le hi (by omega)) hd ?_
  rw [nI_clamp (by omega)]
  exact kk H locs ls hP hS hL
theorem V_slen (C : CX p l s m meth c x cc own nL) {bA L : Nat} {xs : Nat → Int32} (hX : va_X bA L xs s s.heap) (hb : bA < s.heap.size) (hn : ∀ k, k < 70 → bA ≠ x.2.1 k) (hd : decode cc pc = .ok (.arraylength, 1)) (kk : VV p l e R s m args below meth c Q x nL a b o cells slots (pc + 1) lv (.int (Int32.ofNat L) :: st)) : VV p l e R s m args below meth c Q x nL a b o cells slots pc lv (.ref bA :: st) := by
  intro H locs ls hP hS hL
  exact va_slen C.1 C.2.1 hX hb (AW_scr hb hn) hS hd (kk H locs ls hP hS hL)
/-- a start with a row that lies beside the class's cells -/
def PreA (x : Sh) (a b : Mem) (o : Out) (sz q n : Nat) (g : Nat → Int32) (U : State) : Prop := Pre x a b o sz U ∧ va_X q n g U U.heap ∧ q < sz ∧ ∀ k, k < 70 → q ≠ x.2.1 k
theorem PreA.blind {q n sz : Nat} {g : Nat → Int32} : FrameBlind (va_Pc As (PreA x a b o sz q n g)) := by
  intro v U g9 mk h
  obtain ⟨h0, ⟨h1, h2, h3⟩, hX, hq, hk⟩ := h
  have h4 : KX x (U.calling g9 mk v) U.heap := KX.same (s := U) rfl h3
  exact ⟨h0, ⟨h1, h2, h4⟩, va_X.moved (u := U) (U := U.calling g9 mk v) (Vm.Alike.refl U.vm) hX, hq, hk⟩
def AK (l : Launch) (x : Sh) (ch : Int32) (n : Nat) (g : Nat → Int32) (fr lo mc ms : Nat) (a b : Mem) (o : Out) (Qf : Nat → Array Value → State → Outcome → State → Prop) : Prop :=
  ∀ sz q, Met l yL_ask [Cond.codeWith yL_ask cL_ask 4 (some .int) hhA] ({ frames := fr, cells := mc, slots := ms, locals := lo }) (va_Pc [.ref (x.2.1 0), .int ch, .ref q] (PreA x a b o sz q n g)) (Qf sz) mc ms (AW x sz)
theorem AK.of {ch : Int32} {n : Nat} {g : Nat → Int32} {fr lo : Nat} {Qf : Nat → Array Value → State → Outcome → State → Prop} (hl : l.stackTraces = false)
    (body : ∀ (p : Program) (e : Env) (s : State) (m : MethodId) (args : Array Value) (below : List Frame) (meth : Method) (c : Code) (q : Nat), CX p l s m meth c x cL_ask RL 4 → meth.sig.returnType = some .int → c.exceptionTable.toList = tableOf hhA → va_X q n g s s.heap → q < s.heap.size → (∀ k, k < 70 → q ≠ x.2.1 k) → VV p l e ({ frames := fr, cells := mc, slots := ms, locals := lo }) s m args below meth c (MQ below (Qf s.heap.size) args s mc ms (AW x s.heap.size)) x 4 a b o 0 0 0 [some (.ref (x.2.1 0)), some (.int ch), some (.ref q), none] []) : AK l x ch n g fr lo mc ms a b o Qf := by
  intro sz q
  refine MetFree.of_bodyS (code := cL_ask) (maxLocals := 4) (ret := some .int) (by decide) ?_ ?_
  · intro args s m h hn
    obtain ⟨m9, meth, c, hn9, h1, h2, h3, h4, -, h5, h6, -⟩ := Cond.codeWith_spec (atoms_spec (ws := [Cond.codeWith yL_ask cL_ask 4 (some .int) hhA]) h _ List.mem_cons_self)
    cases hn.symm.trans hn9
    exact ⟨meth, c, h1, h2, h3, h4, h5, h6⟩
  · intro p e s m args below meth c s₁ B hml hP _
    have hh0 : s₁.heap = s.heap := by rw [B.state]; rfl
    have htab := vx_table (x := yL_ask) B (atoms_spec (ws := [Cond.codeWith yL_ask cL_ask 4 (some .int) hhA]) B.pre _ List.mem_cons_self)
    obtain ⟨rfl, ⟨rfl, hPP, hK⟩, hX, hq, hk⟩ := hP
    have hown : s.vm.findClass yL_ask.cls = some m.cls := findClass_of_methodNamed B.named
    have hL := LV.entry (As := [Value.ref (x.2.1 0), .int ch, .ref q]) (n := 4) rfl (Nat.le_of_ble_eq_true rfl)
    have hb := body p e s m [Value.ref (x.2.1 0), .int ch, .ref q].toArray below meth c q ⟨B.exec, B.bytes, hml, hown, hK, B.notSynchronized, hl⟩ B.returns htab hX hq hk s.heap [] _ hPP va_S.rf hL
    rw [← lg_entry_eq] at hb
    obtain ⟨t, a1, o, b1, b2, b3, b4⟩ := hb s₁ hh0 (Stand.of_body B)
    exact ⟨t, o, a1, b1, b2, b3, b4⟩
/-- the five handlers -/
theorem A_kx (C : CX p l s m meth c x cL_ask RL 4) (hr : meth.sig.returnType = some .int) {G : Option String} {F : Int32} {A' : Mem} {v0 v1 v2 v3 : Option Value} (hin : gIn L5 G) (hcs : cells ≤ mc ∧ slots ≤ ms) : ∀ (E : String) (q9 : Nat), G = some E → VV p l e R s m args below meth c (MQ below (QI x o (KA G F A' a b) s.heap.size) args s mc ms (AW x s.heap.size)) x 4 a b o cells slots (tgtA E) [v0, v1, v2, v3] [.ref q9] := by
  intro E q9 hE
  have hm := hin E hE
  simp only [L5, List.mem_cons, List.not_mem_nil, or_false] at hm
  rcases hm with rfl | rfl | rfl | rfl | rfl
  · rw [tgt_I]
    refine V_astore_n3 C dL_ask_602 (by decide) ?_
    refine V_ldc (v := -2000000001) C kc_L_109 dL_ask_603 ?_
    have h := KA.x (F := F) (A' := A') (a := a) (b := b) hE
    rw [cE_I] at h
    exact V_lret C hr dL_ask_605 h hcs
  · rw [tgt_A]
    refine V_astore_n3 C dL_ask_606 (by decide) ?_
    refine V_ldc (v := -2000000002) C kc_L_112 dL_ask_607 ?_
    have h := KA.x (F := F) (A' := A') (a := a) (b := b) hE
    rw [cE_A] at h
    exact V_lret C hr dL_ask_609 h hcs
  · rw [tgt_S]
    refine V_astore_n3 C dL_ask_610 (by decide) ?_
    refine V_ldc (v := -2000000003) C kc_L_115 dL_ask_611 ?_
    have h := KA.x (F := F) (A' := A') (a := a) (b := b) hE
    rw [cE_S] at h
    exact V_lret C hr dL_ask_613 h hcs
  · rw [tgt_U]
    refine V_astore_n3 C dL_ask_614 (by decide) ?_
    refine V_ldc (v := -2000000004) C kc_L_118 dL_ask_615 ?_
    have h := KA.x (F := F) (A' := A') (a := a) (b := b) hE
    rw [cE_U] at h
    exact V_lret C hr dL_ask_617 h hcs
  · rw [tgt_N]
    refine V_astore_n3 C dL_ask_618 (by decide) ?_
    refine V_ldc (v := -2000000005) C kc_L_121 dL_ask_619 ?_
    have h := KA.x (F := F) (A' := A') (a := a) (b := b) hE
    rw [cE_N] at h
    exact V_lret C hr dL_ask_621 h hcs
end ASK
set_option maxHeartbeats 4000000 in
set_option maxRecDepth 100000 in
theorem k_apart {l : Launch} {x : Sh} {a b : Mem} {o : Out} (hfl : l.stackTraces = false) (hW : WC a) {n : Nat} {g : Nat → Int32} (hn : 1 ≤ n) (hn2 : n ≤ 5) {f0 : Int32} (hf0 : ((g 0).toUInt32 % 65536).toInt32 = f0) : AK l x 65 n g 9 420 1 6 a b o (QI x o (KA (gF f0) (nI (cntN (fun c => !agB a (fNat f0) c) 60)) a a b)) := by
  refine AK.of hfl (fun pP eE sS mM argsA belowB methM cC qA C hr tab hX hq hk => ?_)
  have hin : gIn L5 (gF f0) := by repeat (first | refine gIn_S ?_ ?_ | exact gIn_O (by decide))
  refine V_iload_n C dL_ask_0 rfl ?_
  refine V_tsw C 504 505 dL_ask_1 (by decide) (by decide) (by decide) (by decide) ?_
  refine V_aload_n C dL_ask_505 rfl ?_
  refine V_aload_n C dL_ask_506 rfl ?_
  refine V_iconst (v := nI 0) C dL_ask_507 (by decide) ?_
  refine V_scr C hX hq hk 0 (by omega) (by omega) rfl dL_ask_508 ?_
  refine V_i2c C dL_ask_509 hf0 ?_
  refine V_hcall (tgt := tgtA) C tab (RX_V C (c_X3_apart hfl hW) mi_X3_apart mk_L_85 rfl (by decide) rfl (rfl : vwCl[5]? = some (RX3, TX3, 13)) (by decide) rfl (Nat.le_of_ble_eq_true rfl) (by decide) dL_ask_510) (A_tk 22 505 513 ⟨by decide +kernel, by decide +kernel, by decide +kernel, by decide +kernel, by decide +kernel⟩ ⟨rfl, rfl, rfl, rfl, rfl⟩ (by decide) (by decide) hin) (A_kx C hr hin (by decide)) (fun hg => ?_)
  exact V_lret C hr dL_ask_513 (KA.n hg) (by decide)
set_option maxHeartbeats 4000000 in
set_option maxRecDepth 100000 in
theorem k_exam {l : Launch} {x : Sh} {a b : Mem} {o : Out} (hfl : l.stackTraces = false) (hW : WC a) {n : Nat} {g : Nat → Int32} (hn2 : n ≤ 5)  : AK l x 69 n g 7 340 1 6 a b o (QI x o (KA (g3_exam a) (nI (nE a)) (up2 a 0 8 (nI (nE a + 1))) a b)) := by
  refine AK.of hfl (fun pP eE sS mM argsA belowB methM cC qA C hr tab hX hq hk => ?_)
  have hin : gIn L5 (g3_exam a) := by unfold g3_exam; repeat (first | refine gIn_S ?_ ?_ | exact gIn_O (by decide))
  refine V_iload_n C dL_ask_0 rfl ?_
  refine V_tsw C 251 252 dL_ask_1 (by decide) (by decide) (by decide) (by decide) ?_
  refine V_aload_n C dL_ask_252 rfl ?_
  refine V_hcall (tgt := tgtA) C tab (RX_V C (c_X3_exam hfl hW) mi_X3_exam mk_L_13 rfl (by decide) rfl (rfl : vwCl[5]? = some (RX3, TX3, 13)) (by decide) rfl (Nat.le_of_ble_eq_true rfl) (by decide) dL_ask_253) (A_tk 1 252 256 ⟨by decide +kernel, by decide +kernel, by decide +kernel, by decide +kernel, by decide +kernel⟩ ⟨rfl, rfl, rfl, rfl, rfl⟩ (by decide) (by decide) hin) (A_kx C hr hin (by decide)) (fun hg => ?_)
  exact V_lret C hr dL_ask_256 (KA.n hg) (by decide)
set_option maxHeartbeats 4000000 in
set_option maxRecDepth 100000 in
theorem k_holder {l : Launch} {x : Sh} {a b : Mem} {o : Out} (hfl : l.stackTraces = false) (hW : WC a) {n : Nat} {g : Nat → Int32} (hn : 2 ≤ n) (hn2 : n ≤ 5)  : AK l x 72 n g 9 420 2 12 a b o (QI x o (KA (g3_holder a (g 0) (g 1)) (fI (nthS (hs a (tn (g 0))) (g 1)) 10) a a b)) := by
  refine AK.of hfl (fun pP eE sS mM argsA belowB methM cC qA C hr tab hX hq hk => ?_)
  have hin : gIn L5 (g3_holder a (g 0) (g 1)) := by unfold g3_holder; repeat (first | refine gIn_S ?_ ?_ | exact gIn_O (by decide))
  refine V_iload_n C dL_ask_0 rfl ?_
  refine V_tsw C 362 363 dL_ask_1 (by decide) (by decide) (by decide) (by decide) ?_
  refine V_aload_n C dL_ask_363 rfl ?_
  refine V_aload_n C dL_ask_364 rfl ?_
  refine V_iconst (v := nI 0) C dL_ask_365 (by decide) ?_
  refine V_scr C hX hq hk 0 (by omega) (by omega) rfl dL_ask_366 ?_
  refine V_aload_n C dL_ask_367 rfl ?_
  refine V_iconst (v := nI 1) C dL_ask_368 (by decide) ?_
  refine V_scr C hX hq hk 1 (by omega) (by omega) rfl dL_ask_369 ?_
  refine V_hcall (tgt := tgtA) C tab (RX_V C (c_X3_holder hfl hW) mi_X3_holder mk_L_45 rfl (by decide) rfl (rfl : vwCl[5]? = some (RX3, TX3, 13)) (by decide) rfl (Nat.le_of_ble_eq_true rfl) (by decide) dL_ask_370) (A_tk 10 363 373 ⟨by decide +kernel, by decide +kernel, by decide +kernel, by decide +kernel, by decide +kernel⟩ ⟨rfl, rfl, rfl, rfl, rfl⟩ (by decide) (by decide) hin) (A_kx C hr hin (by decide)) (fun hg => ?_)
  exact V_lret C hr dL_ask_373 (KA.n hg) (by decide)
set_option maxHeartbeats 4000000 in
set_option maxRecDepth 100000 in
theorem k_maySit {l : Launch} {x : Sh} {a b : Mem} {o : Out} (hfl : l.stackTraces = false) (hW : WC a) {n : Nat} {g : Nat → Int32} (hn : 2 ≤ n) (hn2 : n ≤ 5)  : AK l x 77 n g 9 420 2 12 a b o (QI x o (KA (g3_maySit a (g 0) (g 1)) (bI (rgB a (tn (g 0)) (tn (g 1)))) a a b)) := by
  refine AK.of hfl (fun pP eE sS mM argsA belowB methM cC qA C hr tab hX hq hk => ?_)
  have hin : gIn L5 (g3_maySit a (g 0) (g 1)) := by unfold g3_maySit; repeat (first | refine gIn_S ?_ ?_ | exact gIn_O (by decide))
  refine V_iload_n C dL_ask_0 rfl ?_
  refine V_tsw C 513 514 dL_ask_1 (by decide) (by decide) (by decide) (by decide) ?_
  refine V_aload_n C dL_ask_514 rfl ?_
  refine V_aload_n C dL_ask_515 rfl ?_
  refine V_iconst (v := nI 0) C dL_ask_516 (by decide) ?_
  refine V_scr C hX hq hk 0 (by omega) (by omega) rfl dL_ask_517 ?_
  refine V_aload_n C dL_ask_518 rfl ?_
  refine V_iconst (v := nI 1) C dL_ask_519 (by decide) ?_
  refine V_scr C hX hq hk 1 (by omega) (by omega) rfl dL_ask_520 ?_
  refine V_hcall (tgt := tgtA) C tab (RX_V C (c_X3_maySit hfl hW) mi_X3_maySit mk_L_88 rfl (by decide) rfl (rfl : vwCl[5]? = some (RX3, TX3, 13)) (by decide) rfl (Nat.le_of_ble_eq_true rfl) (by decide) dL_ask_521) (A_tk 23 514 532 ⟨by decide +kernel, by decide +kernel, by decide +kernel, by decide +kernel, by decide +kernel⟩ ⟨rfl, rfl, rfl, rfl, rfl⟩ (by decide) (by decide) hin) (A_kx C hr hin (by decide)) (fun hg => ?_)
  refine V_ifb_eq C 531 dL_ask_524 (by decide) (fun hb => ?_) (fun hb => ?_)
  · refine V_iconst (v := 0) C dL_ask_531 (by decide) ?_
    refine V_topi (show (0 : Int32) = (bI (rgB a (tn (g 0)) (tn (g 1)))) by rw [hb]; rfl) ?_
    exact V_lret C hr dL_ask_532 (KA.n hg) (by decide)
  · refine V_iconst (v := 1) C dL_ask_527 (by decide) ?_
    refine V_goto C 532 dL_ask_528 (by decide) ?_
    refine V_topi (show (1 : Int32) = (bI (rgB a (tn (g 0)) (tn (g 1)))) by rw [hb]; rfl) ?_
    exact V_lret C hr dL_ask_532 (KA.n hg) (by decide)
set_option maxHeartbeats 4000000 in
set_option maxRecDepth 100000 in
theorem k_isOpen {l : Launch} {x : Sh} {a b : Mem} {o : Out} (hfl : l.stackTraces = false) (hW : WC a) {n : Nat} {g : Nat → Int32} (hn : 2 ≤ n) (hn2 : n ≤ 5)  : AK l x 78 n g 9 420 2 12 a b o (QI x o (KA (g3_maySit a (g 0) (g 1)) (bI (roB a (tn (g 0)) (tn (g 1)))) a a b)) := by
  refine AK.of hfl (fun pP eE sS mM argsA belowB methM cC qA C hr tab hX hq hk => ?_)
  have hin : gIn L5 (g3_maySit a (g 0) (g 1)) := by unfold g3_maySit; repeat (first | refine gIn_S ?_ ?_ | exact gIn_O (by decide))
  refine V_iload_n C dL_ask_0 rfl ?_
  refine V_tsw C 532 533 dL_ask_1 (by decide) (by decide) (by decide) (by decide) ?_
  refine V_aload_n C dL_ask_533 rfl ?_
  refine V_aload_n C dL_ask_534 rfl ?_
  refine V_iconst (v := nI 0) C dL_ask_535 (by decide) ?_
  refine V_scr C hX hq hk 0 (by omega) (by omega) rfl dL_ask_536 ?_
  refine V_aload_n C dL_ask_537 rfl ?_
  refine V_iconst (v := nI 1) C dL_ask_538 (by decide) ?_
  refine V_scr C hX hq hk 1 (by omega) (by omega) rfl dL_ask_539 ?_
  refine V_hcall (tgt := tgtA) C tab (RX_V C (c_X3_isOpen hfl hW) mi_X3_isOpen mk_L_92 rfl (by decide) rfl (rfl : vwCl[5]? = some (RX3, TX3, 13)) (by decide) rfl (Nat.le_of_ble_eq_true rfl) (by decide) dL_ask_540) (A_tk 24 533 551 ⟨by decide +kernel, by decide +kernel, by decide +kernel, by decide +kernel, by decide +kernel⟩ ⟨rfl, rfl, rfl, rfl, rfl⟩ (by decide) (by decide) hin) (A_kx C hr hin (by decide)) (fun hg => ?_)
  refine V_ifb_eq C 550 dL_ask_543 (by decide) (fun hb => ?_) (fun hb => ?_)
  · refine V_iconst (v := 0) C dL_ask_550 (by decide) ?_
    refine V_topi (show (0 : Int32) = (bI (roB a (tn (g 0)) (tn (g 1)))) by rw [hb]; rfl) ?_
    exact V_lret C hr dL_ask_551 (KA.n hg) (by decide)
  · refine V_iconst (v := 1) C dL_ask_546 (by decide) ?_
    refine V_goto C 551 dL_ask_547 (by decide) ?_
    refine V_topi (show (1 : Int32) = (bI (roB a (tn (g 0)) (tn (g 1)))) by rw [hb]; rfl) ?_
    exact V_lret C hr dL_ask_551 (KA.n hg) (by decide)
set_option maxHeartbeats 4000000 in
set_option maxRecDepth 100000 in
theorem k_offer {l : Launch} {x : Sh} {a b : Mem} {o : Out} (hfl : l.stackTraces = false) (hW : WC a) {n : Nat} {g : Nat → Int32} (hn : 4 ≤ n) (hn2 : n ≤ 5)  : AK l x 79 n g 8 380 5 30 a b o (QI x o (KA (g3_offer a (g 0) (g 1) (g 2)) (nI (nO a)) (a3_offer a (g 0) (g 1) (g 2) (bI (decide (g 3 = 1)))) a b)) := by
  refine AK.of hfl (fun pP eE sS mM argsA belowB methM cC qA C hr tab hX hq hk => ?_)
  have hin : gIn L5 (g3_offer a (g 0) (g 1) (g 2)) := by unfold g3_offer; repeat (first | refine gIn_S ?_ ?_ | exact gIn_O (by decide))
  refine V_iload_n C dL_ask_0 rfl ?_
  refine V_tsw C 261 262 dL_ask_1 (by decide) (by decide) (by decide) (by decide) ?_
  refine V_aload_n C dL_ask_262 rfl ?_
  refine V_aload_n C dL_ask_263 rfl ?_
  refine V_iconst (v := nI 0) C dL_ask_264 (by decide) ?_
  refine V_scr C hX hq hk 0 (by omega) (by omega) rfl dL_ask_265 ?_
  refine V_aload_n C dL_ask_266 rfl ?_
  refine V_iconst (v := nI 1) C dL_ask_267 (by decide) ?_
  refine V_scr C hX hq hk 1 (by omega) (by omega) rfl dL_ask_268 ?_
  refine V_aload_n C dL_ask_269 rfl ?_
  refine V_iconst (v := nI 2) C dL_ask_270 (by decide) ?_
  refine V_scr C hX hq hk 2 (by omega) (by omega) rfl dL_ask_271 ?_
  refine V_aload_n C dL_ask_272 rfl ?_
  refine V_iconst (v := nI 3) C dL_ask_273 (by decide) ?_
  refine V_scr C hX hq hk 3 (by omega) (by omega) rfl dL_ask_274 ?_
  refine V_iconst (v := 1) C dL_ask_275 (by decide) ?_
  have hk276 : VV pP l eE ({ frames := 8, cells := 5, slots := 30, locals := 380 } : Room) sS mM argsA belowB methM cC (MQ belowB (QI x o (KA (g3_offer a (g 0) (g 1) (g 2)) (nI (nO a)) (a3_offer a (g 0) (g 1) (g 2) (bI (decide (g 3 = 1)))) a b) sS.heap.size) argsA sS 5 30 (AW x sS.heap.size)) x 4 a b o 0 0 284 [some (.ref (x.2.1 0)), some (.int 79), some (.ref qA), none] [.int (bI (decide (g 3 = 1))), .int (g 2), .int (g 1), .int (g 0), .ref (x.2.1 0)] := by
    refine V_hcall (tgt := tgtA) C tab (RX_V C (c_X3_offer hfl hW (bI_or _)) mi_X3_offer mk_L_20 rfl (by decide) rfl (rfl : vwCl[5]? = some (RX3, TX3, 13)) (by decide) rfl (Nat.le_of_ble_eq_true rfl) (by decide) dL_ask_284) (A_tk 3 262 287 ⟨by decide +kernel, by decide +kernel, by decide +kernel, by decide +kernel, by decide +kernel⟩ ⟨rfl, rfl, rfl, rfl, rfl⟩ (by decide) (by decide) hin) (A_kx C hr hin (by decide)) (fun hg => ?_)
    exact V_lret C hr dL_ask_287 (KA.n hg) (by decide)
  refine V_icmp_ne C 283 dL_ask_276 (by decide) (fun h276 => ?_) (fun h276 => ?_)
  · refine V_iconst (v := 0) C dL_ask_283 (by decide) ?_
    refine V_topi (show (0 : Int32) = bI (decide (g 3 = 1)) by rw [decide_eq_false (by simpa using h276)]; rfl) ?_
    exact hk276
  · refine V_iconst (v := 1) C dL_ask_279 (by decide) ?_
    refine V_goto C 284 dL_ask_280 (by decide) ?_
    refine V_topi (show (1 : Int32) = bI (decide (g 3 = 1)) by rw [decide_eq_true (by simpa using h276)]; rfl) ?_
    exact hk276
set_option maxHeartbeats 4000000 in
set_option maxRecDepth 100000 in
theorem k_pupil {l : Launch} {x : Sh} {a b : Mem} {o : Out} (hfl : l.stackTraces = false) (hW : WC a) {n : Nat} {g : Nat → Int32} (hn2 : n ≤ 5)  : AK l x 80 n g 7 340 1 6 a b o (QI x o (KA (g3_pupil a) (nI (nP a)) (up2 (up2 a 67 (nP a) 100) 0 9 (nI (nP a + 1))) a b)) := by
  refine AK.of hfl (fun pP eE sS mM argsA belowB methM cC qA C hr tab hX hq hk => ?_)
  have hin : gIn L5 (g3_pupil a) := by unfold g3_pupil; repeat (first | refine gIn_S ?_ ?_ | exact gIn_O (by decide))
  refine V_iload_n C dL_ask_0 rfl ?_
  refine V_tsw C 256 257 dL_ask_1 (by decide) (by decide) (by decide) (by decide) ?_
  refine V_aload_n C dL_ask_257 rfl ?_
  refine V_hcall (tgt := tgtA) C tab (RX_V C (c_X3_pupil hfl hW) mi_X3_pupil mk_L_17 rfl (by decide) rfl (rfl : vwCl[5]? = some (RX3, TX3, 13)) (by decide) rfl (Nat.le_of_ble_eq_true rfl) (by decide) dL_ask_258) (A_tk 2 257 261 ⟨by decide +kernel, by decide +kernel, by decide +kernel, by decide +kernel, by decide +kernel⟩ ⟨rfl, rfl, rfl, rfl, rfl⟩ (by decide) (by decide) hin) (A_kx C hr hin (by decide)) (fun hg => ?_)
  exact V_lret C hr dL_ask_261 (KA.n hg) (by decide)
set_option maxHeartbeats 4000000 in
set_option maxRecDepth 100000 in
theorem k_room {l : Launch} {x : Sh} {a b : Mem} {o : Out} (hfl : l.stackTraces = false) (hW : WC a) {n : Nat} {g : Nat → Int32} (hn : 1 ≤ n) (hn2 : n ≤ 5)  : AK l x 82 n g 7 340 1 6 a b o (QI x o (KA (g3_room a (g 0)) (nI (nR a)) (a3_room a (g 0)) a b)) := by
  refine AK.of hfl (fun pP eE sS mM argsA belowB methM cC qA C hr tab hX hq hk => ?_)
  have hin : gIn L5 (g3_room a (g 0)) := by unfold g3_room; repeat (first | refine gIn_S ?_ ?_ | exact gIn_O (by decide))
  refine V_iload_n C dL_ask_0 rfl ?_
  refine V_tsw C 243 244 dL_ask_1 (by decide) (by decide) (by decide) (by decide) ?_
  refine V_aload_n C dL_ask_244 rfl ?_
  refine V_aload_n C dL_ask_245 rfl ?_
  refine V_iconst (v := nI 0) C dL_ask_246 (by decide) ?_
  refine V_scr C hX hq hk 0 (by omega) (by omega) rfl dL_ask_247 ?_
  refine V_hcall (tgt := tgtA) C tab (RX_V C (c_X3_room hfl hW) mi_X3_room mk_L_7 rfl (by decide) rfl (rfl : vwCl[5]? = some (RX3, TX3, 13)) (by decide) rfl (Nat.le_of_ble_eq_true rfl) (by decide) dL_ask_248) (A_tk 0 0 251 ⟨by decide +kernel, by decide +kernel, by decide +kernel, by decide +kernel, by decide +kernel⟩ ⟨rfl, rfl, rfl, rfl, rfl⟩ (by decide) (by decide) hin) (A_kx C hr hin (by decide)) (fun hg => ?_)
  exact V_lret C hr dL_ask_251 (KA.n hg) (by decide)
set_option maxHeartbeats 4000000 in
set_option maxRecDepth 100000 in
theorem k_waiter {l : Launch} {x : Sh} {a b : Mem} {o : Out} (hfl : l.stackTraces = false) (hW : WC a) {n : Nat} {g : Nat → Int32} (hn : 2 ≤ n) (hn2 : n ≤ 5)  : AK l x 87 n g 9 420 2 12 a b o (QI x o (KA (g3_waiter a (g 0) (g 1)) (a (18 + 4 * tn (g 0) + 2) (tn (g 1))) a a b)) := by
  refine AK.of hfl (fun pP eE sS mM argsA belowB methM cC qA C hr tab hX hq hk => ?_)
  have hin : gIn L5 (g3_waiter a (g 0) (g 1)) := by unfold g3_waiter; repeat (first | refine gIn_S ?_ ?_ | exact gIn_O (by decide))
  refine V_iload_n C dL_ask_0 rfl ?_
  refine V_tsw C 392 393 dL_ask_1 (by decide) (by decide) (by decide) (by decide) ?_
  refine V_aload_n C dL_ask_393 rfl ?_
  refine V_aload_n C dL_ask_394 rfl ?_
  refine V_iconst (v := nI 0) C dL_ask_395 (by decide) ?_
  refine V_scr C hX hq hk 0 (by omega) (by omega) rfl dL_ask_396 ?_
  refine V_aload_n C dL_ask_397 rfl ?_
  refine V_iconst (v := nI 1) C dL_ask_398 (by decide) ?_
  refine V_scr C hX hq hk 1 (by omega) (by omega) rfl dL_ask_399 ?_
  refine V_hcall (tgt := tgtA) C tab (RX_V C (c_X3_waiter hfl hW) mi_X3_waiter mk_L_54 rfl (by decide) rfl (rfl : vwCl[5]? = some (RX3, TX3, 13)) (by decide) rfl (Nat.le_of_ble_eq_true rfl) (by decide) dL_ask_400) (A_tk 13 393 403 ⟨by decide +kernel, by decide +kernel, by decide +kernel, by decide +kernel, by decide +kernel⟩ ⟨rfl, rfl, rfl, rfl, rfl⟩ (by decide) (by decide) hin) (A_kx C hr hin (by decide)) (fun hg => ?_)
  exact V_lret C hr dL_ask_403 (KA.n hg) (by decide)
set_option maxHeartbeats 4000000 in
set_option maxRecDepth 100000 in
theorem k_at {l : Launch} {x : Sh} {a b : Mem} {o : Out} (hfl : l.stackTraces = false) (hW : WC a) {n : Nat} {g : Nat → Int32} (hn : 2 ≤ n) (hn2 : n ≤ 5)  : AK l x 97 n g 9 420 3 18 a b o (QI x o (KA (g3_at a (g 0) (g 1)) (a (18 + 4 * firN (haB a (tn (g 0)) (g 1)) (nO a)) 0) a a b)) := by
  refine AK.of hfl (fun pP eE sS mM argsA belowB methM cC qA C hr tab hX hq hk => ?_)
  have hin : gIn L5 (g3_at a (g 0) (g 1)) := by unfold g3_at; repeat (first | refine gIn_S ?_ ?_ | exact gIn_O (by decide))
  refine V_iload_n C dL_ask_0 rfl ?_
  refine V_tsw C 343 344 dL_ask_1 (by decide) (by decide) (by decide) (by decide) ?_
  refine V_aload_n C dL_ask_344 rfl ?_
  refine V_aload_n C dL_ask_345 rfl ?_
  refine V_iconst (v := nI 0) C dL_ask_346 (by decide) ?_
  refine V_scr C hX hq hk 0 (by omega) (by omega) rfl dL_ask_347 ?_
  refine V_aload_n C dL_ask_348 rfl ?_
  refine V_iconst (v := nI 1) C dL_ask_349 (by decide) ?_
  refine V_scr C hX hq hk 1 (by omega) (by omega) rfl dL_ask_350 ?_
  refine V_hcall (tgt := tgtA) C tab (RX_V C (c_X3_at hfl hW) mi_X3_at mk_L_39 rfl (by decide) rfl (rfl : vwCl[5]? = some (RX3, TX3, 13)) (by decide) rfl (Nat.le_of_ble_eq_true rfl) (by decide) dL_ask_351) (A_tk 8 344 354 ⟨by decide +kernel, by decide +kernel, by decide +kernel, by decide +kernel, by decide +kernel⟩ ⟨rfl, rfl, rfl, rfl, rfl⟩ (by decide) (by decide) hin) (A_kx C hr hin (by decide)) (fun hg => ?_)
  exact V_lret C hr dL_ask_354 (KA.n hg) (by decide)
set_option maxHeartbeats 4000000 in
set_option maxRecDepth 100000 in
theorem k_bid {l : Launch} {x : Sh} {a b : Mem} {o : Out} (hfl : l.stackTraces = false) (hW : WC a) {n : Nat} {g : Nat → Int32} (hn : 3 ≤ n) (hn2 : n ≤ 5)  : AK l x 98 n g 9 420 3 18 a b o (QI x o (KA (g3_bid a (g 0) (g 1) (g 2)) (s3_bid a (g 0) (g 1) (g 2)) (a3_bid a (g 0) (g 1) (g 2)) a b)) := by
  refine AK.of hfl (fun pP eE sS mM argsA belowB methM cC qA C hr tab hX hq hk => ?_)
  have hin : gIn L5 (g3_bid a (g 0) (g 1) (g 2)) := by unfold g3_bid; repeat (first | refine gIn_S ?_ ?_ | exact gIn_O (by decide))
  refine V_iload_n C dL_ask_0 rfl ?_
  refine V_tsw C 287 288 dL_ask_1 (by decide) (by decide) (by decide) (by decide) ?_
  refine V_aload_n C dL_ask_288 rfl ?_
  refine V_aload_n C dL_ask_289 rfl ?_
  refine V_iconst (v := nI 0) C dL_ask_290 (by decide) ?_
  refine V_scr C hX hq hk 0 (by omega) (by omega) rfl dL_ask_291 ?_
  refine V_aload_n C dL_ask_292 rfl ?_
  refine V_iconst (v := nI 1) C dL_ask_293 (by decide) ?_
  refine V_scr C hX hq hk 1 (by omega) (by omega) rfl dL_ask_294 ?_
  refine V_aload_n C dL_ask_295 rfl ?_
  refine V_iconst (v := nI 2) C dL_ask_296 (by decide) ?_
  refine V_scr C hX hq hk 2 (by omega) (by omega) rfl dL_ask_297 ?_
  refine V_hcall (tgt := tgtA) C tab (RX_V C (c_X3_bid hfl hW) mi_X3_bid mk_L_24 rfl (by decide) rfl (rfl : vwCl[5]? = some (RX3, TX3, 13)) (by decide) rfl (Nat.le_of_ble_eq_true rfl) (by decide) dL_ask_298) (A_tk 4 288 301 ⟨by decide +kernel, by decide +kernel, by decide +kernel, by decide +kernel, by decide +kernel⟩ ⟨rfl, rfl, rfl, rfl, rfl⟩ (by decide) (by decide) hin) (A_kx C hr hin (by decide)) (fun hg => ?_)
  exact V_lret C hr dL_ask_301 (KA.n hg) (by decide)
set_option maxHeartbeats 4000000 in
set_option maxRecDepth 100000 in
theorem k_sit {l : Launch} {x : Sh} {a b : Mem} {o : Out} (hfl : l.stackTraces = false) (hW : WC a) {n : Nat} {g : Nat → Int32} (hn : 1 ≤ n) (hn2 : n ≤ 5)  : AK l x 99 n g 9 420 2 12 a b o (QI x o (KA (g3_sit a (g 0)) (nI (siC a (g 0) (nO a))) (up2 (siK a (g 0) (nO a)) 69 (tn (g 0)) 1) a b)) := by
  refine AK.of hfl (fun pP eE sS mM argsA belowB methM cC qA C hr tab hX hq hk => ?_)
  have hin : gIn L5 (g3_sit a (g 0)) := by unfold g3_sit; repeat (first | refine gIn_S ?_ ?_ | exact gIn_O (by decide))
  refine V_iload_n C dL_ask_0 rfl ?_
  refine V_tsw C 551 552 dL_ask_1 (by decide) (by decide) (by decide) (by decide) ?_
  refine V_aload_n C dL_ask_552 rfl ?_
  refine V_aload_n C dL_ask_553 rfl ?_
  refine V_iconst (v := nI 0) C dL_ask_554 (by decide) ?_
  refine V_scr C hX hq hk 0 (by omega) (by omega) rfl dL_ask_555 ?_
  refine V_hcall (tgt := tgtA) C tab (RX_V C (c_X3_sit hfl hW) mi_X3_sit mk_L_95 rfl (by decide) rfl (rfl : vwCl[5]? = some (RX3, TX3, 13)) (by decide) rfl (Nat.le_of_ble_eq_true rfl) (by decide) dL_ask_556) (A_tk 25 552 559 ⟨by decide +kernel, by decide +kernel, by decide +kernel, by decide +kernel, by decide +kernel⟩ ⟨rfl, rfl, rfl, rfl, rfl⟩ (by decide) (by decide) hin) (A_kx C hr hin (by decide)) (fun hg => ?_)
  exact V_lret C hr dL_ask_559 (KA.n hg) (by decide)
set_option maxHeartbeats 4000000 in
set_option maxRecDepth 100000 in
theorem k_paid {l : Launch} {x : Sh} {a b : Mem} {o : Out} (hfl : l.stackTraces = false) (hW : WC a) {n : Nat} {g : Nat → Int32} (hn : 2 ≤ n) (hn2 : n ≤ 5)  : AK l x 100 n g 9 420 3 18 a b o (QI x o (KA (g3_paid a (g 0) (g 1)) (a (18 + 4 * tn (g 1) + 1) (tn (g 0))) a a b)) := by
  refine AK.of hfl (fun pP eE sS mM argsA belowB methM cC qA C hr tab hX hq hk => ?_)
  have hin : gIn L5 (g3_paid a (g 0) (g 1)) := by unfold g3_paid; repeat (first | refine gIn_S ?_ ?_ | exact gIn_O (by decide))
  refine V_iload_n C dL_ask_0 rfl ?_
  refine V_tsw C 373 374 dL_ask_1 (by decide) (by decide) (by decide) (by decide) ?_
  refine V_aload_n C dL_ask_374 rfl ?_
  refine V_aload_n C dL_ask_375 rfl ?_
  refine V_iconst (v := nI 0) C dL_ask_376 (by decide) ?_
  refine V_scr C hX hq hk 0 (by omega) (by omega) rfl dL_ask_377 ?_
  refine V_aload_n C dL_ask_378 rfl ?_
  refine V_iconst (v := nI 1) C dL_ask_379 (by decide) ?_
  refine V_scr C hX hq hk 1 (by omega) (by omega) rfl dL_ask_380 ?_
  refine V_hcall (tgt := tgtA) C tab (RX_V C (c_X3_paid hfl hW) mi_X3_paid mk_L_48 rfl (by decide) rfl (rfl : vwCl[5]? = some (RX3, TX3, 13)) (by decide) rfl (Nat.le_of_ble_eq_true rfl) (by decide) dL_ask_381) (A_tk 11 374 384 ⟨by decide +kernel, by decide +kernel, by decide +kernel, by decide +kernel, by decide +kernel⟩ ⟨rfl, rfl, rfl, rfl, rfl⟩ (by decide) (by decide) hin) (A_kx C hr hin (by decide)) (fun hg => ?_)
  exact V_lret C hr dL_ask_384 (KA.n hg) (by decide)
set_option maxHeartbeats 4000000 in
set_option maxRecDepth 100000 in
theorem k_giveUp {l : Launch} {x : Sh} {a b : Mem} {o : Out} (hfl : l.stackTraces = false) (hW : WC a) {n : Nat} {g : Nat → Int32} (hn : 2 ≤ n) (hn2 : n ≤ 5)  : AK l x 103 n g 9 420 3 18 a b o (QI x o (KA (g3_giveUp a (g 0) (g 1)) (muF (guA a (tn (g 0)) (tn (g 1))) (tn (g 1))) (muA (guA a (tn (g 0)) (tn (g 1))) (tn (g 1))) a b)) := by
  refine AK.of hfl (fun pP eE sS mM argsA belowB methM cC qA C hr tab hX hq hk => ?_)
  have hin : gIn L5 (g3_giveUp a (g 0) (g 1)) := by unfold g3_giveUp; repeat (first | refine gIn_S ?_ ?_ | exact gIn_O (by decide))
  refine V_iload_n C dL_ask_0 rfl ?_
  refine V_tsw C 403 404 dL_ask_1 (by decide) (by decide) (by decide) (by decide) ?_
  refine V_aload_n C dL_ask_404 rfl ?_
  refine V_aload_n C dL_ask_405 rfl ?_
  refine V_iconst (v := nI 0) C dL_ask_406 (by decide) ?_
  refine V_scr C hX hq hk 0 (by omega) (by omega) rfl dL_ask_407 ?_
  refine V_aload_n C dL_ask_408 rfl ?_
  refine V_iconst (v := nI 1) C dL_ask_409 (by decide) ?_
  refine V_scr C hX hq hk 1 (by omega) (by omega) rfl dL_ask_410 ?_
  refine V_hcall (tgt := tgtA) C tab (RX_V C (c_X3_giveUp hfl hW) mi_X3_giveUp mk_L_57 rfl (by decide) rfl (rfl : vwCl[5]? = some (RX3, TX3, 13)) (by decide) rfl (Nat.le_of_ble_eq_true rfl) (by decide) dL_ask_411) (A_tk 14 404 414 ⟨by decide +kernel, by decide +kernel, by decide +kernel, by decide +kernel, by decide +kernel⟩ ⟨rfl, rfl, rfl, rfl, rfl⟩ (by decide) (by decide) hin) (A_kx C hr hin (by decide)) (fun hg => ?_)
  exact V_lret C hr dL_ask_414 (KA.n hg) (by decide)
set_option maxHeartbeats 4000000 in
set_option maxRecDepth 100000 in
theorem k_holders {l : Launch} {x : Sh} {a b : Mem} {o : Out} (hfl : l.stackTraces = false) (hW : WC a) {n : Nat} {g : Nat → Int32} (hn : 1 ≤ n) (hn2 : n ≤ 5)  : AK l x 104 n g 9 420 1 6 a b o (QI x o (KA (gQ a (g 0)) (nI (nTaken a (tn (g 0)))) a a b)) := by
  refine AK.of hfl (fun pP eE sS mM argsA belowB methM cC qA C hr tab hX hq hk => ?_)
  have hin : gIn L5 (gQ a (g 0)) := by repeat (first | refine gIn_S ?_ ?_ | exact gIn_O (by decide))
  refine V_iload_n C dL_ask_0 rfl ?_
  refine V_tsw C 354 355 dL_ask_1 (by decide) (by decide) (by decide) (by decide) ?_
  refine V_aload_n C dL_ask_355 rfl ?_
  refine V_aload_n C dL_ask_356 rfl ?_
  refine V_iconst (v := nI 0) C dL_ask_357 (by decide) ?_
  refine V_scr C hX hq hk 0 (by omega) (by omega) rfl dL_ask_358 ?_
  refine V_hcall (tgt := tgtA) C tab (RX_V C (c_X3_holders hfl hW) mi_X3_holders mk_L_42 rfl (by decide) rfl (rfl : vwCl[5]? = some (RX3, TX3, 13)) (by decide) rfl (Nat.le_of_ble_eq_true rfl) (by decide) dL_ask_359) (A_tk 9 355 362 ⟨by decide +kernel, by decide +kernel, by decide +kernel, by decide +kernel, by decide +kernel⟩ ⟨rfl, rfl, rfl, rfl, rfl⟩ (by decide) (by decide) hin) (A_kx C hr hin (by decide)) (fun hg => ?_)
  exact V_lret C hr dL_ask_362 (KA.n hg) (by decide)
set_option maxHeartbeats 4000000 in
set_option maxRecDepth 100000 in
theorem k_hasSat {l : Launch} {x : Sh} {a b : Mem} {o : Out} (hfl : l.stackTraces = false) (hW : WC a) {n : Nat} {g : Nat → Int32} (hn : 3 ≤ n) (hn2 : n ≤ 5)  : AK l x 107 n g 9 420 2 12 a b o (QI x o (KA (g3_maySit a (g 0) (g 1)) (bI (hsB a (g 0) (g 1) (bI (decide (g 2 = 1))))) a a b)) := by
  refine AK.of hfl (fun pP eE sS mM argsA belowB methM cC qA C hr tab hX hq hk => ?_)
  have hin : gIn L5 (g3_maySit a (g 0) (g 1)) := by unfold g3_maySit; repeat (first | refine gIn_S ?_ ?_ | exact gIn_O (by decide))
  refine V_iload_n C dL_ask_0 rfl ?_
  refine V_tsw C 559 560 dL_ask_1 (by decide) (by decide) (by decide) (by decide) ?_
  refine V_aload_n C dL_ask_560 rfl ?_
  refine V_aload_n C dL_ask_561 rfl ?_
  refine V_iconst (v := nI 0) C dL_ask_562 (by decide) ?_
  refine V_scr C hX hq hk 0 (by omega) (by omega) rfl dL_ask_563 ?_
  refine V_aload_n C dL_ask_564 rfl ?_
  refine V_iconst (v := nI 1) C dL_ask_565 (by decide) ?_
  refine V_scr C hX hq hk 1 (by omega) (by omega) rfl dL_ask_566 ?_
  refine V_aload_n C dL_ask_567 rfl ?_
  refine V_iconst (v := nI 2) C dL_ask_568 (by decide) ?_
  refine V_scr C hX hq hk 2 (by omega) (by omega) rfl dL_ask_569 ?_
  refine V_iconst (v := 1) C dL_ask_570 (by decide) ?_
  have hk571 : VV pP l eE ({ frames := 9, cells := 2, slots := 12, locals := 420 } : Room) sS mM argsA belowB methM cC (MQ belowB (QI x o (KA (g3_maySit a (g 0) (g 1)) (bI (hsB a (g 0) (g 1) (bI (decide (g 2 = 1))))) a a b) sS.heap.size) argsA sS 2 12 (AW x sS.heap.size)) x 4 a b o 0 0 579 [some (.ref (x.2.1 0)), some (.int 107), some (.ref qA), none] [.int (bI (decide (g 2 = 1))), .int (g 1), .int (g 0), .ref (x.2.1 0)] := by
    refine V_hcall (tgt := tgtA) C tab (RX_V C (c_X3_hasSat hfl hW) mi_X3_hasSat mk_L_98 rfl (by decide) rfl (rfl : vwCl[5]? = some (RX3, TX3, 13)) (by decide) rfl (Nat.le_of_ble_eq_true rfl) (by decide) dL_ask_579) (A_tk 26 560 590 ⟨by decide +kernel, by decide +kernel, by decide +kernel, by decide +kernel, by decide +kernel⟩ ⟨rfl, rfl, rfl, rfl, rfl⟩ (by decide) (by decide) hin) (A_kx C hr hin (by decide)) (fun hg => ?_)
    refine V_ifb_eq C 589 dL_ask_582 (by decide) (fun hb => ?_) (fun hb => ?_)
    · refine V_iconst (v := 0) C dL_ask_589 (by decide) ?_
      refine V_topi (show (0 : Int32) = (bI (hsB a (g 0) (g 1) (bI (decide (g 2 = 1))))) by rw [hb]; rfl) ?_
      exact V_lret C hr dL_ask_590 (KA.n hg) (by decide)
    · refine V_iconst (v := 1) C dL_ask_585 (by decide) ?_
      refine V_goto C 590 dL_ask_586 (by decide) ?_
      refine V_topi (show (1 : Int32) = (bI (hsB a (g 0) (g 1) (bI (decide (g 2 = 1))))) by rw [hb]; rfl) ?_
      exact V_lret C hr dL_ask_590 (KA.n hg) (by decide)
  refine V_icmp_ne C 578 dL_ask_571 (by decide) (fun h571 => ?_) (fun h571 => ?_)
  · refine V_iconst (v := 0) C dL_ask_578 (by decide) ?_
    refine V_topi (show (0 : Int32) = bI (decide (g 2 = 1)) by rw [decide_eq_false (by simpa using h571)]; rfl) ?_
    exact hk571
  · refine V_iconst (v := 1) C dL_ask_574 (by decide) ?_
    refine V_goto C 579 dL_ask_575 (by decide) ?_
    refine V_topi (show (1 : Int32) = bI (decide (g 2 = 1)) by rw [decide_eq_true (by simpa using h571)]; rfl) ?_
    exact hk571
set_option maxHeartbeats 4000000 in
set_option maxRecDepth 100000 in
theorem k_slotOf {l : Launch} {x : Sh} {a b : Mem} {o : Out} (hfl : l.stackTraces = false) (hW : WC a) {n : Nat} {g : Nat → Int32} (hn : 1 ≤ n) (hn2 : n ≤ 5)  : AK l x 108 n g 9 420 1 6 a b o (QI x o (KA (gQ a (g 0)) (a (18 + 4 * tn (g 0)) 1) a a b)) := by
  refine AK.of hfl (fun pP eE sS mM argsA belowB methM cC qA C hr tab hX hq hk => ?_)
  have hin : gIn L5 (gQ a (g 0)) := by repeat (first | refine gIn_S ?_ ?_ | exact gIn_O (by decide))
  refine V_iload_n C dL_ask_0 rfl ?_
  refine V_tsw C 425 426 dL_ask_1 (by decide) (by decide) (by decide) (by decide) ?_
  refine V_aload_n C dL_ask_426 rfl ?_
  refine V_aload_n C dL_ask_427 rfl ?_
  refine V_iconst (v := nI 0) C dL_ask_428 (by decide) ?_
  refine V_scr C hX hq hk 0 (by omega) (by omega) rfl dL_ask_429 ?_
  refine V_hcall (tgt := tgtA) C tab (RX_V C (c_X3_slotOf hfl hW) mi_X3_slotOf mk_L_63 rfl (by decide) rfl (rfl : vwCl[5]? = some (RX3, TX3, 13)) (by decide) rfl (Nat.le_of_ble_eq_true rfl) (by decide) dL_ask_430) (A_tk 16 426 433 ⟨by decide +kernel, by decide +kernel, by decide +kernel, by decide +kernel, by decide +kernel⟩ ⟨rfl, rfl, rfl, rfl, rfl⟩ (by decide) (by decide) hin) (A_kx C hr hin (by decide)) (fun hg => ?_)
  exact V_lret C hr dL_ask_433 (KA.n hg) (by decide)
set_option maxHeartbeats 4000000 in
set_option maxRecDepth 100000 in
theorem k_move {l : Launch} {x : Sh} {a b : Mem} {o : Out} (hfl : l.stackTraces = false) (hW : WC a) {n : Nat} {g : Nat → Int32} (hn : 2 ≤ n) (hn2 : n ≤ 5)  : AK l x 109 n g 10 460 3 18 a b o (QI x o (KA (g3_move a (g 0) (g 1)) (nI (mvC a (tn (g 0)) (g 1) (nP a))) (a3_move a (tn (g 0)) (g 1)) a b)) := by
  refine AK.of hfl (fun pP eE sS mM argsA belowB methM cC qA C hr tab hX hq hk => ?_)
  have hin : gIn L5 (g3_move a (g 0) (g 1)) := by unfold g3_move; repeat (first | refine gIn_S ?_ ?_ | exact gIn_O (by decide))
  refine V_iload_n C dL_ask_0 rfl ?_
  refine V_tsw C 414 415 dL_ask_1 (by decide) (by decide) (by decide) (by decide) ?_
  refine V_aload_n C dL_ask_415 rfl ?_
  refine V_aload_n C dL_ask_416 rfl ?_
  refine V_iconst (v := nI 0) C dL_ask_417 (by decide) ?_
  refine V_scr C hX hq hk 0 (by omega) (by omega) rfl dL_ask_418 ?_
  refine V_aload_n C dL_ask_419 rfl ?_
  refine V_iconst (v := nI 1) C dL_ask_420 (by decide) ?_
  refine V_scr C hX hq hk 1 (by omega) (by omega) rfl dL_ask_421 ?_
  refine V_hcall (tgt := tgtA) C tab (RX_V C (c_X3_move hfl hW) mi_X3_move mk_L_60 rfl (by decide) rfl (rfl : vwCl[5]? = some (RX3, TX3, 13)) (by decide) rfl (Nat.le_of_ble_eq_true rfl) (by decide) dL_ask_422) (A_tk 15 415 425 ⟨by decide +kernel, by decide +kernel, by decide +kernel, by decide +kernel, by decide +kernel⟩ ⟨rfl, rfl, rfl, rfl, rfl⟩ (by decide) (by decide) hin) (A_kx C hr hin (by decide)) (fun hg => ?_)
  exact V_lret C hr dL_ask_425 (KA.n hg) (by decide)
set_option maxHeartbeats 4000000 in
set_option maxRecDepth 100000 in
theorem k_more {l : Launch} {x : Sh} {a b : Mem} {o : Out} (hfl : l.stackTraces = false) (hW : WC a) {n : Nat} {g : Nat → Int32} (hn : 2 ≤ n) (hn2 : n ≤ 5)  : AK l x 110 n g 9 420 3 18 a b o (QI x o (KA (g3_at a (g 0) (g 1)) (a (3 + (ow a 2 * 3 + 2)) (tn (g 0) * 6 + exN a (firN (haB a (tn (g 0)) (g 1)) (nO a)))) a a b)) := by
  refine AK.of hfl (fun pP eE sS mM argsA belowB methM cC qA C hr tab hX hq hk => ?_)
  have hin : gIn L5 (g3_at a (g 0) (g 1)) := by unfold g3_at; repeat (first | refine gIn_S ?_ ?_ | exact gIn_O (by decide))
  refine V_iload_n C dL_ask_0 rfl ?_
  refine V_tsw C 590 591 dL_ask_1 (by decide) (by decide) (by decide) (by decide) ?_
  refine V_aload_n C dL_ask_591 rfl ?_
  refine V_aload_n C dL_ask_592 rfl ?_
  refine V_iconst (v := nI 0) C dL_ask_593 (by decide) ?_
  refine V_scr C hX hq hk 0 (by omega) (by omega) rfl dL_ask_594 ?_
  refine V_aload_n C dL_ask_595 rfl ?_
  refine V_iconst (v := nI 1) C dL_ask_596 (by decide) ?_
  refine V_scr C hX hq hk 1 (by omega) (by omega) rfl dL_ask_597 ?_
  refine V_hcall (tgt := tgtA) C tab (RX_V C (c_X3_more hfl hW) mi_X3_more mk_L_102 rfl (by decide) rfl (rfl : vwCl[5]? = some (RX3, TX3, 13)) (by decide) rfl (Nat.le_of_ble_eq_true rfl) (by decide) dL_ask_598) (A_tk 27 591 601 ⟨by decide +kernel, by decide +kernel, by decide +kernel, by decide +kernel, by decide +kernel⟩ ⟨rfl, rfl, rfl, rfl, rfl⟩ (by decide) (by decide) hin) (A_kx C hr hin (by decide)) (fun hg => ?_)
  exact V_lret C hr dL_ask_601 (KA.n hg) (by decide)
set_option maxHeartbeats 4000000 in
set_option maxRecDepth 100000 in
theorem k_owner {l : Launch} {x : Sh} {a b : Mem} {o : Out} (hfl : l.stackTraces = false) (hW : WC a) {n : Nat} {g : Nat → Int32} (hn : 1 ≤ n) (hn2 : n ≤ 5) {f0 : Int32} (hf0 : ((g 0).toUInt32 % 65536).toInt32 = f0) : AK l x 111 n g 9 420 1 6 a b o (QI x o (KA (gF f0) (a 12 (fNat f0)) a a b)) := by
  refine AK.of hfl (fun pP eE sS mM argsA belowB methM cC qA C hr tab hX hq hk => ?_)
  have hin : gIn L5 (gF f0) := by repeat (first | refine gIn_S ?_ ?_ | exact gIn_O (by decide))
  refine V_iload_n C dL_ask_0 rfl ?_
  refine V_tsw C 483 484 dL_ask_1 (by decide) (by decide) (by decide) (by decide) ?_
  refine V_aload_n C dL_ask_484 rfl ?_
  refine V_aload_n C dL_ask_485 rfl ?_
  refine V_iconst (v := nI 0) C dL_ask_486 (by decide) ?_
  refine V_scr C hX hq hk 0 (by omega) (by omega) rfl dL_ask_487 ?_
  refine V_i2c C dL_ask_488 hf0 ?_
  refine V_hcall (tgt := tgtA) C tab (RX_V C (c_X3_owner hfl hW) mi_X3_owner mk_L_77 rfl (by decide) rfl (rfl : vwCl[5]? = some (RX3, TX3, 13)) (by decide) rfl (Nat.le_of_ble_eq_true rfl) (by decide) dL_ask_489) (A_tk 20 484 492 ⟨by decide +kernel, by decide +kernel, by decide +kernel, by decide +kernel, by decide +kernel⟩ ⟨rfl, rfl, rfl, rfl, rfl⟩ (by decide) (by decide) hin) (A_kx C hr hin (by decide)) (fun hg => ?_)
  exact V_lret C hr dL_ask_492 (KA.n hg) (by decide)
set_option maxHeartbeats 4000000 in
set_option maxRecDepth 100000 in
theorem k_points {l : Launch} {x : Sh} {a b : Mem} {o : Out} (hfl : l.stackTraces = false) (hW : WC a) {n : Nat} {g : Nat → Int32} (hn : 1 ≤ n) (hn2 : n ≤ 5)  : AK l x 112 n g 9 420 1 6 a b o (QI x o (KA (gP a (g 0)) (a 67 (tn (g 0))) a a b)) := by
  refine AK.of hfl (fun pP eE sS mM argsA belowB methM cC qA C hr tab hX hq hk => ?_)
  have hin : gIn L5 (gP a (g 0)) := by repeat (first | refine gIn_S ?_ ?_ | exact gIn_O (by decide))
  refine V_iload_n C dL_ask_0 rfl ?_
  refine V_tsw C 312 313 dL_ask_1 (by decide) (by decide) (by decide) (by decide) ?_
  refine V_aload_n C dL_ask_313 rfl ?_
  refine V_aload_n C dL_ask_314 rfl ?_
  refine V_iconst (v := nI 0) C dL_ask_315 (by decide) ?_
  refine V_scr C hX hq hk 0 (by omega) (by omega) rfl dL_ask_316 ?_
  refine V_hcall (tgt := tgtA) C tab (RX_V C (c_X3_points hfl hW) mi_X3_points mk_L_32 rfl (by decide) rfl (rfl : vwCl[5]? = some (RX3, TX3, 13)) (by decide) rfl (Nat.le_of_ble_eq_true rfl) (by decide) dL_ask_317) (A_tk 6 313 320 ⟨by decide +kernel, by decide +kernel, by decide +kernel, by decide +kernel, by decide +kernel⟩ ⟨rfl, rfl, rfl, rfl, rfl⟩ (by decide) (by decide) hin) (A_kx C hr hin (by decide)) (fun hg => ?_)
  exact V_lret C hr dL_ask_320 (KA.n hg) (by decide)
set_option maxHeartbeats 4000000 in
set_option maxRecDepth 100000 in
theorem k_read {l : Launch} {x : Sh} {a b : Mem} {o : Out} (hfl : l.stackTraces = false) (hW : WC a) {n : Nat} {g : Nat → Int32} (hn : 4 ≤ n) (hn2 : n ≤ 5) {f3 : Int32} (hf3 : ((g 3).toUInt32 % 65536).toInt32 = f3) : AK l x 114 n g 9 420 4 24 a b o (QI x o (KA (g3_read a (g 0) (g 1) (g 2) f3) (a (3 + (tn (g 0) * 3 + fNat f3)) (tn (g 1) * 6 + tn (g 2))) a a b)) := by
  refine AK.of hfl (fun pP eE sS mM argsA belowB methM cC qA C hr tab hX hq hk => ?_)
  have hin : gIn L5 (g3_read a (g 0) (g 1) (g 2) f3) := by unfold g3_read; repeat (first | refine gIn_S ?_ ?_ | exact gIn_O (by decide))
  refine V_iload_n C dL_ask_0 rfl ?_
  refine V_tsw C 454 455 dL_ask_1 (by decide) (by decide) (by decide) (by decide) ?_
  refine V_aload_n C dL_ask_455 rfl ?_
  refine V_aload_n C dL_ask_456 rfl ?_
  refine V_iconst (v := nI 0) C dL_ask_457 (by decide) ?_
  refine V_scr C hX hq hk 0 (by omega) (by omega) rfl dL_ask_458 ?_
  refine V_aload_n C dL_ask_459 rfl ?_
  refine V_iconst (v := nI 1) C dL_ask_460 (by decide) ?_
  refine V_scr C hX hq hk 1 (by omega) (by omega) rfl dL_ask_461 ?_
  refine V_aload_n C dL_ask_462 rfl ?_
  refine V_iconst (v := nI 2) C dL_ask_463 (by decide) ?_
  refine V_scr C hX hq hk 2 (by omega) (by omega) rfl dL_ask_464 ?_
  refine V_aload_n C dL_ask_465 rfl ?_
  refine V_iconst (v := nI 3) C dL_ask_466 (by decide) ?_
  refine V_scr C hX hq hk 3 (by omega) (by omega) rfl dL_ask_467 ?_
  refine V_i2c C dL_ask_468 hf3 ?_
  refine V_hcall (tgt := tgtA) C tab (RX_V C (c_X3_read hfl hW) mi_X3_read mk_L_70 rfl (by decide) rfl (rfl : vwCl[5]? = some (RX3, TX3, 13)) (by decide) rfl (Nat.le_of_ble_eq_true rfl) (by decide) dL_ask_469) (A_tk 18 455 472 ⟨by decide +kernel, by decide +kernel, by decide +kernel, by decide +kernel, by decide +kernel⟩ ⟨rfl, rfl, rfl, rfl, rfl⟩ (by decide) (by decide) hin) (A_kx C hr hin (by decide)) (fun hg => ?_)
  exact V_lret C hr dL_ask_472 (KA.n hg) (by decide)
set_option maxHeartbeats 4000000 in
set_option maxRecDepth 100000 in
theorem k_seat {l : Launch} {x : Sh} {a b : Mem} {o : Out} (hfl : l.stackTraces = false) (hW : WC a) {n : Nat} {g : Nat → Int32} (hn : 3 ≤ n) (hn2 : n ≤ 5)  : AK l x 115 n g 9 420 3 18 a b o (QI x o (KA (g3_seat a (g 0) (g 1) (bI (decide (g 2 = 1)))) (fI (hfB a (tn (g 0)) (g 1) (bI (decide (g 2 = 1)))) (nO a)) a a b)) := by
  refine AK.of hfl (fun pP eE sS mM argsA belowB methM cC qA C hr tab hX hq hk => ?_)
  have hin : gIn L5 (g3_seat a (g 0) (g 1) (bI (decide (g 2 = 1)))) := by unfold g3_seat; repeat (first | refine gIn_S ?_ ?_ | exact gIn_O (by decide))
  refine V_iload_n C dL_ask_0 rfl ?_
  refine V_tsw C 320 321 dL_ask_1 (by decide) (by decide) (by decide) (by decide) ?_
  refine V_aload_n C dL_ask_321 rfl ?_
  refine V_aload_n C dL_ask_322 rfl ?_
  refine V_iconst (v := nI 0) C dL_ask_323 (by decide) ?_
  refine V_scr C hX hq hk 0 (by omega) (by omega) rfl dL_ask_324 ?_
  refine V_aload_n C dL_ask_325 rfl ?_
  refine V_iconst (v := nI 1) C dL_ask_326 (by decide) ?_
  refine V_scr C hX hq hk 1 (by omega) (by omega) rfl dL_ask_327 ?_
  refine V_aload_n C dL_ask_328 rfl ?_
  refine V_iconst (v := nI 2) C dL_ask_329 (by decide) ?_
  refine V_scr C hX hq hk 2 (by omega) (by omega) rfl dL_ask_330 ?_
  refine V_iconst (v := 1) C dL_ask_331 (by decide) ?_
  have hk332 : VV pP l eE ({ frames := 9, cells := 3, slots := 18, locals := 420 } : Room) sS mM argsA belowB methM cC (MQ belowB (QI x o (KA (g3_seat a (g 0) (g 1) (bI (decide (g 2 = 1)))) (fI (hfB a (tn (g 0)) (g 1) (bI (decide (g 2 = 1)))) (nO a)) a a b) sS.heap.size) argsA sS 3 18 (AW x sS.heap.size)) x 4 a b o 0 0 340 [some (.ref (x.2.1 0)), some (.int 115), some (.ref qA), none] [.int (bI (decide (g 2 = 1))), .int (g 1), .int (g 0), .ref (x.2.1 0)] := by
    refine V_hcall (tgt := tgtA) C tab (RX_V C (c_X3_seat hfl hW) mi_X3_seat mk_L_35 rfl (by decide) rfl (rfl : vwCl[5]? = some (RX3, TX3, 13)) (by decide) rfl (Nat.le_of_ble_eq_true rfl) (by decide) dL_ask_340) (A_tk 7 321 343 ⟨by decide +kernel, by decide +kernel, by decide +kernel, by decide +kernel, by decide +kernel⟩ ⟨rfl, rfl, rfl, rfl, rfl⟩ (by decide) (by decide) hin) (A_kx C hr hin (by decide)) (fun hg => ?_)
    exact V_lret C hr dL_ask_343 (KA.n hg) (by decide)
  refine V_icmp_ne C 339 dL_ask_332 (by decide) (fun h332 => ?_) (fun h332 => ?_)
  · refine V_iconst (v := 0) C dL_ask_339 (by decide) ?_
    refine V_topi (show (0 : Int32) = bI (decide (g 2 = 1)) by rw [decide_eq_false (by simpa using h332)]; rfl) ?_
    exact hk332
  · refine V_iconst (v := 1) C dL_ask_335 (by decide) ?_
    refine V_goto C 340 dL_ask_336 (by decide) ?_
    refine V_topi (show (1 : Int32) = bI (decide (g 2 = 1)) by rw [decide_eq_true (by simpa using h332)]; rfl) ?_
    exact hk332
set_option maxHeartbeats 4000000 in
set_option maxRecDepth 100000 in
theorem k_setOwner {l : Launch} {x : Sh} {a b : Mem} {o : Out} (hfl : l.stackTraces = false) (hW : WC a) {n : Nat} {g : Nat → Int32} (hn : 2 ≤ n) (hn2 : n ≤ 5) {f0 : Int32} (hf0 : ((g 0).toUInt32 % 65536).toInt32 = f0) : AK l x 116 n g 9 420 3 18 a b o (QI x o (KA (g3_setOwner a f0 (g 1)) (a 12 (fNat f0)) (up2 a 12 (fNat f0) (g 1)) a b)) := by
  refine AK.of hfl (fun pP eE sS mM argsA belowB methM cC qA C hr tab hX hq hk => ?_)
  have hin : gIn L5 (g3_setOwner a f0 (g 1)) := by unfold g3_setOwner; repeat (first | refine gIn_S ?_ ?_ | exact gIn_O (by decide))
  refine V_iload_n C dL_ask_0 rfl ?_
  refine V_tsw C 492 493 dL_ask_1 (by decide) (by decide) (by decide) (by decide) ?_
  refine V_aload_n C dL_ask_493 rfl ?_
  refine V_aload_n C dL_ask_494 rfl ?_
  refine V_iconst (v := nI 0) C dL_ask_495 (by decide) ?_
  refine V_scr C hX hq hk 0 (by omega) (by omega) rfl dL_ask_496 ?_
  refine V_i2c C dL_ask_497 hf0 ?_
  refine V_aload_n C dL_ask_498 rfl ?_
  refine V_iconst (v := nI 1) C dL_ask_499 (by decide) ?_
  refine V_scr C hX hq hk 1 (by omega) (by omega) rfl dL_ask_500 ?_
  refine V_hcall (tgt := tgtA) C tab (RX_V C (c_X3_setOwner hfl hW) mi_X3_setOwner mk_L_81 rfl (by decide) rfl (rfl : vwCl[5]? = some (RX3, TX3, 13)) (by decide) rfl (Nat.le_of_ble_eq_true rfl) (by decide) dL_ask_501) (A_tk 21 493 504 ⟨by decide +kernel, by decide +kernel, by decide +kernel, by decide +kernel, by decide +kernel⟩ ⟨rfl, rfl, rfl, rfl, rfl⟩ (by decide) (by decide) hin) (A_kx C hr hin (by decide)) (fun hg => ?_)
  exact V_lret C hr dL_ask_504 (KA.n hg) (by decide)
set_option maxHeartbeats 4000000 in
set_option maxRecDepth 100000 in
theorem k_unbid {l : Launch} {x : Sh} {a b : Mem} {o : Out} (hfl : l.stackTraces = false) (hW : WC a) {n : Nat} {g : Nat → Int32} (hn : 2 ≤ n) (hn2 : n ≤ 5)  : AK l x 117 n g 9 420 3 18 a b o (QI x o (KA (g3_unbid a (g 0) (g 1)) (ptB a (g 0) (g 1) (bW a)) (outA a (g 0) (g 1) (bW a)) a b)) := by
  refine AK.of hfl (fun pP eE sS mM argsA belowB methM cC qA C hr tab hX hq hk => ?_)
  have hin : gIn L5 (g3_unbid a (g 0) (g 1)) := by unfold g3_unbid; repeat (first | refine gIn_S ?_ ?_ | exact gIn_O (by decide))
  refine V_iload_n C dL_ask_0 rfl ?_
  refine V_tsw C 301 302 dL_ask_1 (by decide) (by decide) (by decide) (by decide) ?_
  refine V_aload_n C dL_ask_302 rfl ?_
  refine V_aload_n C dL_ask_303 rfl ?_
  refine V_iconst (v := nI 0) C dL_ask_304 (by decide) ?_
  refine V_scr C hX hq hk 0 (by omega) (by omega) rfl dL_ask_305 ?_
  refine V_aload_n C dL_ask_306 rfl ?_
  refine V_iconst (v := nI 1) C dL_ask_307 (by decide) ?_
  refine V_scr C hX hq hk 1 (by omega) (by omega) rfl dL_ask_308 ?_
  refine V_hcall (tgt := tgtA) C tab (RX_V C (c_X3_unbid hfl hW) mi_X3_unbid mk_L_28 rfl (by decide) rfl (rfl : vwCl[5]? = some (RX3, TX3, 13)) (by decide) rfl (Nat.le_of_ble_eq_true rfl) (by decide) dL_ask_309) (A_tk 5 302 312 ⟨by decide +kernel, by decide +kernel, by decide +kernel, by decide +kernel, by decide +kernel⟩ ⟨rfl, rfl, rfl, rfl, rfl⟩ (by decide) (by decide) hin) (A_kx C hr hin (by decide)) (fun hg => ?_)
  exact V_lret C hr dL_ask_312 (KA.n hg) (by decide)
set_option maxHeartbeats 4000000 in
set_option maxRecDepth 100000 in
theorem k_waiting {l : Launch} {x : Sh} {a b : Mem} {o : Out} (hfl : l.stackTraces = false) (hW : WC a) {n : Nat} {g : Nat → Int32} (hn : 1 ≤ n) (hn2 : n ≤ 5)  : AK l x 119 n g 9 420 1 6 a b o (QI x o (KA (gQ a (g 0)) (a (18 + 4 * tn (g 0)) 8) a a b)) := by
  refine AK.of hfl (fun pP eE sS mM argsA belowB methM cC qA C hr tab hX hq hk => ?_)
  have hin : gIn L5 (gQ a (g 0)) := by repeat (first | refine gIn_S ?_ ?_ | exact gIn_O (by decide))
  refine V_iload_n C dL_ask_0 rfl ?_
  refine V_tsw C 384 385 dL_ask_1 (by decide) (by decide) (by decide) (by decide) ?_
  refine V_aload_n C dL_ask_385 rfl ?_
  refine V_aload_n C dL_ask_386 rfl ?_
  refine V_iconst (v := nI 0) C dL_ask_387 (by decide) ?_
  refine V_scr C hX hq hk 0 (by omega) (by omega) rfl dL_ask_388 ?_
  refine V_hcall (tgt := tgtA) C tab (RX_V C (c_X3_waiting hfl hW) mi_X3_waiting mk_L_51 rfl (by decide) rfl (rfl : vwCl[5]? = some (RX3, TX3, 13)) (by decide) rfl (Nat.le_of_ble_eq_true rfl) (by decide) dL_ask_389) (A_tk 12 385 392 ⟨by decide +kernel, by decide +kernel, by decide +kernel, by decide +kernel, by decide +kernel⟩ ⟨rfl, rfl, rfl, rfl, rfl⟩ (by decide) (by decide) hin) (A_kx C hr hin (by decide)) (fun hg => ?_)
  exact V_lret C hr dL_ask_392 (KA.n hg) (by decide)
set_option maxHeartbeats 4000000 in
set_option maxRecDepth 100000 in
theorem k_write {l : Launch} {x : Sh} {a b : Mem} {o : Out} (hfl : l.stackTraces = false) (hW : WC a) {n : Nat} {g : Nat → Int32} (hn : 5 ≤ n) (hn2 : n ≤ 5) {f3 : Int32} (hf3 : ((g 3).toUInt32 % 65536).toInt32 = f3) : AK l x 120 n g 9 420 5 30 a b o (QI x o (KA (g3_write a (g 0) (g 1) (g 2) f3 (g 4)) (a (3 + (tn (g 0) * 3 + fNat f3)) (tn (g 1) * 6 + tn (g 2))) (up2 a (3 + (tn (g 0) * 3 + fNat f3)) (tn (g 1) * 6 + tn (g 2)) (g 4)) a b)) := by
  refine AK.of hfl (fun pP eE sS mM argsA belowB methM cC qA C hr tab hX hq hk => ?_)
  have hin : gIn L5 (g3_write a (g 0) (g 1) (g 2) f3 (g 4)) := by unfold g3_write; repeat (first | refine gIn_S ?_ ?_ | exact gIn_O (by decide))
  refine V_iload_n C dL_ask_0 rfl ?_
  refine V_tsw C 433 434 dL_ask_1 (by decide) (by decide) (by decide) (by decide) ?_
  refine V_aload_n C dL_ask_434 rfl ?_
  refine V_aload_n C dL_ask_435 rfl ?_
  refine V_iconst (v := nI 0) C dL_ask_436 (by decide) ?_
  refine V_scr C hX hq hk 0 (by omega) (by omega) rfl dL_ask_437 ?_
  refine V_aload_n C dL_ask_438 rfl ?_
  refine V_iconst (v := nI 1) C dL_ask_439 (by decide) ?_
  refine V_scr C hX hq hk 1 (by omega) (by omega) rfl dL_ask_440 ?_
  refine V_aload_n C dL_ask_441 rfl ?_
  refine V_iconst (v := nI 2) C dL_ask_442 (by decide) ?_
  refine V_scr C hX hq hk 2 (by omega) (by omega) rfl dL_ask_443 ?_
  refine V_aload_n C dL_ask_444 rfl ?_
  refine V_iconst (v := nI 3) C dL_ask_445 (by decide) ?_
  refine V_scr C hX hq hk 3 (by omega) (by omega) rfl dL_ask_446 ?_
  refine V_i2c C dL_ask_447 hf3 ?_
  refine V_aload_n C dL_ask_448 rfl ?_
  refine V_iconst (v := nI 4) C dL_ask_449 (by decide) ?_
  refine V_scr C hX hq hk 4 (by omega) (by omega) rfl dL_ask_450 ?_
  refine V_hcall (tgt := tgtA) C tab (RX_V C (c_X3_write hfl hW) mi_X3_write mk_L_66 rfl (by decide) rfl (rfl : vwCl[5]? = some (RX3, TX3, 13)) (by decide) rfl (Nat.le_of_ble_eq_true rfl) (by decide) dL_ask_451) (A_tk 17 434 454 ⟨by decide +kernel, by decide +kernel, by decide +kernel, by decide +kernel, by decide +kernel⟩ ⟨rfl, rfl, rfl, rfl, rfl⟩ (by decide) (by decide) hin) (A_kx C hr hin (by decide)) (fun hg => ?_)
  exact V_lret C hr dL_ask_454 (KA.n hg) (by decide)
set_option maxHeartbeats 4000000 in
set_option maxRecDepth 100000 in
theorem k_sync {l : Launch} {x : Sh} {a b : Mem} {o : Out} (hfl : l.stackTraces = false) (hW : WC a) {n : Nat} {g : Nat → Int32} (hn : 2 ≤ n) (hn2 : n ≤ 5)  : AK l x 121 n g 9 420 3 18 a b o (QI x o (KA (g3_sync (g 0) (g 1)) (nI (cnO a (tn (g 0)) (tn (g 1)) 3)) (cpO a (tn (g 0)) (tn (g 1)) 3) a b)) := by
  refine AK.of hfl (fun pP eE sS mM argsA belowB methM cC qA C hr tab hX hq hk => ?_)
  have hin : gIn L5 (g3_sync (g 0) (g 1)) := by unfold g3_sync; repeat (first | refine gIn_S ?_ ?_ | exact gIn_O (by decide))
  refine V_iload_n C dL_ask_0 rfl ?_
  refine V_tsw C 472 473 dL_ask_1 (by decide) (by decide) (by decide) (by decide) ?_
  refine V_aload_n C dL_ask_473 rfl ?_
  refine V_aload_n C dL_ask_474 rfl ?_
  refine V_iconst (v := nI 0) C dL_ask_475 (by decide) ?_
  refine V_scr C hX hq hk 0 (by omega) (by omega) rfl dL_ask_476 ?_
  refine V_aload_n C dL_ask_477 rfl ?_
  refine V_iconst (v := nI 1) C dL_ask_478 (by decide) ?_
  refine V_scr C hX hq hk 1 (by omega) (by omega) rfl dL_ask_479 ?_
  refine V_hcall (tgt := tgtA) C tab (RX_V C (c_X3_sync hfl hW) mi_X3_sync mk_L_74 rfl (by decide) rfl (rfl : vwCl[5]? = some (RX3, TX3, 13)) (by decide) rfl (Nat.le_of_ble_eq_true rfl) (by decide) dL_ask_480) (A_tk 19 473 483 ⟨by decide +kernel, by decide +kernel, by decide +kernel, by decide +kernel, by decide +kernel⟩ ⟨rfl, rfl, rfl, rfl, rfl⟩ (by decide) (by decide) hin) (A_kx C hr hin (by decide)) (fun hg => ?_)
  exact V_lret C hr dL_ask_483 (KA.n hg) (by decide)
theorem gIn_z {L : List String} {v : Int32} (h : eR ∈ L) : gIn L (gzero v) := by
  intro E hE
  unfold gzero at hE
  split at hE
  · cases hE; exact h
  · cases hE
set_option maxHeartbeats 4000000 in
set_option maxRecDepth 100000 in
/-- of an object without offers or without pupils -/
theorem k_hasNone {l : Launch} {x : Sh} {a b : Mem} {o : Out} (hfl : l.stackTraces = false) (hW : WC a) (z : Bool) (h1 : a 0 10 = 0) (h2 : a 0 9 = 0) : LG l x yL_hasNone cL_hasNone 4 (some .boolean) [(0, 18, 19, 130)] 8 380 1 6 [.ref (x.2.1 0), .int (bI z)] a b o (QI x o (FI 1 a b)) := by
  have hO : nO a = 0 := by show tn (a 0 10) = 0; rw [h1]; rfl
  have hT : ∀ (pc : Nat), pc < 18 → Takes RL [(0, 18, 19, 130)] pc eR 19 := fun pc h => ⟨[], (0, 18, 19, 130), [], rfl, (fun _ h => absurd h List.not_mem_nil), Nat.zero_le _, h, by decide, rfl, by decide, lk_L_130, cs_eR⟩
  refine LG.of (maxL := 4) (ret := (some .boolean)) hfl (by decide) [some (.ref (x.2.1 0)), some (.int (bI z)), none, none] rfl rfl (Nat.le_of_ble_eq_true rfl) ?_
  intro pP eE sS mM argsA belowB methM cC C hr tab
  have kx : ∀ (E : String) (q9 cs ss : Nat), gzero 0 = some E → cs ≤ 1 ∧ ss ≤ 6 → VV pP l eE ({ frames := 8, cells := 1, slots := 6, locals := 380 } : Room) sS mM argsA belowB methM cC (MQ belowB (QI x o (FI 1 a b) sS.heap.size) argsA sS 1 6 (AW x sS.heap.size)) x 4 a b o cs ss 19 [some (.ref (x.2.1 0)), some (.int (bI z)), none, none] [.ref q9] := by
    intro E q9 cs ss _ hcs
    refine V_astore_n2 C dL_hasNone_19 (by decide) ?_
    refine V_iconst (v := 1) C dL_hasNone_20 (by decide) ?_
    exact V_lretz C hr (Or.inr rfl) dL_hasNone_21 ⟨rfl, rfl, rfl⟩ hcs
  have tk : ∀ (pc : Nat), pc < 18 → ∀ E, gzero 0 = some E → Takes RL [(0, 18, 19, 130)] pc E 19 := fun pc h E hE => by
    have : E = eR := List.mem_singleton.mp (gIn_z (L := [eR]) List.mem_cons_self E hE)
    subst this
    exact hT pc h
  refine V_iload_n C dL_hasNone_0 rfl ?_
  refine V_ifb_eq C 12 dL_hasNone_1 (by decide) (fun hz => ?_) (fun hz => ?_)
  · refine V_aload_n C dL_hasNone_12 rfl ?_
    refine V_hcalld (tgt := fun _ => 19) C tab (RX_V C (c_X3_meanPoints hfl hW) mi_X3_meanPoints mk_L_126 rfl (by decide) rfl (rfl : vwCl[5]? = some (RX3, TX3, 13)) (by decide) rfl (Nat.le_of_ble_eq_true rfl) (by decide) dL_hasNone_13) ?_ ?_ ?_
    · rw [h2]; exact tk 13 (by decide)
    · rw [h2]; exact fun E q9 hE => kx E q9 _ _ hE (by decide)
    · rw [h2]; exact fun hg => by cases hg
  · refine V_aload_n C dL_hasNone_4 rfl ?_
    refine V_hcallf (tgt := fun _ => 19) C tab (RX_V C (c_X3_takenShare hfl hW (fun i hi => by omega)) mi_X3_takenShare mk_L_122 rfl (by decide) rfl (rfl : vwCl[5]? = some (RX3, TX3, 13)) (by decide) rfl (Nat.le_of_ble_eq_true rfl) (by decide) dL_hasNone_5) ?_ ?_ ?_
    · rw [h1]; exact tk 5 (by decide)
    · rw [h1]; exact fun E q9 hE => kx E q9 _ _ hE (by decide)
    · rw [h1]; exact fun hg => by cases hg
