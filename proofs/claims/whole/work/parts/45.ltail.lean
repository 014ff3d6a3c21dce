/-! the law's body: rows by blocks -/
def zI (y : Int32) : Int32 := if y = 0 then 0 else 1
theorem zI_or (y : Int32) : zI y = 0 ∨ zI y = 1 := by
  unfold zI
  by_cases h : y = 0
  · rw [if_pos h]; exact Or.inl rfl
  · rw [if_neg h]; exact Or.inr rfl
/-- where the law stands: the script, round t -/
def LX (s : State) (x : Sh) (bA L : Nat) (xs : Nat → Int32) (t : Nat) : Prop := va_X bA L xs s s.heap ∧ bA < s.heap.size ∧ (∀ k, k < 89 → bA ≠ x.2.1 k) ∧ L ≤ 3072 ∧ 6 * t + 6 ≤ L
theorem JJ.mo {q b : Mem} {t t2 : Nat} (h : JJ q b t) (ht : t ≤ t2) : JJ q b t2 := ⟨h.1, h.2.1, h.2.2.1, h.2.2.2.1.mo ht, h.2.2.2.2⟩
theorem cd_0 {L : List String} {g : Option String} (h : cd L g = 0) (hL : L.length < 100) : g = none := by
  cases g with
  | none => rfl
  | some E =>
    have h1 : L.idxOf E ≤ L.length := List.idxOf_le_length
    have h2 : nI (L.idxOf E + 1) = 0 := h
    have h3 : (nI (L.idxOf E + 1)).toInt = ((L.idxOf E + 1 : Nat) : Int) := nI_toInt (by omega)
    rw [h2] at h3
    have h4 : (0 : Int32).toInt = 0 := rfl
    rw [h4] at h3
    omega
/-- what the reference's answer says: its throw's word, its answer, and the two still agree -/
def RF (L : List String) (g : Option String) (F : Int32) (q A' : Mem) (t : Nat) (a1 : Mem) : Int32 → Mem → Mem → Prop := fun r a2 b2 => a2 = a1 ∧ b2 70 0 = cd L g ∧ (g = none → r = F ∧ JJ A' b2 t) ∧ (g ≠ none → JJ q b2 t)
theorem RF.mm {L : List String} {g : Option String} {F : Int32} {q b A' B' a1 : Mem} {t : Nat} (hJ : JJ q b t) (h0 : B' 70 0 = 0) (hN : g = none → JJ A' B' (t + 1)) {r : Int32} {a2 b2 : Mem} (h : FI (rd g F) a1 (mm L g b B') r a2 b2) : RF L g F q A' (t + 1) a1 r a2 b2 := by
  obtain ⟨rfl, rfl, rfl⟩ := h
  cases g with
  | none => exact ⟨rfl, h0, fun h => ⟨rfl, hN h⟩, fun h => absurd rfl h⟩
  | some E => exact ⟨rfl, (by show up2 b 70 0 _ 70 0 = _; exact if_pos ⟨rfl, rfl⟩), fun h => (by cases h), fun _ => (hJ.mo (Nat.le_succ t)).th⟩
theorem RF.rd {L : List String} {g : Option String} {F : Int32} {q b a1 : Mem} {t : Nat} (hJ : JJ q b t) {r : Int32} {a2 b2 : Mem} (h : FI (rd g F) a1 (up2 b 70 0 (cd L g)) r a2 b2) : RF L g F q q (t + 1) a1 r a2 b2 := by
  obtain ⟨rfl, rfl, rfl⟩ := h
  refine ⟨rfl, if_pos ⟨rfl, rfl⟩, fun h => ?_, fun _ => (hJ.mo (Nat.le_succ t)).th⟩
  subst h
  exact ⟨rfl, (hJ.mo (Nat.le_succ t)).th⟩
theorem RF.opm {L : List String} {g : Option String} {F : Int32} {q q' b a1 : Mem} {t : Nat} (hJ : JJ q b t) (hN : ∀ b2, g = none → KQ b b2 → RR q' b2 → JJ q' b2 t) {r : Int32} {a2 b2 : Mem} (h : OPM L g F q q' b a1 r a2 b2) : RF L g F q q' (t + 1) a1 r a2 b2 := by
  obtain ⟨rfl, rfl, h3, h4, h5, h6⟩ := h
  refine ⟨rfl, h3, fun h => ?_, fun h => ?_⟩
  · subst h
    exact ⟨rfl, (hN b2 rfl h4 (h5 rfl)).mo (Nat.le_succ t)⟩
  · exact (show JJ q b2 t from ⟨hJ.W, hJ.I, h6 h, hJ.B.ks (KQ.ks h4) (fun c j _ _ => rfl), hJ.H.cg (fun p ex z _ => rfl) h4.2.2.1⟩).mo (Nat.le_succ t)
section LBD
variable {p : Program} {l : Launch} {e : Env} {s : State} {m : MethodId} {args : Array Value} {below : List Frame} {meth : Method} {c : Code} {Q : State → Prop} {x : Sh} {a b : Mem} {o : Out} {cells slots pc : Nat} {lv : List (Option Value)} {st : List Value}
/-- an int of the script -/
theorem V_arg (C : CX p l s m meth c x cL_law RL 9) {bA L t : Nat} {xs : Nat → Int32} (hX : LX s x bA L xs t) (k : Nat) (hk : k < 6) {z : Int} (hz : Int32.ofInt z = nI k) (h0 : lv[0]? = some (some (.ref bA))) (h5 : lv[5]? = some (some (.int (nI (6 * t))))) (d0 : decode cL_law pc = .ok (.aload_n 0, 1)) (d1 : decode cL_law (pc + 1) = .ok (.iload 5, 2)) (d3 : decode cL_law (pc + 3) = .ok (.iconst z, 1)) (d4 : decode cL_law (pc + 4) = .ok (.iadd, 1)) (d5 : decode cL_law (pc + 5) = .ok (.iaload, 1)) (kk : VV p l e room_1 s m args below meth c Q x 9 a b o cells slots (pc + 6) lv (.int (xs (6 * t + k)) :: st)) : VV p l e room_1 s m args below meth c Q x 9 a b o cells slots pc lv st := by
  obtain ⟨hX1, hX2, hX3, hX4, hX5⟩ := hX
  refine V_aload_n C d0 h0 ?_
  refine V_iload C d1 h5 ?_
  refine V_iconst C d3 hz ?_
  refine V_iadd C d4 ?_
  refine V_topi (nI_add _ _) ?_
  exact V_scr C hX1 hX2 hX3 (6 * t + k) (by omega) hX4 rfl d5 kk
/-- script[i+k] != 0 -/
theorem V_bool (C : CX p l s m meth c x cL_law RL 9) {y : Int32} (d0 : decode cL_law pc = .ok (.ifCond .eq 7, 3)) (d3 : decode cL_law (pc + 3) = .ok (.iconst 1, 1)) (d4 : decode cL_law (pc + 4) = .ok (.goto 4, 3)) (d7 : decode cL_law (pc + 7) = .ok (.iconst 0, 1)) (kk : VV p l e room_1 s m args below meth c Q x 9 a b o cells slots (pc + 8) lv (.int (zI y) :: st)) : VV p l e room_1 s m args below meth c Q x 9 a b o cells slots pc lv (.int y :: st) := by
  refine V_if_eq C (pc + 7) d0 (by omega) (fun h => ?_) (fun h => ?_)
  · refine V_iconst (v := 0) C d7 (by decide) ?_
    have e : zI y = 0 := if_pos h
    rw [e] at kk
    exact kk
  · refine V_iconst (v := 1) C d3 (by decide) ?_
    refine V_goto C (pc + 8) d4 (by omega) ?_
    have e : zI y = 1 := if_neg h
    rw [e] at kk
    exact kk
theorem V_thr (C : CX p l s m meth c x cL_law RL 9) (hfl : l.stackTraces = false) {k : Int32} (hcs : cells ≤ 603072 ∧ slots ≤ 7194729) (h2 : lv[2]? = some (some (.ref (x.2.1 70)))) (h6 : lv[6]? = some (some (.int k))) (hk : b 70 0 = k) (d0 : decode cL_law pc = .ok (.aload_n 2, 1)) (d1 : decode cL_law (pc + 1) = .ok (.invokevirtual 135, 3)) (d4 : decode cL_law (pc + 4) = .ok (.iload 6, 2)) (d6 : decode cL_law (pc + 6) = .ok (.if_icmp .eq 5, 3)) (kk : VV p l e room_1 s m args below meth c Q x 9 a b o cells slots (pc + 11) lv []) : VV p l e room_1 s m args below meth c Q x 9 a b o cells slots pc lv [] := by
  refine V_aload_n C d0 h2 ?_
  refine V_callf (R_V C (c_X4_thrown hfl) mi_X4_thrown mk_L_135 rfl (by omega) rfl (rfl : vwCl[6]? = some (RX4, TX4, 24)) ⟨(by decide), (by decide)⟩ rfl (Nat.le_of_ble_eq_true rfl) hcs d1) ?_
  refine V_iload C d4 h6 ?_
  exact V_icmp_eq C (pc + 11) d6 (by omega) (fun _ => kk) (fun h => absurd hk h)
/-- the end of a call that answers an int -/
theorem V_tail (C : CX p l s m meth c x cL_law RL 9) (hfl : l.stackTraces = false) {L : List String} {g : Option String} {q A' a1 a2 b2 : Mem} {r r7 F : Int32} {v : Int64} {w : UInt64} {o1 : Out} {t off tgt : Nat} (hLn : L.length < 100) (hcs : cells ≤ 603072 ∧ slots ≤ 7194729) (hF : r = cd L g ∧ (g = none → a1 = A' ∧ o1 = (v, w)) ∧ (g ≠ none → a1 = q)) (hG : RF L g F q A' t a1 r7 a2 b2) (hv : F.toInt64 = v)
    (h2 : lv[2]? = some (some (.ref (x.2.1 70)))) (h3 : lv[3]? = some (some (.ref (x.2.1 87)))) (h6 : lv[6]? = some (some (.int r))) (h7 : lv[7]? = some (some (.int r7)))
    (d0 : decode cL_law pc = .ok (.aload_n 2, 1)) (d1 : decode cL_law (pc + 1) = .ok (.invokevirtual 135, 3)) (d4 : decode cL_law (pc + 4) = .ok (.iload 6, 2)) (d6 : decode cL_law (pc + 6) = .ok (.if_icmp .eq 5, 3)) (d11 : decode cL_law (pc + 11) = .ok (.iload 6, 2)) (d13 : decode cL_law (pc + 13) = .ok (.ifCond .ne 15, 3)) (d16 : decode cL_law (pc + 16) = .ok (.aload_n 3, 1)) (d17 : decode cL_law (pc + 17) = .ok (.iconst 0, 1)) (d18 : decode cL_law (pc + 18) = .ok (.laload, 1)) (d19 : decode cL_law (pc + 19) = .ok (.iload 7, 2)) (d21 : decode cL_law (pc + 21) = .ok (.i2l, 1)) (d22 : decode cL_law (pc + 22) = .ok (.lcmp, 1)) (d23 : decode cL_law (pc + 23) = .ok (.ifCond .eq 5, 3)) (d28 : decode cL_law (pc + 28) = .ok (.goto (off : Int), 3)) (htg : pc + 28 + off = tgt)
    (kk : ∀ a3 b3, JJ a3 b3 t → VV p l e room_1 s m args below meth c Q x 9 a3 b3 o1 cells slots tgt lv []) : VV p l e room_1 s m args below meth c Q x 9 a2 b2 o1 cells slots pc lv [] := by
  obtain ⟨hr, hn, hs⟩ := hF
  obtain ⟨rfl, g1, g2, g3⟩ := hG
  refine V_thr C hfl hcs h2 h6 (g1.trans hr.symm) d0 d1 d4 d6 ?_
  refine V_iload C d11 h6 ?_
  refine V_if_ne C (pc + 28) d13 (by omega) (fun h => ?_) (fun h => ?_)
  · have hg : g ≠ none := fun z => h (by rw [hr, z]; rfl)
    refine V_goto C tgt d28 (by omega) ?_
    rw [hs hg]
    exact kk q b2 (g3 hg)
  · have hg : g = none := cd_0 (by rw [← hr]; exact h) hLn
    obtain ⟨e1, e2⟩ := hn hg
    obtain ⟨e3, e4⟩ := g2 hg
    refine V_aload_n C d16 h3 ?_
    refine V_iconst (v := 0) C d17 (by decide) ?_
    refine V_lald C rfl d18 ?_
    refine V_iload C d19 h7 ?_
    refine V_i2l C d21 rfl ?_
    refine V_lcmp C d22 ?_
    refine V_topi (w := 0) (by rw [e2, e3, hv]; exact lg_cmp_s v) ?_
    refine V_if_eq C (pc + 28) d23 (by omega) (fun _ => ?_) (fun z => absurd rfl z)
    refine V_goto C tgt d28 (by omega) ?_
    rw [e1]
    exact kk A' b2 e4
/-- the end of a call that answers a boolean -/
theorem V_tailz (C : CX p l s m meth c x cL_law RL 9) (hfl : l.stackTraces = false) {L : List String} {g : Option String} {q A' a1 a2 b2 : Mem} {r r7 : Int32} {B : Bool} {w : UInt64} {o1 : Out} {t off tgt : Nat} (hLn : L.length < 100) (hcs : cells ≤ 603072 ∧ slots ≤ 7194729) (hF : r = cd L g ∧ (g = none → a1 = A' ∧ o1 = ((bI B).toInt64, w)) ∧ (g ≠ none → a1 = q)) (hG : RF L g (bI B) q A' t a1 r7 a2 b2)
    (h2 : lv[2]? = some (some (.ref (x.2.1 70)))) (h3 : lv[3]? = some (some (.ref (x.2.1 87)))) (h6 : lv[6]? = some (some (.int r))) (h7 : lv[7]? = some (some (.int r7)))
    (d0 : decode cL_law pc = .ok (.aload_n 2, 1)) (d1 : decode cL_law (pc + 1) = .ok (.invokevirtual 135, 3)) (d4 : decode cL_law (pc + 4) = .ok (.iload 6, 2)) (d6 : decode cL_law (pc + 6) = .ok (.if_icmp .eq 5, 3)) (d11 : decode cL_law (pc + 11) = .ok (.iload 6, 2)) (d13 : decode cL_law (pc + 13) = .ok (.ifCond .ne 22, 3)) (d16 : decode cL_law (pc + 16) = .ok (.aload_n 3, 1)) (d17 : decode cL_law (pc + 17) = .ok (.iconst 0, 1)) (d18 : decode cL_law (pc + 18) = .ok (.laload, 1)) (d19 : decode cL_law (pc + 19) = .ok (.iload 7, 2)) (d21 : decode cL_law (pc + 21) = .ok (.ifCond .eq 7, 3)) (d24 : decode cL_law (pc + 24) = .ok (.lconst 1, 1)) (d25 : decode cL_law (pc + 25) = .ok (.goto 4, 3)) (d28 : decode cL_law (pc + 28) = .ok (.lconst 0, 1)) (d29 : decode cL_law (pc + 29) = .ok (.lcmp, 1)) (d30 : decode cL_law (pc + 30) = .ok (.ifCond .eq 5, 3)) (d35 : decode cL_law (pc + 35) = .ok (.goto (off : Int), 3)) (htg : pc + 35 + off = tgt)
    (kk : ∀ a3 b3, JJ a3 b3 t → VV p l e room_1 s m args below meth c Q x 9 a3 b3 o1 cells slots tgt lv []) : VV p l e room_1 s m args below meth c Q x 9 a2 b2 o1 cells slots pc lv [] := by
  obtain ⟨hr, hn, hs⟩ := hF
  obtain ⟨rfl, g1, g2, g3⟩ := hG
  refine V_thr C hfl hcs h2 h6 (g1.trans hr.symm) d0 d1 d4 d6 ?_
  refine V_iload C d11 h6 ?_
  refine V_if_ne C (pc + 35) d13 (by omega) (fun h => ?_) (fun h => ?_)
  · have hg : g ≠ none := fun z => h (by rw [hr, z]; rfl)
    refine V_goto C tgt d35 (by omega) ?_
    rw [hs hg]
    exact kk q b2 (g3 hg)
  · have hg : g = none := cd_0 (by rw [← hr]; exact h) hLn
    obtain ⟨e1, e2⟩ := hn hg
    obtain ⟨e3, e4⟩ := g2 hg
    refine V_aload_n C d16 h3 ?_
    refine V_iconst (v := 0) C d17 (by decide) ?_
    refine V_lald C rfl d18 ?_
    refine V_iload C d19 h7 ?_
    have hend : VV p l e room_1 s m args below meth c Q x 9 a2 b2 o1 cells slots (pc + 35) lv [] := by
      refine V_goto C tgt d35 (by omega) ?_
      rw [e1]
      exact kk A' b2 e4
    refine V_if_eq C (pc + 28) d21 (by omega) (fun z => ?_) (fun z => ?_)
    · have hB : B = false := by
        cases B with
        | false => rfl
        | true => rw [e3] at z; exact absurd z (by decide)
      subst hB
      refine V_lconst (v := 0) C d28 (by decide) ?_
      refine V_lcmp C d29 ?_
      refine V_topi (w := 0) (by rw [e2]; exact lg_cmp_s 0) ?_
      exact V_if_eq C (pc + 35) d30 (by omega) (fun _ => hend) (fun z => absurd rfl z)
    · have hB : B = true := by
        cases B with
        | true => rfl
        | false => rw [e3] at z; exact absurd rfl z
      subst hB
      refine V_lconst (v := 1) C d24 (by decide) ?_
      refine V_goto C (pc + 29) d25 (by omega) ?_
      refine V_lcmp C d29 ?_
      refine V_topi (w := 0) (by rw [e2]; exact lg_cmp_s 1) ?_
      exact V_if_eq C (pc + 35) d30 (by omega) (fun _ => hend) (fun z => absurd rfl z)
end LBD
