/-! ===== floats and doubles ===== -/
def g_nf (r : UInt32) : Option UInt32 := if r &&& 0x7fffffff ≤ 0x7f800000 then some r else none
def g_nd (r : UInt64) : Option UInt64 := if r &&& 0x7fffffffffffffff ≤ 0x7ff0000000000000 then some r else none
def g_nr (v : Int32) : Option Unit := if g_ref v = none then some () else none
def KF (P : GP) (y : MethodName) (cc : ByteArray) (maxL : Nat) (rm : Room) (As : List Value) (g : GM) (E : Option (GM × UInt32)) : Prop :=
  ∀ (l : Launch) (x : GE) (sz : Nat) (a : GM × UInt32), l.stackTraces = false → E = some a →
    Met l y (g_ws y cc maxL (some .float)) rm (va_Pc As (g_pre P g x sz)) (va_Qf (fun r (_ : Unit) => r = a.2) (fun _ => g_pw P a.1 x) (g_A P sz)) 0 0 (g_A P sz)
def KD (P : GP) (y : MethodName) (cc : ByteArray) (maxL : Nat) (rm : Room) (As : List Value) (g : GM) (E : Option (GM × UInt64)) : Prop :=
  ∀ (l : Launch) (x : GE) (sz : Nat) (a : GM × UInt64), l.stackTraces = false → E = some a →
    Met l y (g_ws y cc maxL (some .double)) rm (va_Pc As (g_pre P g x sz)) (va_Qd (fun r (_ : Unit) => r = a.2) (fun _ => g_pw P a.1 x) (g_A P sz)) 0 0 (g_A P sz)
def g_QF (P : GP) (X : GX) (x : GE) : GM × UInt32 → State → Prop := fun a => MQ X.2.2.2.2.2.2.2.1 (va_Qf (fun r (_ : Unit) => r = a.2) (fun _ => g_pw P a.1 x) X.2.2.2.2.2.2.2.2.2.2) X.2.2.2.2.2.2.1 X.2.2.2.2.1 0 0 X.2.2.2.2.2.2.2.2.2.2
def g_QD (P : GP) (X : GX) (x : GE) : GM × UInt64 → State → Prop := fun a => MQ X.2.2.2.2.2.2.2.1 (va_Qd (fun r (_ : Unit) => r = a.2) (fun _ => g_pw P a.1 x) X.2.2.2.2.2.2.2.2.2.2) X.2.2.2.2.2.2.1 X.2.2.2.2.1 0 0 X.2.2.2.2.2.2.2.2.2.2
def g_QFP (P : GP) (X : GX) (g : GM) (x : GE) : UInt32 → State → Prop := fun r => g_QF P X x (g, r)
def g_QDP (P : GP) (X : GX) (g : GM) (x : GE) : UInt64 → State → Prop := fun r => g_QD P X x (g, r)
theorem KF.ofW {P : GP} {y : MethodName} {cc : ByteArray} {maxL : Nat} {rm : Room} {As : List Value} {g : GM} {E : Option (GM × UInt32)} (hy : plainName y.cls = true) (hAs : g_c1 (As.map some) = true) (hn : As.length ≤ maxL)
    (h : ∀ (X : GX) (x : GE), GC P X y.cls cc maxL rm → X.2.2.2.2.2.2.2.2.1.sig.returnType = some .float → GR P X (g_QF P X x) 0 0 E 0 (g_L0 As maxL) [] g x) : KF P y cc maxL rm As g E := by
  intro l x sz a hst hE
  refine Met.ofW (cc := cc) (maxL := maxL) (ret := some .float) hy rfl ?_
  intro p e s m args below meth c s₁ B hml hv
  obtain ⟨rfl, hsz, hP, hK, hi, hG⟩ := hv
  have hts : ∀ w ∈ g_ws y cc maxL (some .float), w.before As.toArray s = true := atoms_spec (ws := g_ws y cc maxL (some .float)) B.pre
  have hl := lv_entry As (n := maxL) (by rw [g_sl_len As hAs]; exact hn)
  rw [lg_entry_eq]
  generalize (lg_sl As ++ List.replicate (maxL - (lg_sl As).length) Slot.unset).toArray = ls at hl ⊢
  subst hsz
  have hC : GC P (p, l, e, (headSpec (g_ws y cc maxL (some .float)) rm).room, s, m, As.toArray, below, meth, c, g_A P s.heap.size) y.cls cc maxL rm :=
    ⟨B.exec, B.bytes, hml, findClass_of_methodNamed B.named, fun w hw => hts w (List.mem_cons_of_mem _ hw), hK, B.notSynchronized, rfl, fun _ h => h, hi, hG, hst⟩
  have hl2 : g_lh ls c.maxLocals (g_L0 As maxL) := by
    rw [hml]
    unfold g_lh g_L0
    rw [← g_args_lp As 0 (maxL - As.length) hAs]
    exact hl
  exact h (p, l, e, (headSpec (g_ws y cc maxL (some .float)) rm).room, s, m, As.toArray, below, meth, c, g_A P s.heap.size) x hC B.returns a hE s.heap [] ls hl2 hP va_S.rf
theorem KD.ofW {P : GP} {y : MethodName} {cc : ByteArray} {maxL : Nat} {rm : Room} {As : List Value} {g : GM} {E : Option (GM × UInt64)} (hy : plainName y.cls = true) (hAs : g_c1 (As.map some) = true) (hn : As.length ≤ maxL)
    (h : ∀ (X : GX) (x : GE), GC P X y.cls cc maxL rm → X.2.2.2.2.2.2.2.2.1.sig.returnType = some .double → GR P X (g_QD P X x) 0 0 E 0 (g_L0 As maxL) [] g x) : KD P y cc maxL rm As g E := by
  intro l x sz a hst hE
  refine Met.ofW (cc := cc) (maxL := maxL) (ret := some .double) hy rfl ?_
  intro p e s m args below meth c s₁ B hml hv
  obtain ⟨rfl, hsz, hP, hK, hi, hG⟩ := hv
  have hts : ∀ w ∈ g_ws y cc maxL (some .double), w.before As.toArray s = true := atoms_spec (ws := g_ws y cc maxL (some .double)) B.pre
  have hl := lv_entry As (n := maxL) (by rw [g_sl_len As hAs]; exact hn)
  rw [lg_entry_eq]
  generalize (lg_sl As ++ List.replicate (maxL - (lg_sl As).length) Slot.unset).toArray = ls at hl ⊢
  subst hsz
  have hC : GC P (p, l, e, (headSpec (g_ws y cc maxL (some .double)) rm).room, s, m, As.toArray, below, meth, c, g_A P s.heap.size) y.cls cc maxL rm :=
    ⟨B.exec, B.bytes, hml, findClass_of_methodNamed B.named, fun w hw => hts w (List.mem_cons_of_mem _ hw), hK, B.notSynchronized, rfl, fun _ h => h, hi, hG, hst⟩
  have hl2 : g_lh ls c.maxLocals (g_L0 As maxL) := by
    rw [hml]
    unfold g_lh g_L0
    rw [← g_args_lp As 0 (maxL - As.length) hAs]
    exact hl
  exact h (p, l, e, (headSpec (g_ws y cc maxL (some .double)) rm).room, s, m, As.toArray, below, meth, c, g_A P s.heap.size) x hC B.returns a hE s.heap [] ls hl2 hP va_S.rf
theorem KF.ofWP {P : GP} {y : MethodName} {cc : ByteArray} {maxL : Nat} {rm : Room} {As : List Value} {g : GM} {E : Option UInt32} (hy : plainName y.cls = true) (hAs : g_c1 (As.map some) = true) (hn : As.length ≤ maxL)
    (h : ∀ (X : GX) (x : GE), GC P X y.cls cc maxL rm → X.2.2.2.2.2.2.2.2.1.sig.returnType = some .float → GR P X (g_QFP P X g x) 0 0 E 0 (g_L0 As maxL) [] g x) : KF P y cc maxL rm As g (E.map (fun r => (g, r))) := by
  refine KF.ofW hy hAs hn (fun X x hC hr a ha => ?_)
  cases E with
  | none => cases ha
  | some r => cases ha; exact h X x hC hr r rfl
theorem KD.ofWP {P : GP} {y : MethodName} {cc : ByteArray} {maxL : Nat} {rm : Room} {As : List Value} {g : GM} {E : Option UInt64} (hy : plainName y.cls = true) (hAs : g_c1 (As.map some) = true) (hn : As.length ≤ maxL)
    (h : ∀ (X : GX) (x : GE), GC P X y.cls cc maxL rm → X.2.2.2.2.2.2.2.2.1.sig.returnType = some .double → GR P X (g_QDP P X g x) 0 0 E 0 (g_L0 As maxL) [] g x) : KD P y cc maxL rm As g (E.map (fun r => (g, r))) := by
  refine KD.ofW hy hAs hn (fun X x hC hr a ha => ?_)
  cases E with
  | none => cases ha
  | some r => cases ha; exact h X x hC hr r rfl
/-- a double's place -/
theorem g_lh.put2 {ls : Array Slot} {n i : Nat} {L : List (Option Value)} {v : Value} {L' : List (Option Value)} (hL : L.set i (some v) = L') (hl : i < L.length) (h1 : L'[i + 1]? = some none) (h2 : L[i - 1]? = some none ∨ (g_c1 L = true)) (h : lv_has ls n ((i, v) :: (g_lp 0 L).filter (fun q => !(q.1 == i) && (!(q.1 == i + 1) && !(q.1 + 1 == i && q.2.category == 2))))) : g_lh ls n L' := by
  subst hL
  refine g_lh.sub h (fun j w hj => ?_)
  by_cases e : j = i
  · subst e
    rw [List.getElem?_set_self hl] at hj
    cases hj
    exact List.mem_cons_self
  · have hj1 : j ≠ i + 1 := by
      intro e2
      subst e2
      rw [h1] at hj
      cases hj
    have hj0 := hj
    rw [List.getElem?_set_ne (Ne.symm e)] at hj
    refine List.mem_cons_of_mem _ (List.mem_filter.mpr ⟨(g_lp_mem L 0 j w).mpr ⟨Nat.zero_le _, by simpa using hj⟩, ?_⟩)
    have h3 : ¬ (j + 1 = i ∧ w.category = 2) := by
      rintro ⟨e3, e4⟩
      rcases h2 with h2 | h2
      · rw [show i - 1 = j by omega, hj] at h2
        cases h2
      · have := g_c1_at h2 hj
        omega
    have h4 : (j + 1 == i && w.category == 2) = false := by
      cases hb : (j + 1 == i && w.category == 2) with
      | false => rfl
      | true =>
        simp only [Bool.and_eq_true, beq_iff_eq] at hb
        exact absurd hb h3
    simp [e, hj1, h4]
section GFL
variable {P : GP} {X : GX} {own : String} {cc : ByteArray} {nL : Nat} {R0 : Room} {α : Type} {Qf : α → State → Prop} {ce sl pc : Nat} {L : List (Option Value)} {st st0 : List Value} {g : GM} {x : GE} {E : Option α}
theorem GR_fconst0 (hC : GC P X own cc nL R0) (hd : decode cc pc = .ok (.fconst 0, 1)) (kk : GR P X Qf ce sl E (pc + 1) L (.float FP.fconst0 :: st) g x) : GR P X Qf ce sl E pc L st g x :=
  fun a ha H locs ls hl hP hS => lv_fconst0 hC.exec hC.bytes hd (kk a ha H locs ls hl hP hS)
theorem GR_dconst0 (hC : GC P X own cc nL R0) (hd : decode cc pc = .ok (.dconst 0, 1)) (kk : GR P X Qf ce sl E (pc + 1) L (.double FP.dconst0 :: st) g x) : GR P X Qf ce sl E pc L st g x :=
  fun a ha H locs ls hl hP hS => lv_dconst0 hC.exec hC.bytes hd (kk a ha H locs ls hl hP hS)
theorem GR_i2f (hC : GC P X own cc nL R0) {v : Int32} (hd : decode cc pc = .ok (.i2f, 1)) (kk : GR P X Qf ce sl E (pc + 1) L (.float (FP.i2f v) :: st) g x) : GR P X Qf ce sl E pc L (.int v :: st) g x :=
  fun a ha H locs ls hl hP hS => lv_i2f hC.exec hC.bytes hd (kk a ha H locs ls hl hP hS)
theorem GR_i2d (hC : GC P X own cc nL R0) {v : Int32} (hd : decode cc pc = .ok (.i2d, 1)) (kk : GR P X Qf ce sl E (pc + 1) L (.double (FP.i2d v) :: st) g x) : GR P X Qf ce sl E pc L (.int v :: st) g x :=
  fun a ha H locs ls hl hP hS => lv_i2d hC.exec hC.bytes hd (kk a ha H locs ls hl hP hS)
theorem GR_fdiv (hC : GC P X own cc nL R0) {v w : UInt32} {F : UInt32 → Option α} (hd : decode cc pc = .ok (.fdiv, 1)) (kk : ∀ r : UInt32, GR P X Qf ce sl (F r) (pc + 1) L (.float r :: st) g x) : GR P X Qf ce sl ((g_nf (FP.fdiv v w)).bind F) pc L (.float w :: .float v :: st) g x := by
  intro a ha H locs ls hl hP hS
  by_cases h : FP.fdiv v w &&& 0x7fffffff ≤ 0x7f800000
  · rw [g_nf, if_pos h] at ha
    exact lv_fdiv hC.exec hC.bytes hd h (kk _ a ha H locs ls hl hP hS)
  · rw [g_nf, if_neg h] at ha; cases ha
theorem GR_ddiv (hC : GC P X own cc nL R0) {v w : UInt64} {F : UInt64 → Option α} (hd : decode cc pc = .ok (.ddiv, 1)) (kk : ∀ r : UInt64, GR P X Qf ce sl (F r) (pc + 1) L (.double r :: st) g x) : GR P X Qf ce sl ((g_nd (FP.ddiv v w)).bind F) pc L (.double w :: .double v :: st) g x := by
  intro a ha H locs ls hl hP hS
  by_cases h : FP.ddiv v w &&& 0x7fffffffffffffff ≤ 0x7ff0000000000000
  · rw [g_nd, if_pos h] at ha
    exact lv_ddiv hC.exec hC.bytes hd h (kk _ a ha H locs ls hl hP hS)
  · rw [g_nd, if_neg h] at ha; cases ha
theorem GR_f2d (hC : GC P X own cc nL R0) {v : UInt32} {F : UInt64 → Option α} (hd : decode cc pc = .ok (.f2d, 1)) (kk : ∀ r : UInt64, GR P X Qf ce sl (F r) (pc + 1) L (.double r :: st) g x) : GR P X Qf ce sl ((g_nd (FP.f2d v)).bind F) pc L (.float v :: st) g x := by
  intro a ha H locs ls hl hP hS
  by_cases h : FP.f2d v &&& 0x7fffffffffffffff ≤ 0x7ff0000000000000
  · rw [g_nd, if_pos h] at ha
    exact lv_f2d hC.exec hC.bytes hd h (kk _ a ha H locs ls hl hP hS)
  · rw [g_nd, if_neg h] at ha; cases ha
theorem GR_f2dT (hC : GC P X own cc nL R0) {v : UInt32} (h : vf_n64 (FP.f2d v)) (hd : decode cc pc = .ok (.f2d, 1)) (kk : GR P X Qf ce sl E (pc + 1) L (.double (FP.f2d v) :: st) g x) : GR P X Qf ce sl E pc L (.float v :: st) g x :=
  fun a ha H locs ls hl hP hS => lv_f2d hC.exec hC.bytes hd h (kk a ha H locs ls hl hP hS)
theorem GR_dcmp (hC : GC P X own cc nL R0) {v w : UInt64} {op : CmpOp} (hd : decode cc pc = .ok (.dcmp op, 1)) (kk : GR P X Qf ce sl E (pc + 1) L (.int (Op.cmpValue (FP.dcmp v w) op) :: st) g x) : GR P X Qf ce sl E pc L (.double w :: .double v :: st) g x :=
  fun a ha H locs ls hl hP hS => lv_dcmp hC.exec hC.bytes hd (kk a ha H locs ls hl hP hS)
theorem GR_fload (hC : GC P X own cc nL R0) {i : Nat} {v : UInt32} (hd : decode cc pc = .ok (.fload i, 2)) (hl : L[i]? = some (some (.float v))) (kk : GR P X Qf ce sl E (pc + 2) L (.float v :: st) g x) : GR P X Qf ce sl E pc L st g x :=
  fun a ha H locs ls hl2 hP hS => lv_fload hC.exec hC.bytes hd (hl2.at hl) (kk a ha H locs ls hl2 hP hS)
theorem GR_dload (hC : GC P X own cc nL R0) {i : Nat} {v : UInt64} (hd : decode cc pc = .ok (.dload i, 2)) (hl : L[i]? = some (some (.double v))) (kk : GR P X Qf ce sl E (pc + 2) L (.double v :: st) g x) : GR P X Qf ce sl E pc L st g x :=
  fun a ha H locs ls hl2 hP hS => lv_dload hC.exec hC.bytes hd (hl2.at hl) (kk a ha H locs ls hl2 hP hS)
theorem GR_fstore (hC : GC P X own cc nL R0) {i : Nat} {v : UInt32} {L' : List (Option Value)} (hd : decode cc pc = .ok (.fstore i, 2)) (hn : i < nL) (hc : g_c1 L = true) (hL : L.set i (some (.float v)) = L') (kk : GR P X Qf ce sl E (pc + 2) L' st g x) : GR P X Qf ce sl E pc L (.float v :: st) g x :=
  fun a ha H locs ls hl hP hS => lv_fstore hC.exec hC.bytes hd hl (by rw [hC.maxL]; exact hn) rfl (fun ls' hl' => kk a ha H locs ls' (g_lh.put hc hL hl') hP hS)
theorem GR_dstore (hC : GC P X own cc nL R0) {i : Nat} {v : UInt64} {L' : List (Option Value)} (hd : decode cc pc = .ok (.dstore i, 2)) (hn : i + 1 < nL) (hL : L.set i (some (.double v)) = L') (h1 : L'[i + 1]? = some none) (hl0 : i < L.length) (h2 : L[i - 1]? = some none ∨ g_c1 L = true) (kk : GR P X Qf ce sl E (pc + 2) L' st g x) : GR P X Qf ce sl E pc L (.double v :: st) g x :=
  fun a ha H locs ls hl hP hS => lv_dstore hC.exec hC.bytes hd hl (by rw [hC.maxL]; exact hn) rfl (fun ls' hl' => kk a ha H locs ls' (g_lh.put2 hL hl0 h1 h2 hl') hP hS)
theorem GR_fret (hC : GC P X own cc nL R0) {v : UInt32} (hr : X.2.2.2.2.2.2.2.2.1.sig.returnType = some .float) (hd : decode cc pc = .ok (.freturn, 1)) : GR P X (g_QF P X x) 0 0 (some (g, v)) pc L [.float v] g x := by
  intro a ha H locs ls hl hP hS
  cases ha
  exact W.fret (v := v) hC.exec hC.bytes hr (fun t ht hW => ⟨⟨v, (), rfl, rfl, by show va_P _ _ _ t.heap; rw [ht]; exact hP⟩, hS.F ht⟩) hS.2.2 hd hC.locks
theorem GR_dret (hC : GC P X own cc nL R0) {v : UInt64} (hr : X.2.2.2.2.2.2.2.2.1.sig.returnType = some .double) (hd : decode cc pc = .ok (.dreturn, 1)) : GR P X (g_QD P X x) 0 0 (some (g, v)) pc L [.double v] g x := by
  intro a ha H locs ls hl hP hS
  cases ha
  exact W.dret (v := v) hC.exec hC.bytes hr (fun t ht hW => ⟨⟨v, (), rfl, rfl, by show va_P _ _ _ t.heap; rw [ht]; exact hP⟩, hS.F ht⟩) hS.2.2 hd hC.locks
theorem GR_fretP (hC : GC P X own cc nL R0) {v : UInt32} (hr : X.2.2.2.2.2.2.2.2.1.sig.returnType = some .float) (hd : decode cc pc = .ok (.freturn, 1)) : GR P X (g_QFP P X g x) 0 0 (some v) pc L [.float v] g x := by
  intro a ha
  cases ha
  exact GR_fret hC hr hd (g, v) rfl
theorem GR_dretP (hC : GC P X own cc nL R0) {v : UInt64} (hr : X.2.2.2.2.2.2.2.2.1.sig.returnType = some .double) (hd : decode cc pc = .ok (.dreturn, 1)) : GR P X (g_QDP P X g x) 0 0 (some v) pc L [.double v] g x := by
  intro a ha
  cases ha
  exact GR_dret hC hr hd (g, v) rfl
theorem GR_refuseN (hC : GC P X own cc nL R0) {i : Nat} {v : Int32} {F : Unit → Option α} (hl : Cond.methodLink own i yX10_refuse ∈ g_w) (hR : 1 ≤ R0.frames ∧ 20 ≤ R0.locals) (hcs : ce ≤ R0.cells ∧ sl ≤ R0.slots) (h8 : (st.map fun v => v.category).sum ≤ 8) (hd : decode cc pc = .ok (.invokestatic i, 3)) (kk : GR P X Qf ce sl (F ()) (pc + 3) L st g x) : GR P X Qf ce sl ((g_nr v).bind F) pc L (.int v :: st) g x := by
  by_cases h : g_ref v = none
  · rw [g_nr, if_pos h]
    exact GR.eq (E' := (some g).bind (fun _ => F ())) rfl (GR_callSV (As := [.int v]) (E0 := some g) (F := fun _ => F ()) hC (k_X10_refuse0 h) MY_X10_refuse MS_X10_refuse hl ⟨rfl, rfl⟩ ⟨hR.1, by have := hR.2; show 8 + (1 + 11) + 0 ≤ _; omega⟩ hcs rfl rfl h8 hd (fun g' e => by cases e; exact kk))
  · rw [g_nr, if_neg h]; exact GR.none
variable {y : MethodName} {cc' : ByteArray} {maxL n i : Nat} {rm : Room} {As : List Value}
theorem GR_callVF (hC : GC P X own cc nL R0) {o ci : Nat} {fs : List (Option (Option Nat))} {q : vw_C} {E0 : Option (GM × UInt32)} {F : GM × UInt32 → Option α} (hk : KF P y cc' maxL rm (gr P o :: As) g E0) (hm : g_MY y cc' maxL (some .float) n) (hin : Cond.instanceMethod y ∈ g_w ∧ Cond.selects y.cls y y ∈ g_w) (hl : Cond.methodLink own i y ∈ g_w) (hs : (g_sh P)[o]? = some (.inr (ci, fs))) (hq : g_cl[ci]? = some q) (hqc : q.1 = y.cls) (hr0 : rm.cells = 0 ∧ rm.slots = 0) (hR : rm.frames + 1 ≤ R0.frames ∧ 8 + (maxL + 11) + rm.locals ≤ R0.locals) (hcs : ce ≤ R0.cells ∧ sl ≤ R0.slots)
    (h0 : st0 = As.reverse ++ gr P o :: st) (hn : As.length = n) (h8 : (st.map fun v => v.category).sum ≤ 8) (hd : decode cc pc = .ok (.invokevirtual i, 3))
    (kk : ∀ (g' : GM) (r : UInt32), GR P X Qf ce sl (F (g', r)) (pc + 3) L (.float r :: st) g' x) : GR P X Qf ce sl (E0.bind F) pc L st0 g x := by
  intro a ha H locs ls hl2 hP hS
  cases hE : E0 with
  | none => rw [hE] at ha; cases ha
  | some b =>
    rw [hE] at ha
    subst h0
    refine va_callf (va_runV (C := y.cls) (g_fix hC) (hk X.2.1 x H.size b hC.2.2.2.2.2.2.2.2.2.2.2 hE) ⟨g_callB hC hm hl hr0 hR, hC.word hin.1, hC.word hin.2⟩ ⟨g_blind, hqc ▸ g_recv hC hP hs hq, g_give hC hP hS⟩ rfl hn (by rw [← hC.maxL]; exact hl2.1) rfl (by simpa using h8) hd (by rw [hC.room]; exact hcs)) hS (fun q _ h => hC.A q (g_A_mono hS.1 q h)) (fun q h => hC.A q (g_A_mono hS.1 q h)) (fun r u t H1 locs1 ht hvm hw hB hz1 hk1 hS1 => ?_)
    have hw' : r = b.2 := hw
    subst hw'
    have hP1 : va_P P.1 g_cl (g_wl P b.1 x) t.heap := hB
    rw [ht] at hP1
    exact kk b.1 b.2 a ha H1 locs1 ls hl2 hP1 hS1
theorem GR_callVFK (hC : GC P X own cc nL R0) {o ci : Nat} {fs : List (Option (Option Nat))} {q : vw_C} {E0 : Option (GM × UInt32)} {b : GM × UInt32} (hk : KF P y cc' maxL rm (gr P o :: As) g E0) (hE : E0 = some b) (hm : g_MY y cc' maxL (some .float) n) (hin : Cond.instanceMethod y ∈ g_w ∧ Cond.selects y.cls y y ∈ g_w) (hl : Cond.methodLink own i y ∈ g_w) (hs : (g_sh P)[o]? = some (.inr (ci, fs))) (hq : g_cl[ci]? = some q) (hqc : q.1 = y.cls) (hr0 : rm.cells = 0 ∧ rm.slots = 0) (hR : rm.frames + 1 ≤ R0.frames ∧ 8 + (maxL + 11) + rm.locals ≤ R0.locals) (hcs : ce ≤ R0.cells ∧ sl ≤ R0.slots)
    (h0 : st0 = As.reverse ++ gr P o :: st) (hn : As.length = n) (h8 : (st.map fun v => v.category).sum ≤ 8) (hd : decode cc pc = .ok (.invokevirtual i, 3))
    (kk : GR P X Qf ce sl E (pc + 3) L (.float b.2 :: st) b.1 x) : GR P X Qf ce sl E pc L st0 g x := by
  intro a ha H locs ls hl2 hP hS
  subst h0
  refine va_callf (va_runV (C := y.cls) (g_fix hC) (hk X.2.1 x H.size b hC.2.2.2.2.2.2.2.2.2.2.2 hE) ⟨g_callB hC hm hl hr0 hR, hC.word hin.1, hC.word hin.2⟩ ⟨g_blind, hqc ▸ g_recv hC hP hs hq, g_give hC hP hS⟩ rfl hn (by rw [← hC.maxL]; exact hl2.1) rfl (by simpa using h8) hd (by rw [hC.room]; exact hcs)) hS (fun q _ h => hC.A q (g_A_mono hS.1 q h)) (fun q h => hC.A q (g_A_mono hS.1 q h)) (fun r u t H1 locs1 ht hvm hw hB hz1 hk1 hS1 => ?_)
  have hw' : r = b.2 := hw
  subst hw'
  have hP1 : va_P P.1 g_cl (g_wl P b.1 x) t.heap := hB
  rw [ht] at hP1
  exact kk a ha H1 locs1 ls hl2 hP1 hS1
theorem GR_callVDK (hC : GC P X own cc nL R0) {o ci : Nat} {fs : List (Option (Option Nat))} {q : vw_C} {E0 : Option (GM × UInt64)} {b : GM × UInt64} (hk : KD P y cc' maxL rm (gr P o :: As) g E0) (hE : E0 = some b) (hm : g_MY y cc' maxL (some .double) n) (hin : Cond.instanceMethod y ∈ g_w ∧ Cond.selects y.cls y y ∈ g_w) (hl : Cond.methodLink own i y ∈ g_w) (hs : (g_sh P)[o]? = some (.inr (ci, fs))) (hq : g_cl[ci]? = some q) (hqc : q.1 = y.cls) (hr0 : rm.cells = 0 ∧ rm.slots = 0) (hR : rm.frames + 1 ≤ R0.frames ∧ 8 + (maxL + 11) + rm.locals ≤ R0.locals) (hcs : ce ≤ R0.cells ∧ sl ≤ R0.slots)
    (h0 : st0 = As.reverse ++ gr P o :: st) (hn : As.length = n) (h8 : (st.map fun v => v.category).sum ≤ 8) (hd : decode cc pc = .ok (.invokevirtual i, 3))
    (kk : GR P X Qf ce sl E (pc + 3) L (.double b.2 :: st) b.1 x) : GR P X Qf ce sl E pc L st0 g x := by
  intro a ha H locs ls hl2 hP hS
  subst h0
  refine va_calld (va_runV (C := y.cls) (g_fix hC) (hk X.2.1 x H.size b hC.2.2.2.2.2.2.2.2.2.2.2 hE) ⟨g_callB hC hm hl hr0 hR, hC.word hin.1, hC.word hin.2⟩ ⟨g_blind, hqc ▸ g_recv hC hP hs hq, g_give hC hP hS⟩ rfl hn (by rw [← hC.maxL]; exact hl2.1) rfl (by simpa using h8) hd (by rw [hC.room]; exact hcs)) hS (fun q _ h => hC.A q (g_A_mono hS.1 q h)) (fun q h => hC.A q (g_A_mono hS.1 q h)) (fun r u t H1 locs1 ht hvm hw hB hz1 hk1 hS1 => ?_)
  have hw' : r = b.2 := hw
  subst hw'
  have hP1 : va_P P.1 g_cl (g_wl P b.1 x) t.heap := hB
  rw [ht] at hP1
  exact kk a ha H1 locs1 ls hl2 hP1 hS1
end GFL
theorem MY_X1_pairs : g_MY yX1_pairs cX1_pairs 3 (some .int) 0 := ⟨g_w_mem (List.mem_of_getElem? (i := 688) (by decide +kernel)) (by decide +kernel), g_w_mem (List.mem_of_getElem? (i := 101) (by decide +kernel)) (by decide +kernel), by decide +kernel, by decide +kernel, by decide +kernel⟩
theorem MI_X1_pairs : Cond.instanceMethod yX1_pairs ∈ g_w ∧ Cond.selects yX1_pairs.cls yX1_pairs yX1_pairs ∈ g_w := ⟨g_w_mem (List.mem_of_getElem? (i := 686) (by decide +kernel)) (by decide +kernel), g_w_mem (List.mem_of_getElem? (i := 687) (by decide +kernel)) (by decide +kernel)⟩
theorem ML_RX10_278 : Cond.methodLink RX10 278 yX9_heldUnits ∈ g_w := g_w_mem (List.mem_of_getElem? (i := 1159) (by decide +kernel)) (by decide +kernel)
theorem ML_RX10_281 : Cond.methodLink RX10 281 yX1_pairs ∈ g_w := g_w_mem (List.mem_of_getElem? (i := 685) (by decide +kernel)) (by decide +kernel)
def f_X10_utilization (g : GM) (p1 : Int32) : Option (UInt32) :=
  (f_X2_ofPasture g 12 p1).bind fun v1 =>
  (g_nr v1).bind fun _ =>
  (g_rd g 19 5 p1).bind fun v2 =>
  if v2 = 0 then
    some FP.fconst0
  else
    (f_X9_heldUnits g 12 p1).bind fun v3 =>
    (g_nf (FP.fdiv (FP.i2f v3) (FP.i2f v2))).bind fun v4 =>
    some v4
set_option maxRecDepth 20000 in
set_option maxHeartbeats 2000000 in
theorem k_X10_utilization {P : GP} {p1 : Int32}{g : GM} (hf : g_on P 166) : KF P yX10_utilization cX10_utilization 3 ⟨7, 0, 0, 120⟩ [gr P 0, .int p1] g ((f_X10_utilization g p1).map (fun r => (g, r))) := by
  refine KF.ofWP (by decide) rfl (Nat.le_of_ble_eq_true rfl) (fun X x hC hr => ?_)
  unfold f_X10_utilization
  change GR P X (g_QFP P X g x) 0 0 _ 0 [some (gr P 0), some (.int p1), none] [] g x
  refine GR_aload_n (pc := 0) hC dX10_utilization_0 rfl rfl ?_
  refine GR_getR (pc := 1) (r := 12) hC F_RX10_45 (sh_0 hf) rfl dX10_utilization_1 ?_
  refine GR_iload_n (pc := 4) hC dX10_utilization_4 rfl rfl ?_
  refine GR_callSP (pc := 5) (As := [gr P 12, .int p1]) hC (k_X2_ofPasture hf (g_S_12 hf)) MY_X2_ofPasture MS_X2_ofPasture ML_RX10_123 ⟨rfl, rfl⟩ ⟨by decide, by decide⟩ ⟨by decide, by decide⟩ rfl rfl (Nat.le_of_ble_eq_true rfl) dX10_utilization_5 (fun v1 _ => ?_)
  refine GR_refuseN (pc := 8) hC ML_RX10_129 ⟨by decide, by decide⟩ ⟨by decide, by decide⟩ (Nat.le_of_ble_eq_true rfl) dX10_utilization_8 ?_
  refine GR_aload_n (pc := 11) hC dX10_utilization_11 rfl rfl ?_
  refine GR_getR (pc := 12) (r := 12) hC F_RX10_45 (sh_0 hf) rfl dX10_utilization_12 ?_
  refine GR_getR (pc := 15) (r := 19) hC F_RX10_132 (sh_12 hf) rfl dX10_utilization_15 ?_
  refine GR_iload_n (pc := 18) hC dX10_utilization_18 rfl rfl ?_
  refine GR_iald (pc := 19) hC (sh_19 hf) dX10_utilization_19 (fun v2 _ => ?_)
  refine GR_istore_n (pc := 20) (L' := [some (gr P 0), some (.int p1), some (.int v2)]) hC dX10_utilization_20 rfl (by decide) rfl rfl ?_
  refine GR_iload_n (pc := 21) hC dX10_utilization_21 rfl rfl ?_
  refine GR_if_ne (pc := 22) (tgt := 29) hC dX10_utilization_22 (by decide) ?_ ?_
  · refine GR_aload_n (pc := 29) hC dX10_utilization_29 rfl rfl ?_
    refine GR_getR (pc := 30) (r := 12) hC F_RX10_45 (sh_0 hf) rfl dX10_utilization_30 ?_
    refine GR_iload_n (pc := 33) hC dX10_utilization_33 rfl rfl ?_
    refine GR_callVP (pc := 34) (As := [.int p1]) hC (k_X9_heldUnits hf (g_S_12 hf)) MY_X9_heldUnits MI_X9_heldUnits ML_RX10_278 (sh_12 hf) rfl rfl ⟨rfl, rfl⟩ ⟨by decide, by decide⟩ ⟨by decide, by decide⟩ rfl rfl (Nat.le_of_ble_eq_true rfl) dX10_utilization_34 (fun v3 _ => ?_)
    refine GR_i2f (pc := 37) hC dX10_utilization_37 ?_
    refine GR_iload_n (pc := 38) hC dX10_utilization_38 rfl rfl ?_
    refine GR_i2f (pc := 39) hC dX10_utilization_39 ?_
    refine GR_fdiv (pc := 40) hC dX10_utilization_40 (fun v4 => ?_)
    exact GR_fretP (pc := 41) hC hr dX10_utilization_41
  · refine GR_fconst0 (pc := 25) hC dX10_utilization_25 ?_
    refine GR_goto (pc := 26) (tgt := 41) hC dX10_utilization_26 (by decide) ?_
    exact GR_fretP (pc := 41) hC hr dX10_utilization_41
def f_X10_meanDebt (g : GM) : Option (UInt64) :=
  (f_X1_pairs g 25).bind fun v1 =>
  (f_X1_sumBetween g 25 255 255).bind fun v2 =>
  if v1 = 0 then
    some FP.dconst0
  else
    (g_nd (FP.ddiv (FP.i2d v2) (FP.i2d v1))).bind fun v3 =>
    some v3
set_option maxRecDepth 20000 in
set_option maxHeartbeats 2000000 in
theorem k_X10_meanDebt {P : GP}{g : GM} (hf : g_on P 166) : KD P yX10_meanDebt cX10_meanDebt 3 ⟨2, 0, 0, 47⟩ [gr P 0] g ((f_X10_meanDebt g).map (fun r => (g, r))) := by
  refine KD.ofWP (by decide) rfl (Nat.le_of_ble_eq_true rfl) (fun X x hC hr => ?_)
  unfold f_X10_meanDebt
  change GR P X (g_QDP P X g x) 0 0 _ 0 [some (gr P 0), none, none] [] g x
  refine GR_aload_n (pc := 0) hC dX10_meanDebt_0 rfl rfl ?_
  refine GR_getR (pc := 1) (r := 12) hC F_RX10_45 (sh_0 hf) rfl dX10_meanDebt_1 ?_
  refine GR_getR (pc := 4) (r := 25) hC F_RX10_242 (sh_12 hf) rfl dX10_meanDebt_4 ?_
  refine GR_callVP (pc := 7) (As := []) hC (k_X1_pairs hf (g_Db_25 hf)) MY_X1_pairs MI_X1_pairs ML_RX10_281 (sh_25 hf) rfl rfl ⟨rfl, rfl⟩ ⟨by decide, by decide⟩ ⟨by decide, by decide⟩ rfl rfl (Nat.le_of_ble_eq_true rfl) dX10_meanDebt_7 (fun v1 _ => ?_)
  refine GR_istore_n (pc := 10) (L' := [some (gr P 0), some (.int v1), none]) hC dX10_meanDebt_10 rfl (by decide) rfl rfl ?_
  refine GR_aload_n (pc := 11) hC dX10_meanDebt_11 rfl rfl ?_
  refine GR_getR (pc := 12) (r := 12) hC F_RX10_45 (sh_0 hf) rfl dX10_meanDebt_12 ?_
  refine GR_getR (pc := 15) (r := 25) hC F_RX10_242 (sh_12 hf) rfl dX10_meanDebt_15 ?_
  refine GR_sipush (pc := 18) (v := 255) hC dX10_meanDebt_18 rfl ?_
  refine GR_sipush (pc := 21) (v := 255) hC dX10_meanDebt_21 rfl ?_
  refine GR_callVP (pc := 24) (As := [.int 255, .int 255]) hC (k_X1_sumBetween hf (g_Db_25 hf)) MY_X1_sumBetween MI_X1_sumBetween ML_RX10_251 (sh_25 hf) rfl rfl ⟨rfl, rfl⟩ ⟨by decide, by decide⟩ ⟨by decide, by decide⟩ rfl rfl (Nat.le_of_ble_eq_true rfl) dX10_meanDebt_24 (fun v2 _ => ?_)
  refine GR_istore_n (pc := 27) (L' := [some (gr P 0), some (.int v1), some (.int v2)]) hC dX10_meanDebt_27 rfl (by decide) rfl rfl ?_
  refine GR_iload_n (pc := 28) hC dX10_meanDebt_28 rfl rfl ?_
  refine GR_if_ne (pc := 29) (tgt := 36) hC dX10_meanDebt_29 (by decide) ?_ ?_
  · refine GR_iload_n (pc := 36) hC dX10_meanDebt_36 rfl rfl ?_
    refine GR_i2d (pc := 37) hC dX10_meanDebt_37 ?_
    refine GR_iload_n (pc := 38) hC dX10_meanDebt_38 rfl rfl ?_
    refine GR_i2d (pc := 39) hC dX10_meanDebt_39 ?_
    refine GR_ddiv (pc := 40) hC dX10_meanDebt_40 (fun v3 => ?_)
    exact GR_dretP (pc := 41) hC hr dX10_meanDebt_41
  · refine GR_dconst0 (pc := 32) hC dX10_meanDebt_32 ?_
    refine GR_goto (pc := 33) (tgt := 41) hC dX10_meanDebt_33 (by decide) ?_
    exact GR_dretP (pc := 41) hC hr dX10_meanDebt_41
def fJ_X11_utilization_14 (g : GM) (x1 : Int32) (t0 : Int32) : Option (GM × UInt32) :=
  (f_X11_fails g t0 0 0).bind fun (⟨g3, v2⟩ : GM × Int32) =>
  if v2 = 0 then
    (f_X11_capacityOf g3 x1).bind fun v4 =>
    if v4 = 0 then
      some (g3, FP.fconst0)
    else
      (f_X11_allocated g3 x1).bind fun v5 =>
      (f_X11_capacityOf g3 x1).bind fun v6 =>
      (g_nf (FP.fdiv (FP.i2f v5) (FP.i2f v6))).bind fun v7 =>
      some (g3, v7)
  else
    some (g3, FP.fconst0)
def f_X11_utilization (g : GM) (p1 : Int32) : Option (GM × UInt32) :=
  (f_X11_isPasture g p1).bind fun v1 =>
  if v1 = 0 then
    fJ_X11_utilization_14 g p1 1
  else
    fJ_X11_utilization_14 g p1 0
set_option maxRecDepth 20000 in
set_option maxHeartbeats 2000000 in
theorem lfJ_X11_utilization_14 {P : GP} {X : GX} {x : GE} (hC : GC P X RX11 cX11_utilization 2 ⟨2, 0, 0, 45⟩) (hf : g_on P 177) (hr : X.2.2.2.2.2.2.2.2.1.sig.returnType = some .float) (g : GM) (x1 : Int32) (t0 : Int32) : GR P X (g_QF P X x) 0 0 (fJ_X11_utilization_14 g x1 t0) 14 [some (gr P 166), some (.int x1)] [.int t0, gr P 166] g x := by
  unfold fJ_X11_utilization_14
  refine GR_iconst (pc := 14) (v := 0) hC dX11_utilization_14 rfl ?_
  refine GR_iconst (pc := 15) (v := 0) hC dX11_utilization_15 rfl ?_
  refine GR_callVI (pc := 16) (As := [.int t0, .int 0, .int 0]) hC (k_X11_fails hf) MY_X11_fails MI_X11_fails ML_RX11_172 (sh_166 hf) rfl rfl ⟨rfl, rfl⟩ ⟨by decide, by decide⟩ ⟨by decide, by decide⟩ rfl rfl (Nat.le_of_ble_eq_true rfl) dX11_utilization_16 (fun g3 v2 _ => ?_)
  refine GR_if_eq (pc := 19) (tgt := 24) hC dX11_utilization_19 (by decide) ?_ ?_
  · refine GR_aload_n (pc := 24) hC dX11_utilization_24 rfl rfl ?_
    refine GR_iload_n (pc := 25) hC dX11_utilization_25 rfl rfl ?_
    refine GR_callVP (pc := 26) (As := [.int x1]) hC (k_X11_capacityOf hf) MY_X11_capacityOf MI_X11_capacityOf ML_RX11_109 (sh_166 hf) rfl rfl ⟨rfl, rfl⟩ ⟨by decide, by decide⟩ ⟨by decide, by decide⟩ rfl rfl (Nat.le_of_ble_eq_true rfl) dX11_utilization_26 (fun v4 _ => ?_)
    refine GR_if_ne (pc := 29) (tgt := 36) hC dX11_utilization_29 (by decide) ?_ ?_
    · refine GR_aload_n (pc := 36) hC dX11_utilization_36 rfl rfl ?_
      refine GR_iload_n (pc := 37) hC dX11_utilization_37 rfl rfl ?_
      refine GR_callVP (pc := 38) (As := [.int x1]) hC (k_X11_allocated hf) MY_X11_allocated MI_X11_allocated ML_RX11_113 (sh_166 hf) rfl rfl ⟨rfl, rfl⟩ ⟨by decide, by decide⟩ ⟨by decide, by decide⟩ rfl rfl (Nat.le_of_ble_eq_true rfl) dX11_utilization_38 (fun v5 _ => ?_)
      refine GR_i2f (pc := 41) hC dX11_utilization_41 ?_
      refine GR_aload_n (pc := 42) hC dX11_utilization_42 rfl rfl ?_
      refine GR_iload_n (pc := 43) hC dX11_utilization_43 rfl rfl ?_
      refine GR_callVP (pc := 44) (As := [.int x1]) hC (k_X11_capacityOf hf) MY_X11_capacityOf MI_X11_capacityOf ML_RX11_109 (sh_166 hf) rfl rfl ⟨rfl, rfl⟩ ⟨by decide, by decide⟩ ⟨by decide, by decide⟩ rfl rfl (Nat.le_of_ble_eq_true rfl) dX11_utilization_44 (fun v6 _ => ?_)
      refine GR_i2f (pc := 47) hC dX11_utilization_47 ?_
      refine GR_fdiv (pc := 48) hC dX11_utilization_48 (fun v7 => ?_)
      exact GR_fret (pc := 49) hC hr dX11_utilization_49
    · refine GR_fconst0 (pc := 32) hC dX11_utilization_32 ?_
      refine GR_goto (pc := 33) (tgt := 49) hC dX11_utilization_33 (by decide) ?_
      exact GR_fret (pc := 49) hC hr dX11_utilization_49
  · refine GR_fconst0 (pc := 22) hC dX11_utilization_22 ?_
    exact GR_fret (pc := 23) hC hr dX11_utilization_23
set_option maxRecDepth 20000 in
set_option maxHeartbeats 2000000 in
theorem k_X11_utilization {P : GP} {p1 : Int32}{g : GM} (hf : g_on P 177) : KF P yX11_utilization cX11_utilization 2 ⟨2, 0, 0, 45⟩ [gr P 166, .int p1] g (f_X11_utilization g p1) := by
  refine KF.ofW (by decide) rfl (Nat.le_of_ble_eq_true rfl) (fun X x hC hr => ?_)
  unfold f_X11_utilization
  change GR P X (g_QF P X x) 0 0 _ 0 [some (gr P 166), some (.int p1)] [] g x
  refine GR_aload_n (pc := 0) hC dX11_utilization_0 rfl rfl ?_
  refine GR_aload_n (pc := 1) hC dX11_utilization_1 rfl rfl ?_
  refine GR_iload_n (pc := 2) hC dX11_utilization_2 rfl rfl ?_
  refine GR_callVP (pc := 3) (As := [.int p1]) hC (k_X11_isPasture hf) MY_X11_isPasture MI_X11_isPasture ML_RX11_98 (sh_166 hf) rfl rfl ⟨rfl, rfl⟩ ⟨by decide, by decide⟩ ⟨by decide, by decide⟩ rfl rfl (Nat.le_of_ble_eq_true rfl) dX11_utilization_3 (fun v1 _ => ?_)
  refine GR_if_ne (pc := 6) (tgt := 13) hC dX11_utilization_6 (by decide) ?_ ?_
  · refine GR_iconst (pc := 13) (v := 0) hC dX11_utilization_13 rfl ?_
    exact GR.less (lfJ_X11_utilization_14 hC hf hr _ _ _) (g_le_at (And.intro rfl (And.intro rfl trivial)))
  · refine GR_iconst (pc := 9) (v := 1) hC dX11_utilization_9 rfl ?_
    refine GR_goto (pc := 10) (tgt := 14) hC dX11_utilization_10 (by decide) ?_
    exact GR.less (lfJ_X11_utilization_14 hC hf hr _ _ _) (g_le_at (And.intro rfl (And.intro rfl trivial)))
def fJ_X11_meanDebt_61 (kc : GM → Int32 → Int32 → Int32 → Int32 → Option (GM × UInt64)) (kb : GM → Int32 → Int32 → Int32 → Option (GM × UInt64)) (g : GM) (x1 : Int32) (x3 : Int32) (x4 : Int32) (t0 : Int32) (t1 : Int32) : Option (GM × UInt64) :=
  kc g x1 (t1 + t0) x3 (x4 + 1)
def fL_X11_meanDebt_24 (kb : GM → Int32 → Int32 → Int32 → Option (GM × UInt64)) : Nat → GM → Int32 → Int32 → Int32 → Int32 → Option (GM × UInt64)
  | 0, _, _, _, _, _ => none
  | n + 1, g, x1, x2, x3, x4 =>
    (g_rd g 167 2992 1).bind fun v3 =>
    if v3 ≤ x4 then
      kb g x1 x2 x3
    else
      (f_X11_debtOf g x3 x4).bind fun v4 =>
      (f_X11_debtOf g x3 x4).bind fun v5 =>
      if v5 ≤ 0 then
        fJ_X11_meanDebt_61 (fL_X11_meanDebt_24 kb n) kb g (x1 + v4) x3 x4 0 x2
      else
        fJ_X11_meanDebt_61 (fL_X11_meanDebt_24 kb n) kb g (x1 + v4) x3 x4 1 x2
def fL_X11_meanDebt_11 (kb : GM → Int32 → Int32 → Option (GM × UInt64)) : Nat → GM → Int32 → Int32 → Int32 → Option (GM × UInt64)
  | 0, _, _, _, _ => none
  | n + 1, g, x1, x2, x3 =>
    (g_rd g 167 2992 1).bind fun v2 =>
    if v2 ≤ x3 then
      kb g x1 x2
    else
      fL_X11_meanDebt_24 (fun g x1 x2 x3 =>
        fL_X11_meanDebt_11 kb n g x1 x2 (x3 + 1)) fu g x1 x2 x3 0
def f_X11_meanDebt (g : GM) : Option (GM × UInt64) :=
  (some (g_st g 166 9 0)).bind fun g1 =>
  fL_X11_meanDebt_11 (fun g x1 x2 =>
    if x2 = 0 then
      some (g, FP.dconst0)
    else
      (g_nd (FP.ddiv (FP.i2d x1) (FP.i2d x2))).bind fun v6 =>
      some (g, v6)) fu g1 0 0 0
set_option maxRecDepth 20000 in
set_option maxHeartbeats 2000000 in
theorem lfJ_X11_meanDebt_61 {P : GP} {X : GX} {x : GE} (hC : GC P X RX11 cX11_meanDebt 5 ⟨1, 0, 0, 22⟩) (hf : g_on P 177) (hr : X.2.2.2.2.2.2.2.2.1.sig.returnType = some .double) {kc : GM → Int32 → Int32 → Int32 → Int32 → Option (GM × UInt64)} {kb : GM → Int32 → Int32 → Int32 → Option (GM × UInt64)} (hkc : ∀ (g : GM) (x1 : Int32) (x2 : Int32) (x3 : Int32) (x4 : Int32), GR P X (g_QD P X x) 0 0 (kc g x1 x2 x3 x4) 24 [some (gr P 166), some (.int x1), some (.int x2), some (.int x3), some (.int x4)] [] g x) (hkb : ∀ (g : GM) (x1 : Int32) (x2 : Int32) (x3 : Int32), GR P X (g_QD P X x) 0 0 (kb g x1 x2 x3) 69 [some (gr P 166), some (.int x1), some (.int x2), some (.int x3), none] [] g x) (g : GM) (x1 : Int32) (x3 : Int32) (x4 : Int32) (t0 : Int32) (t1 : Int32) : GR P X (g_QD P X x) 0 0 (fJ_X11_meanDebt_61 kc kb g x1 x3 x4 t0 t1) 61 [some (gr P 166), some (.int x1), none, some (.int x3), some (.int x4)] [.int t0, .int t1] g x := by
  unfold fJ_X11_meanDebt_61
  refine GR_iadd (pc := 61) hC dX11_meanDebt_61 ?_
  refine GR_istore_n (pc := 62) (L' := [some (gr P 166), some (.int x1), some (.int (t1 + t0)), some (.int x3), some (.int x4)]) hC dX11_meanDebt_62 rfl (by decide) rfl rfl ?_
  refine GR_iinc (pc := 63) (w := 1) (L' := [some (gr P 166), some (.int x1), some (.int (t1 + t0)), some (.int x3), some (.int (x4 + 1))]) hC dX11_meanDebt_63 rfl rfl (by decide) rfl rfl ?_
  refine GR_goto (pc := 66) (tgt := 24) hC dX11_meanDebt_66 (by decide) ?_
  exact GR.less (hkc _ _ _ _ _) (g_le_at (And.intro rfl (And.intro rfl (And.intro rfl (And.intro rfl (And.intro rfl trivial))))))
set_option maxRecDepth 20000 in
set_option maxHeartbeats 2000000 in
theorem lfL_X11_meanDebt_24 {P : GP} {X : GX} {x : GE} (hC : GC P X RX11 cX11_meanDebt 5 ⟨1, 0, 0, 22⟩) (hf : g_on P 177) (hr : X.2.2.2.2.2.2.2.2.1.sig.returnType = some .double) {kb : GM → Int32 → Int32 → Int32 → Option (GM × UInt64)} (hkb : ∀ (g : GM) (x1 : Int32) (x2 : Int32) (x3 : Int32), GR P X (g_QD P X x) 0 0 (kb g x1 x2 x3) 69 [some (gr P 166), some (.int x1), some (.int x2), some (.int x3), none] [] g x) : ∀ (n : Nat) (g : GM) (x1 : Int32) (x2 : Int32) (x3 : Int32) (x4 : Int32), GR P X (g_QD P X x) 0 0 (fL_X11_meanDebt_24 kb n g x1 x2 x3 x4) 24 [some (gr P 166), some (.int x1), some (.int x2), some (.int x3), some (.int x4)] [] g x := by
  intro n
  induction n with
  | zero => intros; exact GR.none
  | succ n ih =>
    intro g x1 x2 x3 x4
    rw [fL_X11_meanDebt_24]
    refine GR_iload (pc := 24) hC dX11_meanDebt_24 rfl ?_
    refine GR_aload_n (pc := 26) hC dX11_meanDebt_26 rfl rfl ?_
    refine GR_getR (pc := 27) (r := 167) hC F_RX11_13 (sh_166 hf) rfl dX11_meanDebt_27 ?_
    refine GR_iconst (pc := 30) (v := 1) hC dX11_meanDebt_30 rfl ?_
    refine GR_iald (pc := 31) hC (sh_167 hf) dX11_meanDebt_31 (fun v3 _ => ?_)
    refine GR_icmp_ge (pc := 32) (tgt := 69) hC dX11_meanDebt_32 (by decide) ?_ ?_
    · exact GR.less (hkb _ _ _ _) (g_le_at (And.intro rfl (And.intro rfl (And.intro rfl (And.intro rfl trivial)))))
    · refine GR_iload_n (pc := 35) hC dX11_meanDebt_35 rfl rfl ?_
      refine GR_aload_n (pc := 36) hC dX11_meanDebt_36 rfl rfl ?_
      refine GR_iload_n (pc := 37) hC dX11_meanDebt_37 rfl rfl ?_
      refine GR_iload (pc := 38) hC dX11_meanDebt_38 rfl ?_
      refine GR_callVP (pc := 40) (As := [.int x3, .int x4]) hC (k_X11_debtOf hf) MY_X11_debtOf MI_X11_debtOf ML_RX11_163 (sh_166 hf) rfl rfl ⟨rfl, rfl⟩ ⟨by decide, by decide⟩ ⟨by decide, by decide⟩ rfl rfl (Nat.le_of_ble_eq_true rfl) dX11_meanDebt_40 (fun v4 _ => ?_)
      refine GR_iadd (pc := 43) hC dX11_meanDebt_43 ?_
      refine GR_istore_n (pc := 44) (L' := [some (gr P 166), some (.int (x1 + v4)), some (.int x2), some (.int x3), some (.int x4)]) hC dX11_meanDebt_44 rfl (by decide) rfl rfl ?_
      refine GR_iload_n (pc := 45) hC dX11_meanDebt_45 rfl rfl ?_
      refine GR_aload_n (pc := 46) hC dX11_meanDebt_46 rfl rfl ?_
      refine GR_iload_n (pc := 47) hC dX11_meanDebt_47 rfl rfl ?_
      refine GR_iload (pc := 48) hC dX11_meanDebt_48 rfl ?_
      refine GR_callVP (pc := 50) (As := [.int x3, .int x4]) hC (k_X11_debtOf hf) MY_X11_debtOf MI_X11_debtOf ML_RX11_163 (sh_166 hf) rfl rfl ⟨rfl, rfl⟩ ⟨by decide, by decide⟩ ⟨by decide, by decide⟩ rfl rfl (Nat.le_of_ble_eq_true rfl) dX11_meanDebt_50 (fun v5 _ => ?_)
      refine GR_if_le (pc := 53) (tgt := 60) hC dX11_meanDebt_53 (by decide) ?_ ?_
      · refine GR_iconst (pc := 60) (v := 0) hC dX11_meanDebt_60 rfl ?_
        exact GR.less (lfJ_X11_meanDebt_61 hC hf hr ih hkb _ _ _ _ _ _) (g_le_at (And.intro rfl (And.intro rfl (And.intro rfl (And.intro rfl trivial)))))
      · refine GR_iconst (pc := 56) (v := 1) hC dX11_meanDebt_56 rfl ?_
        refine GR_goto (pc := 57) (tgt := 61) hC dX11_meanDebt_57 (by decide) ?_
        exact GR.less (lfJ_X11_meanDebt_61 hC hf hr ih hkb _ _ _ _ _ _) (g_le_at (And.intro rfl (And.intro rfl (And.intro rfl (And.intro rfl trivial)))))
set_option maxRecDepth 20000 in
set_option maxHeartbeats 2000000 in
theorem lfL_X11_meanDebt_11 {P : GP} {X : GX} {x : GE} (hC : GC P X RX11 cX11_meanDebt 5 ⟨1, 0, 0, 22⟩) (hf : g_on P 177) (hr : X.2.2.2.2.2.2.2.2.1.sig.returnType = some .double) {kb : GM → Int32 → Int32 → Option (GM × UInt64)} (hkb : ∀ (g : GM) (x1 : Int32) (x2 : Int32), GR P X (g_QD P X x) 0 0 (kb g x1 x2) 75 [none, some (.int x1), some (.int x2), none, none] [] g x) : ∀ (n : Nat) (g : GM) (x1 : Int32) (x2 : Int32) (x3 : Int32), GR P X (g_QD P X x) 0 0 (fL_X11_meanDebt_11 kb n g x1 x2 x3) 11 [some (gr P 166), some (.int x1), some (.int x2), some (.int x3), none] [] g x := by
  intro n
  induction n with
  | zero => intros; exact GR.none
  | succ n ih =>
    intro g x1 x2 x3
    rw [fL_X11_meanDebt_11]
    refine GR_iload_n (pc := 11) hC dX11_meanDebt_11 rfl rfl ?_
    refine GR_aload_n (pc := 12) hC dX11_meanDebt_12 rfl rfl ?_
    refine GR_getR (pc := 13) (r := 167) hC F_RX11_13 (sh_166 hf) rfl dX11_meanDebt_13 ?_
    refine GR_iconst (pc := 16) (v := 1) hC dX11_meanDebt_16 rfl ?_
    refine GR_iald (pc := 17) hC (sh_167 hf) dX11_meanDebt_17 (fun v2 _ => ?_)
    refine GR_icmp_ge (pc := 18) (tgt := 75) hC dX11_meanDebt_18 (by decide) ?_ ?_
    · exact GR.less (hkb _ _ _) (g_le_at (And.intro rfl (And.intro rfl trivial)))
    · refine GR_iconst (pc := 21) (v := 0) hC dX11_meanDebt_21 rfl ?_
      refine GR_istore (pc := 22) (L' := [some (gr P 166), some (.int x1), some (.int x2), some (.int x3), some (.int 0)]) hC dX11_meanDebt_22 (by decide) rfl rfl ?_
      refine GR.less (lfL_X11_meanDebt_24 hC hf hr ?_ fu _ _ _ _ _) (g_le_at (And.intro rfl (And.intro rfl (And.intro rfl (And.intro rfl (And.intro rfl trivial))))))
      intro g x1 x2 x3
      refine GR_iinc (pc := 69) (w := 1) (L' := [some (gr P 166), some (.int x1), some (.int x2), some (.int (x3 + 1)), none]) hC dX11_meanDebt_69 rfl rfl (by decide) rfl rfl ?_
      refine GR_goto (pc := 72) (tgt := 11) hC dX11_meanDebt_72 (by decide) ?_
      exact GR.less (ih _ _ _ _) (g_le_at (And.intro rfl (And.intro rfl (And.intro rfl (And.intro rfl trivial)))))
set_option maxRecDepth 20000 in
set_option maxHeartbeats 2000000 in
theorem k_X11_meanDebt {P : GP}{g : GM} (hf : g_on P 177) : KD P yX11_meanDebt cX11_meanDebt 5 ⟨1, 0, 0, 22⟩ [gr P 166] g (f_X11_meanDebt g) := by
  refine KD.ofW (by decide) rfl (Nat.le_of_ble_eq_true rfl) (fun X x hC hr => ?_)
  unfold f_X11_meanDebt
  change GR P X (g_QD P X x) 0 0 _ 0 [some (gr P 166), none, none, none, none] [] g x
  refine GR_aload_n (pc := 0) hC dX11_meanDebt_0 rfl rfl ?_
  refine GR_iconst (pc := 1) (v := 0) hC dX11_meanDebt_1 rfl ?_
  refine GR_putI (pc := 2) hC FW_RX11_1 (sh_166 hf) rfl dX11_meanDebt_2 (fun g1 _ => ?_)
  refine GR_iconst (pc := 5) (v := 0) hC dX11_meanDebt_5 rfl ?_
  refine GR_istore_n (pc := 6) (L' := [some (gr P 166), some (.int 0), none, none, none]) hC dX11_meanDebt_6 rfl (by decide) rfl rfl ?_
  refine GR_iconst (pc := 7) (v := 0) hC dX11_meanDebt_7 rfl ?_
  refine GR_istore_n (pc := 8) (L' := [some (gr P 166), some (.int 0), some (.int 0), none, none]) hC dX11_meanDebt_8 rfl (by decide) rfl rfl ?_
  refine GR_iconst (pc := 9) (v := 0) hC dX11_meanDebt_9 rfl ?_
  refine GR_istore_n (pc := 10) (L' := [some (gr P 166), some (.int 0), some (.int 0), some (.int 0), none]) hC dX11_meanDebt_10 rfl (by decide) rfl rfl ?_
  refine GR.less (lfL_X11_meanDebt_11 hC hf hr ?_ fu _ _ _ _) (g_le_at (And.intro rfl (And.intro rfl (And.intro rfl (And.intro rfl trivial)))))
  intro g x1 x2
  refine GR_iload_n (pc := 75) hC dX11_meanDebt_75 rfl rfl ?_
  refine GR_if_ne (pc := 76) (tgt := 83) hC dX11_meanDebt_76 (by decide) ?_ ?_
  · refine GR_iload_n (pc := 83) hC dX11_meanDebt_83 rfl rfl ?_
    refine GR_i2d (pc := 84) hC dX11_meanDebt_84 ?_
    refine GR_iload_n (pc := 85) hC dX11_meanDebt_85 rfl rfl ?_
    refine GR_i2d (pc := 86) hC dX11_meanDebt_86 ?_
    refine GR_ddiv (pc := 87) hC dX11_meanDebt_87 (fun v6 => ?_)
    exact GR_dret (pc := 88) hC hr dX11_meanDebt_88
  · refine GR_dconst0 (pc := 79) hC dX11_meanDebt_79 ?_
    refine GR_goto (pc := 80) (tgt := 88) hC dX11_meanDebt_80 (by decide) ?_
    exact GR_dret (pc := 88) hC hr dX11_meanDebt_88
theorem MYC_X10_utilization : g_MY yX10_utilization cX10_utilization 3 (some .float) 1 := ⟨g_w_mem (List.mem_of_getElem? (i := 1158) (by decide +kernel)) (by decide +kernel), g_w_mem (List.mem_of_getElem? (i := 93) (by decide +kernel)) (by decide +kernel), by decide +kernel, by decide +kernel, by decide +kernel⟩
theorem MIC_X10_utilization : Cond.instanceMethod yX10_utilization ∈ g_w ∧ Cond.selects yX10_utilization.cls yX10_utilization yX10_utilization ∈ g_w := ⟨g_w_mem (List.mem_of_getElem? (i := 1156) (by decide +kernel)) (by decide +kernel), g_w_mem (List.mem_of_getElem? (i := 1157) (by decide +kernel)) (by decide +kernel)⟩
theorem MYC_X10_meanDebt : g_MY yX10_meanDebt cX10_meanDebt 3 (some .double) 0 := ⟨g_w_mem (List.mem_of_getElem? (i := 684) (by decide +kernel)) (by decide +kernel), g_w_mem (List.mem_of_getElem? (i := 93) (by decide +kernel)) (by decide +kernel), by decide +kernel, by decide +kernel, by decide +kernel⟩
theorem MIC_X10_meanDebt : Cond.instanceMethod yX10_meanDebt ∈ g_w ∧ Cond.selects yX10_meanDebt.cls yX10_meanDebt yX10_meanDebt ∈ g_w := ⟨g_w_mem (List.mem_of_getElem? (i := 682) (by decide +kernel)) (by decide +kernel), g_w_mem (List.mem_of_getElem? (i := 683) (by decide +kernel)) (by decide +kernel)⟩
theorem MYC_X11_utilization : g_MY yX11_utilization cX11_utilization 2 (some .float) 1 := ⟨g_w_mem (List.mem_of_getElem? (i := 1907) (by decide +kernel)) (by decide +kernel), g_w_mem (List.mem_of_getElem? (i := 108) (by decide +kernel)) (by decide +kernel), by decide +kernel, by decide +kernel, by decide +kernel⟩
theorem MIC_X11_utilization : Cond.instanceMethod yX11_utilization ∈ g_w ∧ Cond.selects yX11_utilization.cls yX11_utilization yX11_utilization ∈ g_w := ⟨g_w_mem (List.mem_of_getElem? (i := 1905) (by decide +kernel)) (by decide +kernel), g_w_mem (List.mem_of_getElem? (i := 1906) (by decide +kernel)) (by decide +kernel)⟩
theorem MYC_X11_meanDebt : g_MY yX11_meanDebt cX11_meanDebt 5 (some .double) 0 := ⟨g_w_mem (List.mem_of_getElem? (i := 1911) (by decide +kernel)) (by decide +kernel), g_w_mem (List.mem_of_getElem? (i := 108) (by decide +kernel)) (by decide +kernel), by decide +kernel, by decide +kernel, by decide +kernel⟩
theorem MIC_X11_meanDebt : Cond.instanceMethod yX11_meanDebt ∈ g_w ∧ Cond.selects yX11_meanDebt.cls yX11_meanDebt yX11_meanDebt ∈ g_w := ⟨g_w_mem (List.mem_of_getElem? (i := 1909) (by decide +kernel)) (by decide +kernel), g_w_mem (List.mem_of_getElem? (i := 1910) (by decide +kernel)) (by decide +kernel)⟩
set_option maxRecDepth 20000 in
set_option maxHeartbeats 2000000 in
theorem k_utilX {P : GP} {p1 : Int32} {g : GM} (hf : g_on P 166) : KX P yX10_utilization cX10_utilization 3 (some .float) ⟨7, 1, 6, 120⟩ [gr P 0, .int p1] g ((f_X2_ofPasture g 12 p1).bind fun v1 => g_thr g (g_ref v1) none) := by
  refine KX.ofW (by decide) rfl (Nat.le_of_ble_eq_true rfl) (fun X x hC hr => ?_)
  change GR P X (g_QX P X x) 0 0 _ 0 [some (gr P 0), some (.int p1), none] [] g x
  refine GR_aload_n (pc := 0) hC dX10_utilization_0 rfl rfl ?_
  refine GR_getR (pc := 1) (r := 12) hC F_RX10_45 (sh_0 hf) rfl dX10_utilization_1 ?_
  refine GR_iload_n (pc := 4) hC dX10_utilization_4 rfl rfl ?_
  refine GR_callSP (pc := 5) (As := [gr P 12, .int p1]) hC (k_X2_ofPasture hf (g_S_12 hf)) MY_X2_ofPasture MS_X2_ofPasture ML_RX10_123 ⟨rfl, rfl⟩ ⟨by decide, by decide⟩ ⟨by decide, by decide⟩ rfl rfl (Nat.le_of_ble_eq_true rfl) dX10_utilization_5 (fun v1 _ => ?_)
  exact GR_refuse2 (pc := 8) hC hr ML_RX10_129 (by decide) (Nat.le_of_ble_eq_true rfl) dX10_utilization_8 GR.none
def lw_U (g : GM) (x : GE) (p1 : Int32) : Option (GM × GE × Int32) := (f_X2_ofPasture g 12 p1).bind fun v1 => match g_ref v1 with
  | some k => if k = 0 then some (g, x, 1) else none
  | none => (f_X10_utilization g p1).bind fun r => (g_nd (FP.f2d r)).bind fun w => some (g, (x.1, vf_upd x.2 0 w), 0)
set_option maxRecDepth 20000 in
set_option maxHeartbeats 2000000 in
theorem kL_utilization {P : GP} {x : GE} {p1 : Int32} {g : GM} (hF : g_sh P = g_full) (hf : g_on P 179) : KL P yL_utilization cL_utilization 4 [(0, 9, 12, 28)] ⟨8, 1, 6, 142⟩ [gr P 0, .int p1, gr P 178] g x (lw_U g x p1) := by
  refine KL.ofW (by decide) rfl (Nat.le_of_ble_eq_true rfl) (fun X hC hr hT => ?_)
  change GR P X (g_QL P X) 0 0 _ 0 [some (gr P 0), some (.int p1), some (gr P 178), none] [] g x
  refine GR_aload_n (pc := 0) hC dL_utilization_0 rfl rfl ?_
  refine GR_iconst (pc := 1) (v := 0) hC dL_utilization_1 rfl ?_
  refine GR_aload_n (pc := 2) hC dL_utilization_2 rfl rfl ?_
  refine GR_iload_n (pc := 3) hC dL_utilization_3 rfl rfl ?_
  unfold lw_U
  cases hv : f_X2_ofPasture g 12 p1 with
  | none => exact GR.none
  | some v1 =>
    cases hg : g_ref v1 with
    | some k =>
      have hk := k_utilX (P := P) (p1 := p1) (g := g) (hf.mono (by decide))
      rw [hv] at hk
      have hk2 : KX P yX10_utilization cX10_utilization 3 (some .float) ⟨7, 1, 6, 120⟩ [gr P 0, .int p1] g (some (g, .inr k)) := by
        have h3 : ((some v1).bind fun v1 => g_thr g (g_ref v1) none) = some (g, Sum.inr k) := by
          show g_thr g (g_ref v1) none = _
          rw [hg]; rfl
        rw [h3] at hk
        exact hk
      by_cases h0 : k = 0
      · subst h0
        refine GR.eq (E' := (some (g, Sum.inr 0) : Option (GM × (Int32 ⊕ Nat))).bind (fun q => match q.2 with | .inr 0 => some (q.1, x, (1 : Int32)) | _ => none)) (by show (match g_ref v1 with | some k => if k = 0 then some (g, x, (1 : Int32)) else none | none => _) = _; rw [hg]; rfl) ?_
        refine GR_callVC (pc := 4) (As := [.int p1]) hC hT hk2 MYC_X10_utilization MIC_X10_utilization (g_w_mem (List.mem_of_getElem? (i := 1155) (by decide +kernel)) (by decide +kernel)) (sh_0 (hf.mono (by decide))) rfl rfl ⟨rfl, rfl⟩ ⟨by decide, by decide⟩ ⟨by decide, by decide⟩ rfl rfl (Nat.le_of_ble_eq_true rfl) dL_utilization_4 (fun _ _ => GR.none) (fun g1 k => ?_)
        rcases k with _ | k
        · refine Or.inr ⟨12, ⟨[], ⟨0, 9, 12, 28⟩, [], "java/lang/IndexOutOfBoundsException", rfl, rfl, (fun w hw => (List.not_mem_nil hw).elim), by decide, by decide, g_w_mem (List.mem_of_getElem? (i := 861) (by decide +kernel)) (by decide +kernel), rfl⟩, fun q9 => ?_⟩
          refine GR_astore_n (pc := 12) (L' := [some (gr P 0), some (.int p1), some (gr P 178), some (.ref q9)]) hC dL_utilization_12 rfl (by decide) rfl rfl ?_
          refine GR_iconst (pc := 13) (v := 1) hC dL_utilization_13 rfl ?_
          exact GR_iretL (pc := 14) hC ⟨by decide, by decide⟩ hr dL_utilization_14
        · exact Or.inl rfl
      · refine GR.eq (E' := none) (by show (match g_ref v1 with | some k => if k = 0 then some (g, x, (1 : Int32)) else none | none => _) = _; rw [hg]; exact if_neg h0) GR.none
    | none =>
      refine GR.eq (E' := ((f_X10_utilization g p1).map (fun r => (g, r))).bind fun q => (g_nd (FP.f2d q.2)).bind fun w => some (q.1, ((x.1, vf_upd x.2 0 w) : GE), (0 : Int32))) (by show (match g_ref v1 with | some k => if k = 0 then some (g, x, (1 : Int32)) else none | none => _) = _; rw [hg]; cases f_X10_utilization g p1 <;> rfl) ?_
      refine GR_callVF (pc := 4) (As := [.int p1]) hC (k_X10_utilization (hf.mono (by decide))) MYC_X10_utilization MIC_X10_utilization (g_w_mem (List.mem_of_getElem? (i := 1155) (by decide +kernel)) (by decide +kernel)) (sh_0 (hf.mono (by decide))) rfl rfl ⟨rfl, rfl⟩ ⟨by decide, by decide⟩ ⟨by decide, by decide⟩ rfl rfl (Nat.le_of_ble_eq_true rfl) dL_utilization_4 (fun g1 r1 => ?_)
      refine GR_f2d (pc := 7) hC dL_utilization_7 (fun w1 => ?_)
      refine GR_dast (pc := 8) hC hF rfl dL_utilization_8 ?_
      refine GR_goto (pc := 9) (tgt := 15) hC dL_utilization_9 (by decide) ?_
      refine GR_iconst (pc := 15) (v := 0) hC dL_utilization_15 rfl ?_
      exact GR_iretL (pc := 16) hC ⟨by decide, by decide⟩ hr dL_utilization_16
set_option maxRecDepth 20000 in
set_option maxHeartbeats 2000000 in
theorem lc_41 {P : GP} {X : GX} {α : Type} {Qf : α → State → Prop} {E : Option α} {ce sl b n m : Nat} {xs : Nat → Int32} {g : GM} {x : GE} {g1 : GM} {x1 : GE} {k : Int32} {h1 : GM} {r1 : UInt32} (hC : GC P X RL cL_law 10 room_1) (hF : g_sh P = g_full) (hf : g_on P 179) (hX : va_X b n xs X.2.2.2.2.1 X.2.2.2.2.1.heap) (hbs : b < X.2.2.2.2.1.heap.size) (hbA : ¬ X.2.2.2.2.2.2.2.2.2.2 b) (hn : n ≤ 3072) (hm : m + 6 ≤ n) (hcs : ce + 1 ≤ 601024 ∧ sl + 6 ≤ 7293033) (hL : lw_U g x (xs (m + 1)) = some (g1, x1, k)) (hM1 : f_X11_utilization g1 (xs (m + 1)) = some (h1, r1)) (hT : h1 166 9 = k) (hR : k = 0 → x1.2 0 = FP.f2d r1 ∧ vf_n64 (FP.f2d r1) ∧ FP.dcmp (FP.f2d r1) (FP.f2d r1) = some .eq) (kk : GR P X Qf (ce + 1) (sl + 6) E 3182 [some (.ref b), some (gr P 0), some (gr P 166), some (gr P 177), some (gr P 178), some (.int (nI m)), none, none, none, none] [] h1 x1) : GR P X Qf ce sl E 2194 [some (.ref b), some (gr P 0), some (gr P 166), some (gr P 177), some (gr P 178), some (.int (nI m)), none, none, none, none] [] g x := by
  have hcs0 : ce + 1 ≤ room_1.cells ∧ sl + 6 ≤ room_1.slots := ⟨by show _ ≤ 601024; omega, by show _ ≤ 7293033; omega⟩
  refine GR_aload_n (pc := 2194) hC dL_law_2194 rfl rfl ?_
  refine GR_arg (pc := 2195) (c := 1) hC hX hbs hbA hn (by omega) rfl rfl (by decide) rfl dL_law_2195 dL_law_2196 dL_law_2198 dL_law_2199 dL_law_2200 ?_
  refine GR_aload (pc := 2201) hC dL_law_2201 rfl ?_
  refine GR_callSL (pc := 2203) (n := 3) (As := [gr P 0, .int (xs (m + 1)), gr P 178]) (b := (g1, x1, k)) hC (kL_utilization hF hf) hL ⟨g_w_mem (List.mem_of_getElem? (i := 1154) (by decide +kernel)) (by decide +kernel), g_w_mem (List.mem_of_getElem? (i := 92) (by decide +kernel)) (by decide +kernel), g_w_mem (List.mem_of_getElem? (i := 1153) (by decide +kernel)) (by decide +kernel), g_w_mem (List.mem_of_getElem? (i := 1152) (by decide +kernel)) (by decide +kernel)⟩ ⟨by decide, by decide, by decide +kernel⟩ ⟨rfl, rfl⟩ ⟨by decide, by decide⟩ ⟨hcs.1, hcs.2⟩ rfl rfl (Nat.le_of_ble_eq_true rfl) dL_law_2203 ?_
  change GR P X Qf (ce + 1) (sl + 6) E 2206 [some (.ref b), some (gr P 0), some (gr P 166), some (gr P 177), some (gr P 178), some (.int (nI m)), none, none, none, none] [.int k] g1 x1
  refine GR_istore (pc := 2206) (L' := [some (.ref b), some (gr P 0), some (gr P 166), some (gr P 177), some (gr P 178), some (.int (nI m)), some (.int k), none, none, none]) hC dL_law_2206 (by decide) rfl rfl ?_
  refine GR_aload_n (pc := 2208) hC dL_law_2208 rfl rfl ?_
  refine GR_arg (pc := 2209) (c := 1) hC hX hbs hbA hn (by omega) rfl rfl (by decide) rfl dL_law_2209 dL_law_2210 dL_law_2212 dL_law_2213 dL_law_2214 ?_
  refine GR_callVFK (pc := 2215) (As := [.int (xs (m + 1))]) (b := (h1, r1)) hC (k_X11_utilization (hf.mono (by decide))) hM1 MYC_X11_utilization MIC_X11_utilization (g_w_mem (List.mem_of_getElem? (i := 1904) (by decide +kernel)) (by decide +kernel)) (sh_166 (hf.mono (by decide))) rfl rfl ⟨rfl, rfl⟩ ⟨by decide, by decide⟩ hcs0 rfl rfl (Nat.le_of_ble_eq_true rfl) dL_law_2215 ?_
  change GR P X Qf (ce + 1) (sl + 6) E 2218 [some (.ref b), some (gr P 0), some (gr P 166), some (gr P 177), some (gr P 178), some (.int (nI m)), some (.int k), none, none, none] [.float r1] h1 x1
  refine GR_fstore (pc := 2218) (L' := [some (.ref b), some (gr P 0), some (gr P 166), some (gr P 177), some (gr P 178), some (.int (nI m)), some (.int k), some (.float r1), none, none]) hC dL_law_2218 (by decide) rfl rfl ?_
  refine GR_aload_n (pc := 2220) hC dL_law_2220 rfl rfl ?_
  refine GR_callVK (pc := 2221) (As := []) (E0 := ((f_X11_thrown h1).map (fun r => (h1, r)))) (b := (h1, h1 166 9)) hC (k_X11_thrown (hf.mono (by decide))) rfl MYC_X11_thrown MIC_X11_thrown (g_w_mem (List.mem_of_getElem? (i := 1392) (by decide +kernel)) (by decide +kernel)) (sh_166 (hf.mono (by decide))) rfl rfl ⟨rfl, rfl⟩ ⟨by decide, by decide⟩ hcs0 rfl rfl (Nat.le_of_ble_eq_true rfl) dL_law_2221 ?_
  change GR P X Qf (ce + 1) (sl + 6) E 2224 [some (.ref b), some (gr P 0), some (gr P 166), some (gr P 177), some (gr P 178), some (.int (nI m)), some (.int k), some (.float r1), none, none] [.int (h1 166 9)] h1 x1
  refine GR_iload (pc := 2224) hC dL_law_2224 rfl ?_
  refine GR_icmp_eqT (pc := 2226) (tgt := 2231) hC hT dL_law_2226 (by decide) ?_
  refine GR_iload (pc := 2231) hC dL_law_2231 rfl ?_
  by_cases hk : k = 0
  · obtain ⟨e1, e2, e3⟩ := hR hk
    refine GR_if_neF (pc := 2233) (tgt := 2269) hC hk dL_law_2233 (by decide) ?_
    refine GR_aload (pc := 2236) hC dL_law_2236 rfl ?_
    refine GR_iconst (pc := 2238) (v := 0) hC dL_law_2238 rfl ?_
    refine GR_dald (pc := 2239) hC hF rfl dL_law_2239 ?_
    refine GR_fload (pc := 2240) hC dL_law_2240 rfl ?_
    refine GR_f2dT (pc := 2242) hC e2 dL_law_2242 ?_
    refine GR_dcmp (pc := 2243) hC dL_law_2243 ?_
    refine GR_if_eqT (pc := 2244) (tgt := 2269) hC (by rw [e1, e3]; rfl) dL_law_2244 (by decide) ?_
    refine GR_goto (pc := 2269) (tgt := 3182) hC dL_law_2269 (by decide) ?_
    exact GR.less kk (g_le_at (And.intro rfl (And.intro rfl (And.intro rfl (And.intro rfl (And.intro rfl (And.intro rfl trivial)))))))
  · refine GR_if_neT (pc := 2233) (tgt := 2269) hC hk dL_law_2233 (by decide) ?_
    refine GR_goto (pc := 2269) (tgt := 3182) hC dL_law_2269 (by decide) ?_
    exact GR.less kk (g_le_at (And.intro rfl (And.intro rfl (And.intro rfl (And.intro rfl (And.intro rfl (And.intro rfl trivial)))))))
set_option maxRecDepth 20000 in
set_option maxHeartbeats 2000000 in
theorem lc_42 {P : GP} {X : GX} {α : Type} {Qf : α → State → Prop} {E : Option α} {ce sl b m : Nat} {g : GM} {x : GE} {h1 h2 : GM} {r1 : UInt64} (hC : GC P X RL cL_law 10 room_1) (hf : g_on P 179) (hcs : ce + 1 ≤ 601024 ∧ sl + 6 ≤ 7293033) (hM1 : ((f_X10_meanDebt g).map (fun r => (g, r))) = some (h1, r1)) (hM2 : f_X11_meanDebt h1 = some (h2, r1)) (hR : FP.dcmp r1 r1 = some .eq) (kk : GR P X Qf (ce + 1) (sl + 6) E 3182 [some (.ref b), some (gr P 0), some (gr P 166), some (gr P 177), some (gr P 178), some (.int (nI m)), none, none, none, none] [] h2 x) : GR P X Qf ce sl E 2272 [some (.ref b), some (gr P 0), some (gr P 166), some (gr P 177), some (gr P 178), some (.int (nI m)), none, none, none, none] [] g x := by
  have hcs0 : ce ≤ room_1.cells ∧ sl ≤ room_1.slots := ⟨by show _ ≤ 601024; omega, by show _ ≤ 7293033; omega⟩
  refine GR_aload_n (pc := 2272) hC dL_law_2272 rfl rfl ?_
  refine GR_callVDK (pc := 2273) (As := []) (b := (h1, r1)) hC (k_X10_meanDebt (hf.mono (by decide))) hM1 MYC_X10_meanDebt MIC_X10_meanDebt (g_w_mem (List.mem_of_getElem? (i := 681) (by decide +kernel)) (by decide +kernel)) (sh_0 (hf.mono (by decide))) rfl rfl ⟨rfl, rfl⟩ ⟨by decide, by decide⟩ hcs0 rfl rfl (Nat.le_of_ble_eq_true rfl) dL_law_2273 ?_
  change GR P X Qf ce sl E 2276 [some (.ref b), some (gr P 0), some (gr P 166), some (gr P 177), some (gr P 178), some (.int (nI m)), none, none, none, none] [.double r1] h1 x
  refine GR_dstore (pc := 2276) (L' := [some (.ref b), some (gr P 0), some (gr P 166), some (gr P 177), some (gr P 178), some (.int (nI m)), some (.double r1), none, none, none]) hC dL_law_2276 (by decide) rfl rfl (by simp) (Or.inr rfl) ?_
  refine GR_aload_n (pc := 2278) hC dL_law_2278 rfl rfl ?_
  refine GR_callVDK (pc := 2279) (As := []) (b := (h2, r1)) hC (k_X11_meanDebt (hf.mono (by decide))) hM2 MYC_X11_meanDebt MIC_X11_meanDebt (g_w_mem (List.mem_of_getElem? (i := 1908) (by decide +kernel)) (by decide +kernel)) (sh_166 (hf.mono (by decide))) rfl rfl ⟨rfl, rfl⟩ ⟨by decide, by decide⟩ hcs0 rfl rfl (Nat.le_of_ble_eq_true rfl) dL_law_2279 ?_
  change GR P X Qf ce sl E 2282 [some (.ref b), some (gr P 0), some (gr P 166), some (gr P 177), some (gr P 178), some (.int (nI m)), some (.double r1), none, none, none] [.double r1] h2 x
  refine GR_dstore (pc := 2282) (L' := [some (.ref b), some (gr P 0), some (gr P 166), some (gr P 177), some (gr P 178), some (.int (nI m)), some (.double r1), none, some (.double r1), none]) hC dL_law_2282 (by decide) rfl rfl (by simp) (Or.inl rfl) ?_
  refine GR_dload (pc := 2284) hC dL_law_2284 rfl ?_
  refine GR_dload (pc := 2286) hC dL_law_2286 rfl ?_
  refine GR_dcmp (pc := 2288) hC dL_law_2288 ?_
  refine GR_if_eqT (pc := 2289) (tgt := 2310) hC (by rw [hR]; rfl) dL_law_2289 (by decide) ?_
  refine GR_goto (pc := 2310) (tgt := 3182) hC dL_law_2310 (by decide) ?_
  exact GR.wide (GR.less kk (g_le_at (And.intro rfl (And.intro rfl (And.intro rfl (And.intro rfl (And.intro rfl (And.intro rfl trivial))))))))
