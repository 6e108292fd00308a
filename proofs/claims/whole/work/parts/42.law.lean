/-! ===== the law's own methods: rows ===== -/
theorem g_ofWH {l : Launch} {y : MethodName} {ws ws' : List Cond} {rm : Room} {Pc : Array Value → State → Prop} {Qc : Array Value → State → Outcome → State → Prop} {mc ms : Nat} {free : Addr → Prop} {cc : ByteArray} {maxL : Nat} {ret : Option FieldType} {hh : List (Nat × Nat × Nat × Nat)}
    (hy : plainName y.cls = true) (hw : ws = Cond.codeWith y cc maxL ret hh :: ws')
    (body : ∀ p e s m args below meth c s₁, BodyLoose p l y (headSpec ws rm) cc maxL ret e s m args below meth c s₁ → c.maxLocals = maxL → Pc args s →
      W p l e (headSpec ws rm).room s m args below meth c s.heap [] 0 0 (MQ below Qc args s mc ms free) (entryFrame m args maxL)) : Met l y ws rm Pc Qc mc ms free := by
  refine MetFree.of_bodyS (code := cc) (maxLocals := maxL) (ret := ret) hy ?_ ?_
  · intro args s m h hn
    obtain ⟨m9, meth, c, hn9, h1, h2, h3, h4, -, h5, h6, -⟩ := Cond.codeWith_spec (atoms_spec (ws := ws) h _ (by rw [hw]; exact List.mem_cons_self))
    cases hn.symm.trans hn9
    exact ⟨meth, c, h1, h2, h3, h4, h5, h6⟩
  · intro p e s m args below meth c s₁ B hml hP _
    have hh0 : s₁.heap = s.heap := by rw [B.state]; rfl
    obtain ⟨t, a1, o, b1, b2, b3⟩ := body p e s m args below meth c s₁ B hml hP s₁ hh0 (Stand.of_body B)
    exact ⟨t, o, a1, b1, b2, b3⟩
def g_wsH (y : MethodName) (cc : ByteArray) (n : Nat) (hh : List (Nat × Nat × Nat × Nat)) : List Cond := .codeWith y cc n (some .int) hh :: g_w
def KL (P : GP) (y : MethodName) (cc : ByteArray) (maxL : Nat) (hh : List (Nat × Nat × Nat × Nat)) (rm : Room) (As : List Value) (g : GM) (x : GE) (E : Option (GM × GE × Int32)) : Prop :=
  ∀ (l : Launch) (sz : Nat) (a : GM × GE × Int32), l.stackTraces = false → E = some a →
    Met l y (g_wsH y cc maxL hh) rm (va_Pc As (g_pre P g x sz)) (va_Qi (fun r (_ : Unit) => r = a.2.2) (fun _ => g_pw P a.1 a.2.1) (g_A P sz)) 1 6 (g_A P sz)
def g_QL (P : GP) (X : GX) : GM × GE × Int32 → State → Prop := fun a => MQ X.2.2.2.2.2.2.2.1 (va_Qi (fun r (_ : Unit) => r = a.2.2) (fun _ => g_pw P a.1 a.2.1) X.2.2.2.2.2.2.2.2.2.2) X.2.2.2.2.2.2.1 X.2.2.2.2.1 1 6 X.2.2.2.2.2.2.2.2.2.2
def g_tb (X : GX) (hh : List (Nat × Nat × Nat × Nat)) : Prop := X.2.2.2.2.2.2.2.2.2.1.exceptionTable.toList = tableOf hh
theorem KL.ofW {P : GP} {y : MethodName} {cc : ByteArray} {maxL : Nat} {hh : List (Nat × Nat × Nat × Nat)} {rm : Room} {As : List Value} {g : GM} {x : GE} {E : Option (GM × GE × Int32)} (hy : plainName y.cls = true) (hAs : g_c1 (As.map some) = true) (hn : As.length ≤ maxL)
    (h : ∀ (X : GX), GC P X y.cls cc maxL rm → X.2.2.2.2.2.2.2.2.1.sig.returnType = some .int → g_tb X hh → GR P X (g_QL P X) 0 0 E 0 (g_L0 As maxL) [] g x) : KL P y cc maxL hh rm As g x E := by
  intro l sz a hst hE
  refine g_ofWH (cc := cc) (maxL := maxL) (ret := some .int) (hh := hh) hy rfl ?_
  intro p e s m args below meth c s₁ B hml hv
  obtain ⟨rfl, hsz, hP, hK, hi, hG⟩ := hv
  have hts : ∀ w ∈ g_wsH y cc maxL hh, w.before As.toArray s = true := atoms_spec (ws := g_wsH y cc maxL hh) B.pre
  have hl := lv_entry As (n := maxL) (by rw [g_sl_len As hAs]; exact hn)
  rw [lg_entry_eq]
  generalize (lg_sl As ++ List.replicate (maxL - (lg_sl As).length) Slot.unset).toArray = ls at hl ⊢
  subst hsz
  have hC : GC P (p, l, e, (headSpec (g_wsH y cc maxL hh) rm).room, s, m, As.toArray, below, meth, c, g_A P s.heap.size) y.cls cc maxL rm :=
    ⟨B.exec, B.bytes, hml, findClass_of_methodNamed B.named, fun w hw => hts w (List.mem_cons_of_mem _ hw), hK, B.notSynchronized, rfl, fun _ h => h, hi, hG, hst⟩
  have hl2 : g_lh ls c.maxLocals (g_L0 As maxL) := by
    rw [hml]
    unfold g_lh g_L0
    rw [← g_args_lp As 0 (maxL - As.length) hAs]
    exact hl
  exact h (p, l, e, (headSpec (g_wsH y cc maxL hh) rm).room, s, m, As.toArray, below, meth, c, g_A P s.heap.size) hC B.returns (vx_table (x := y) B (hts _ List.mem_cons_self)) a hE s.heap [] ls hl2 hP va_S.rf
/-- the exception number k, thrown at pc, is caught at hpc -/
def g_catch (own : String) (hh : List (Nat × Nat × Nat × Nat)) (pc k hpc : Nat) : Prop := ∃ (pre : List ExceptionTableEntry) (z : ExceptionTableEntry) (suf : List ExceptionTableEntry) (name : String), tableOf hh = pre ++ z :: suf ∧ g_xn[k]? = some name ∧ (∀ w ∈ pre, covers w pc = false ∨ (w.catchType ≠ 0 ∧ ∃ nm : String, Cond.classLink own w.catchType nm ∈ g_w ∧ (name, nm) ∈ g_nc)) ∧ covers z pc = true ∧ z.catchType ≠ 0 ∧ Cond.classLink own z.catchType name ∈ g_w ∧ z.handlerPc = hpc
/-- which cells hold longs, doubles -/
def g_lsh (k : Nat) (sh : GSh) : Bool := match sh with
  | .inl (.long, _, _) => k == 177
  | .inl (.double, _, _) => k == 178
  | _ => true
theorem g_full_ls : (g_full.zipIdx.all fun q => g_lsh q.2 q.1) = true := by decide +kernel
theorem g_full_at {k : Nat} {sh : GSh} (h : g_full[k]? = some sh) : g_lsh k sh = true := by
  have h1 := List.all_eq_true.mp g_full_ls (sh, k) (List.mem_of_getElem? (i := k) (by rw [List.getElem?_zipIdx, h]; simp))
  exact h1
theorem g_ent_L {P : GP} {g : GM} {x : GE} {f : Nat → Int64} {k : Nat} {sh : GSh} (h : g_lsh k sh = true) (hk : k ≠ 177) : g_ent P g (f, x.2) k sh = g_ent P g x k sh := by
  rcases sh with ⟨t, n, rs⟩ | ⟨ci, fs⟩
  · cases t
    case long => exact absurd (of_decide_eq_true (by simpa [g_lsh] using h)) hk
    all_goals rfl
  · rfl
theorem g_ent_D {P : GP} {g : GM} {x : GE} {f : Nat → UInt64} {k : Nat} {sh : GSh} (h : g_lsh k sh = true) (hk : k ≠ 178) : g_ent P g (x.1, f) k sh = g_ent P g x k sh := by
  rcases sh with ⟨t, n, rs⟩ | ⟨ci, fs⟩
  · cases t
    case double => exact absurd (of_decide_eq_true (by simpa [g_lsh] using h)) hk
    all_goals rfl
  · rfl
theorem g_wl_setL {P : GP} {g : GM} {x : GE} {f : Nat → Int64} (hF : g_sh P = g_full) {e : va_E} (he : e = g_ent P g (f, x.2) 177 (.inl (.long, 1, []))) : (g_wl P g x).set 177 (P.2.2.1 177, e) = g_wl P g (f, x.2) := by
  subst he
  have hs : (g_sh P)[177]? = some (.inl (.long, 1, [])) := by rw [hF]; rfl
  apply List.ext_getElem?
  intro i
  by_cases hi : i = 177
  · subst hi
    rw [g_wl_at hs, List.getElem?_set_self (List.getElem?_eq_some_iff.mp (g_wl_at (P := P) (g := g) (x := x) hs)).1]
  · rw [List.getElem?_set_ne (Ne.symm hi)]
    cases hz : (g_sh P)[i]? with
    | none => simp [g_wl, List.getElem?_map, List.getElem?_zipIdx, hz]
    | some s2 => rw [g_wl_at hz, g_wl_at hz, g_ent_L (f := f) (x := x) (g_full_at (by rw [← hF]; exact hz)) hi]
theorem g_wl_setD {P : GP} {g : GM} {x : GE} {f : Nat → UInt64} (hF : g_sh P = g_full) {e : va_E} (he : e = g_ent P g (x.1, f) 178 (.inl (.double, 1, []))) : (g_wl P g x).set 178 (P.2.2.1 178, e) = g_wl P g (x.1, f) := by
  subst he
  have hs : (g_sh P)[178]? = some (.inl (.double, 1, [])) := by rw [hF]; rfl
  apply List.ext_getElem?
  intro i
  by_cases hi : i = 178
  · subst hi
    rw [g_wl_at hs, List.getElem?_set_self (List.getElem?_eq_some_iff.mp (g_wl_at (P := P) (g := g) (x := x) hs)).1]
  · rw [List.getElem?_set_ne (Ne.symm hi)]
    cases hz : (g_sh P)[i]? with
    | none => simp [g_wl, List.getElem?_map, List.getElem?_zipIdx, hz]
    | some s2 => rw [g_wl_at hz, g_wl_at hz, g_ent_D (f := f) (x := x) (g_full_at (by rw [← hF]; exact hz)) hi]
section GLAW
variable {P : GP} {X : GX} {own : String} {cc : ByteArray} {nL : Nat} {R0 : Room} {α : Type} {Qf : α → State → Prop} {ce sl pc : Nat} {L : List (Option Value)} {st st0 : List Value} {g : GM} {x : GE} {E : Option α}
variable {y : MethodName} {cc' : ByteArray} {maxL n i : Nat} {ret : Option FieldType} {rm : Room} {As : List Value}
theorem GR_callVC (hC : GC P X own cc nL R0) {hh : List (Nat × Nat × Nat × Nat)} (hT : g_tb X hh) {o ci : Nat} {fs : List (Option (Option Nat))} {q : vw_C} {E0 : Option (GM × (Int32 ⊕ Nat))} {F : GM × (Int32 ⊕ Nat) → Option α} (hk : KX P y cc' maxL ret rm (gr P o :: As) g E0) (hm : g_MY y cc' maxL ret n) (hin : Cond.instanceMethod y ∈ g_w ∧ Cond.selects y.cls y y ∈ g_w) (hl : Cond.methodLink own i y ∈ g_w) (hs : (g_sh P)[o]? = some (.inr (ci, fs))) (hq : g_cl[ci]? = some q) (hqc : q.1 = y.cls) (hr0 : rm.cells = 1 ∧ rm.slots = 6) (hR : rm.frames + 1 ≤ R0.frames ∧ 8 + (maxL + 11) + rm.locals ≤ R0.locals) (hcs : ce + 1 ≤ R0.cells ∧ sl + 6 ≤ R0.slots)
    (h0 : st0 = As.reverse ++ gr P o :: st) (hn : As.length = n) (h8 : (st.map fun v => v.category).sum ≤ 8) (hd : decode cc pc = .ok (.invokevirtual i, 3))
    (kk : ∀ (g' : GM) (r : Int32), GR P X Qf (ce + 1) (sl + 6) (F (g', .inl r)) (pc + 3) L (.int r :: st) g' x) (kx : ∀ (g' : GM) (k : Nat), F (g', .inr k) = none ∨ ∃ hpc, g_catch own hh pc k hpc ∧ ∀ q9 : Nat, GR P X Qf (ce + 1) (sl + 6) (F (g', .inr k)) hpc L [.ref q9] g' x) : GR P X Qf ce sl (E0.bind F) pc L st0 g x := by
  intro a ha H locs ls hl2 hP hS
  cases hE : E0 with
  | none => rw [hE] at ha; cases ha
  | some b =>
    obtain ⟨b1, b2⟩ := b
    rw [hE] at ha
    have ha : F (b1, b2) = some a := ha
    subst h0
    refine vx_calli (SX := Unit) (vx_runV (C := y.cls) (g_fix hC) (hk X.2.1 x H.size (b1, b2) hC.2.2.2.2.2.2.2.2.2.2.2 hE) ⟨g_callBX hC hm hl hr0 hR, hC.word hin.1, hC.word hin.2⟩ ⟨g_blind, hqc ▸ g_recv hC hP hs hq, g_give hC hP hS⟩ rfl hn (by rw [← hC.maxL]; exact hl2.1) rfl (by simpa using h8) hd (by rw [hC.room]; exact hcs)) hS (fun q _ h => hC.A q (g_A_mono hS.1 q h)) (fun q h => hC.A q (g_A_mono hS.1 q h)) (fun q _ h => hC.A q (g_A_mono hS.1 q h)) (fun E1 ce1 q9 u t H1 locs1 ht hvm hw hB hz1 hk1 hS1 hce hcv hcl => ?_) (fun r u t H1 locs1 ht hvm hw hB hz1 hk1 hS1 => ?_)
    · obtain ⟨⟨k, hkx, hEx⟩, hP1⟩ := hB
      have hP2 : va_P P.1 g_cl (g_wl P b1 x) t.heap := hP1
      rw [ht] at hP2
      have hkx : b2 = .inr k := hkx
      subst hkx
      rcases kx b1 k with h | ⟨hpc, ⟨pre, z, suf, name, c1, c2, c3, c4, c5, c6, c7⟩, hk3⟩
      · rw [h] at ha; cases ha
      · have hname : name = E1 := Option.some.inj (c2.symm.trans hEx)
        subst hname
        refine vx_catch hC.cls pre z suf (hT.trans c1) (fun w hw => ?_) c4 c5 (hC.word c6) (va_Nw.use rfl (hC.E.2.2.2.2.2.2.2.2.1 name (List.mem_of_getElem? c2))) hce hcv hcl ?_
        · rcases c3 w hw with h | ⟨h1, nm, h2, h3⟩
          · exact Or.inl h
          · exact Or.inr ⟨h1, nm, hC.word h2, hC.E.2.2.2.2.2.2.2.2.2 _ h3⟩
        · rw [c7]
          exact hk3 q9 a ha H1 locs1 ls hl2 hP2 hS1
    · have hw' : b2 = .inl r := hw
      subst hw'
      have hP1 : va_P P.1 g_cl (g_wl P b1 x) t.heap := hB
      rw [ht] at hP1
      exact kk b1 r a ha H1 locs1 ls hl2 hP1 hS1
theorem GR_i2l (hC : GC P X own cc nL R0) {v : Int32} (hd : decode cc pc = .ok (.i2l, 1)) (kk : GR P X Qf ce sl E (pc + 1) L (.long v.toInt64 :: st) g x) : GR P X Qf ce sl E pc L (.int v :: st) g x :=
  fun a ha H locs ls hl hP hS => lv_i2l hC.exec hC.bytes hd rfl (kk a ha H locs ls hl hP hS)
theorem GR_lconst (hC : GC P X own cc nL R0) {k : Fin 2} {v : Int64} (hd : decode cc pc = .ok (.lconst k, 1)) (hv : Int64.ofNat (k : Nat) = v) (kk : GR P X Qf ce sl E (pc + 1) L (.long v :: st) g x) : GR P X Qf ce sl E pc L st g x :=
  fun a ha H locs ls hl hP hS => lv_lconst hC.exec hC.bytes hd hv (kk a ha H locs ls hl hP hS)
theorem GR_lcmp (hC : GC P X own cc nL R0) {v w : Int64} (hd : decode cc pc = .ok (.lcmp, 1)) (kk : GR P X Qf ce sl E (pc + 1) L (.int (lg_cmp v w) :: st) g x) : GR P X Qf ce sl E pc L (.long w :: .long v :: st) g x :=
  fun a ha H locs ls hl hP hS => W.lcmp hC.exec hC.bytes hd (kk a ha H locs ls hl hP hS)
theorem GR_lald (hC : GC P X own cc nL R0) (hF : g_sh P = g_full) {i : Int32} (hi : i = 0) (hd : decode cc pc = .ok (.laload, 1)) (kk : GR P X Qf ce sl E (pc + 1) L (.long (x.1 0) :: st) g x) : GR P X Qf ce sl E pc L (.int i :: gr P 177 :: st) g x := by
  intro a ha H locs ls hl hP hS
  subst hi
  have hs : (g_sh P)[177]? = some (.inl (.long, 1, [])) := by rw [hF]; rfl
  exact va_lald hC.exec hC.bytes hC.K hP 177 4 (g_wl_at hs) (g_tys_at rfl) (by show ¬ ((0 : Int32) < 0 ∨ 1 ≤ (0 : Int32).toNatClampNeg); decide) hd (kk a ha H locs ls hl hP hS)
theorem GR_last (hC : GC P X own cc nL R0) (hF : g_sh P = g_full) {i : Int32} {v : Int64} (hi : i = 0) (hd : decode cc pc = .ok (.lastore, 1)) (kk : GR P X Qf ce sl E (pc + 1) L st g (vp_updL x.1 0 v, x.2)) : GR P X Qf ce sl E pc L (.long v :: .int i :: gr P 177 :: st) g x := by
  intro a ha H locs ls hl hP hS
  subst hi
  have hs : (g_sh P)[177]? = some (.inl (.long, 1, [])) := by rw [hF]; rfl
  refine va_last hC.exec hC.bytes hC.K hP (hC.D g x) hS 177 4 (g_wl_at hs) (g_tys_at rfl) (by show ¬ ((0 : Int32) < 0 ∨ 1 ≤ (0 : Int32).toNatClampNeg); decide) hd (fun H1 locs1 hP1 hD1 hS1 => kk a ha H1 locs1 ls hl ?_ hS1)
  rw [g_wl_setL (f := vp_updL x.1 0 v) hF] at hP1
  · exact hP1
  · rfl
theorem GR_dald (hC : GC P X own cc nL R0) (hF : g_sh P = g_full) {i : Int32} (hi : i = 0) (hd : decode cc pc = .ok (.daload, 1)) (kk : GR P X Qf ce sl E (pc + 1) L (.double (x.2 0) :: st) g x) : GR P X Qf ce sl E pc L (.int i :: gr P 178 :: st) g x := by
  intro a ha H locs ls hl hP hS
  subst hi
  have hs : (g_sh P)[178]? = some (.inl (.double, 1, [])) := by rw [hF]; rfl
  exact va_dald hC.exec hC.bytes hC.K hP 178 5 (g_wl_at hs) (g_tys_at rfl) (by show ¬ ((0 : Int32) < 0 ∨ 1 ≤ (0 : Int32).toNatClampNeg); decide) hd (kk a ha H locs ls hl hP hS)
theorem GR_dast (hC : GC P X own cc nL R0) (hF : g_sh P = g_full) {i : Int32} {v : UInt64} (hi : i = 0) (hd : decode cc pc = .ok (.dastore, 1)) (kk : GR P X Qf ce sl E (pc + 1) L st g (x.1, vf_upd x.2 0 v)) : GR P X Qf ce sl E pc L (.double v :: .int i :: gr P 178 :: st) g x := by
  intro a ha H locs ls hl hP hS
  subst hi
  have hs : (g_sh P)[178]? = some (.inl (.double, 1, [])) := by rw [hF]; rfl
  refine va_dast hC.exec hC.bytes hC.K hP (hC.D g x) hS 178 5 (g_wl_at hs) (g_tys_at rfl) (by show ¬ ((0 : Int32) < 0 ∨ 1 ≤ (0 : Int32).toNatClampNeg); decide) hd (fun H1 locs1 hP1 hD1 hS1 => kk a ha H1 locs1 ls hl ?_ hS1)
  rw [g_wl_setD (f := vf_upd x.2 0 v) hF] at hP1
  · exact hP1
  · rfl
theorem GR_iretL (hC : GC P X own cc nL R0) {v : Int32} (hcs : ce ≤ 1 ∧ sl ≤ 6) (hr : X.2.2.2.2.2.2.2.2.1.sig.returnType = some .int) (hd : decode cc pc = .ok (.ireturn, 1)) : GR P X (g_QL P X) ce sl (some (g, x, v)) pc L [.int v] g x := by
  intro a ha H locs ls hl hP hS
  cases ha
  exact W.widen hcs.1 hcs.2 (W.iret (v := v) hC.exec hC.bytes hr (fun t ht hW => ⟨⟨v, (), rfl, rfl, by show va_P _ _ _ t.heap; rw [ht]; exact hP⟩, hS.F ht⟩) hS.2.2 hd hC.locks)
/-- the law's call of a method of its own, whose answer is known -/
theorem GR_callSL (hC : GC P X own cc nL R0) {hh : List (Nat × Nat × Nat × Nat)} {b : GM × GE × Int32} {E0 : Option (GM × GE × Int32)} (hk : KL P y cc' maxL hh rm As g x E0) (hE : E0 = some b) (hm : Cond.codeWith y cc' maxL (some .int) hh ∈ g_w ∧ Cond.initialized y.cls ∈ g_w ∧ Cond.static y ∈ g_w ∧ Cond.methodLink own i y ∈ g_w) (hy : y.cls ≠ "java/lang/invoke/MethodHandle" ∧ y.cls ≠ "java/lang/invoke/VarHandle" ∧ (parseMethodDescriptor y.desc).map (fun d => d.parameters.length) = some n) (hr0 : rm.cells = 1 ∧ rm.slots = 6) (hR : rm.frames + 1 ≤ R0.frames ∧ 8 + (maxL + 11) + rm.locals ≤ R0.locals) (hcs : ce + 1 ≤ R0.cells ∧ sl + 6 ≤ R0.slots)
    (h0 : st0 = As.reverse ++ st) (hn : As.length = n) (h8 : (st.map fun v => v.category).sum ≤ 8) (hd : decode cc pc = .ok (.invokestatic i, 3))
    (kk : GR P X Qf (ce + 1) (sl + 6) E (pc + 3) L (.int b.2.2 :: st) b.1 b.2.1) : GR P X Qf ce sl E pc L st0 g x := by
  intro a ha H locs ls hl2 hP hS
  subst h0
  have cw : vx_CSW X.2.2.2.1 X.2.2.2.2.1 X.2.2.2.2.2.2.1 own i y cc' maxL (some .int) hh (g_wsH y cc' maxL hh) rm 1 6 n := by
    refine ⟨⟨hr0.1, hr0.2, by rw [hC.room]; exact hR.1, by rw [hC.room]; exact hR.2, fun w hw a' U hW => ?_, List.mem_cons_self⟩, hC.word hm.1, hC.word hm.2.1, ⟨hy.1, hy.2.1⟩, fun sig h => ?_, hC.word hm.2.2.2, hC.word hm.2.2.1⟩
    · have hw2 : w ∈ g_w := (List.mem_cons.mp hw).elim (fun e => e ▸ hm.1) id
      exact word_at hW (good_of_word (g_w_ok w hw2)) (hC.word hw2)
    · have h2 := hy.2.2
      rw [h] at h2
      exact (Option.some.inj h2).symm
  refine va_calli (vx_runSW (g_fix hC) (hk X.2.1 H.size b hC.2.2.2.2.2.2.2.2.2.2.2 hE) cw ⟨g_blind, g_give hC hP hS⟩ rfl hn (by rw [← hC.maxL]; exact hl2.1) rfl (by simpa using h8) hd (by rw [hC.room]; exact hcs)) hS (fun q _ h => hC.A q (g_A_mono hS.1 q h)) (fun q h => hC.A q (g_A_mono hS.1 q h)) (fun r u t H1 locs1 ht hvm hw hB hz1 hk1 hS1 => ?_)
  have hw' : r = b.2.2 := hw
  subst hw'
  have hP1 : va_P P.1 g_cl (g_wl P b.1 b.2.1) t.heap := hB
  rw [ht] at hP1
  exact kk a ha H1 locs1 ls hl2 hP1 hS1
/-- an instance's method, whose answer is known -/
theorem GR_callVK (hC : GC P X own cc nL R0) {o ci : Nat} {fs : List (Option (Option Nat))} {q : vw_C} {E0 : Option (GM × Int32)} {b : GM × Int32} (hk : KI P y cc' maxL ret rm (gr P o :: As) g E0) (hE : E0 = some b) (hm : g_MY y cc' maxL ret n) (hin : Cond.instanceMethod y ∈ g_w ∧ Cond.selects y.cls y y ∈ g_w) (hl : Cond.methodLink own i y ∈ g_w) (hs : (g_sh P)[o]? = some (.inr (ci, fs))) (hq : g_cl[ci]? = some q) (hqc : q.1 = y.cls) (hr0 : rm.cells = 0 ∧ rm.slots = 0) (hR : rm.frames + 1 ≤ R0.frames ∧ 8 + (maxL + 11) + rm.locals ≤ R0.locals) (hcs : ce ≤ R0.cells ∧ sl ≤ R0.slots)
    (h0 : st0 = As.reverse ++ gr P o :: st) (hn : As.length = n) (h8 : (st.map fun v => v.category).sum ≤ 8) (hd : decode cc pc = .ok (.invokevirtual i, 3))
    (kk : GR P X Qf ce sl E (pc + 3) L (.int b.2 :: st) b.1 x) : GR P X Qf ce sl E pc L st0 g x :=
  GR.eq (E' := E0.bind (fun _ => E)) (by rw [hE]; rfl) (GR_callVI (F := fun _ => E) hC hk hm hin hl hs hq hqc hr0 hR hcs h0 hn h8 hd (fun g' r h => by
    have e : (g', r) = b := Option.some.inj (h.symm.trans hE)
    subst e
    exact kk))
theorem GR_sld (hC : GC P X own cc nL R0) {b n : Nat} {xs : Nat → Int32} {i : Int32} (hX : va_X b n xs X.2.2.2.2.1 X.2.2.2.2.1.heap) (hb : b < X.2.2.2.2.1.heap.size) (hA : ¬ X.2.2.2.2.2.2.2.2.2.2 b) (hin : vp_in i n) (hd : decode cc pc = .ok (.iaload, 1)) (kk : GR P X Qf ce sl E (pc + 1) L (.int (xs i.toNatClampNeg) :: st) g x) : GR P X Qf ce sl E pc L (.int i :: .ref b :: st) g x :=
  fun a ha H locs ls hl hP hS => va_sld hC.exec hC.bytes hX hb hA hS hin hd (kk a ha H locs ls hl hP hS)
theorem GR_slenA (hC : GC P X own cc nL R0) {b n : Nat} {xs : Nat → Int32} (hX : va_X b n xs X.2.2.2.2.1 X.2.2.2.2.1.heap) (hb : b < X.2.2.2.2.1.heap.size) (hA : ¬ X.2.2.2.2.2.2.2.2.2.2 b) (hd : decode cc pc = .ok (.arraylength, 1)) (kk : GR P X Qf ce sl E (pc + 1) L (.int (Int32.ofNat n) :: st) g x) : GR P X Qf ce sl E pc L (.ref b :: st) g x :=
  fun a ha H locs ls hl hP hS => va_slen hC.exec hC.bytes hX hb hA hS hd (kk a ha H locs ls hl hP hS)
end GLAW
