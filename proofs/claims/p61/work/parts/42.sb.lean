/-! ===== StringBuilder: a world of two cells, the object and its bytes ===== -/
abbrev SBa (h v : Nat) : Nat → Nat := fun k => if k = 0 then h else v
abbrev SBf : List (Option (Option Nat)) := [some (some 1), none, none, none]
abbrev SBW (P0 : GP) (h v m : Nat) : GP := (P0.1, P0.2.1, SBa h v, P0.2.2.2.1, P0.2.2.2.2.1, [.inr (12, SBf), .inl (.byte, m, [])], P0.2.2.2.2.2.2)
theorem SB_wl {P0 : GP} {h v m : Nat} {g : GM} {x : GE} : g_wl (SBW P0 h v m) g x = [(h, .inr (12, [.ref v, .int (g 0 1), .int (g 0 2), .int (g 0 3)])), (v, .inl (P0.2.1 .byte, m, .inl (g 1)))] := rfl
/-- the superclass's own methods, that are run on whatever receiver -/
def sbP : List MethodName := [yJ5_ensureCapacityInternal_d00df, yJ5_newCapacity_0f7a4, yJ5_putStringAt_47b60, yJ5_inflateIfNeededFor_a7421]
/-- the digits' tables, that bytes may be cloned, and which method is run -/
def g_TB (D : Nat × Nat) (A : Nat → Prop) (U : State) (H : Heap) : Prop :=
  va_Z "java/lang/Integer" "DigitOnes" "[B" (.ref D.1) A U H ∧ va_T .byte D.1 100 (fun j => .int (nI (48 + j % 10))) A U H ∧
  va_Z "java/lang/Integer" "DigitTens" "[B" (.ref D.2) A U H ∧ va_T .byte D.2 100 (fun j => .int (nI (48 + j / 10))) A U H ∧ va_Nw (.castable "[B" "java/lang/Cloneable") U ∧ ∀ y ∈ sbP, va_Nw (.selects RJ4 y y) U
theorem g_TB.kept {D : Nat × Nat} {A : Nat → Prop} {U : State} {H H1 : Heap} (h : g_TB D A U H) (hq : ∀ a : Nat, a < H.size → ¬ A a → H1[a]? = H[a]?) : g_TB D A U H1 :=
  ⟨h.1.kept hq, h.2.1.kept hq, h.2.2.1.kept hq, h.2.2.2.1.kept hq, h.2.2.2.2⟩
theorem g_TB.narrow {D : Nat × Nat} {A B : Nat → Prop} {U : State} {H : Heap} (h : g_TB D A U H) (hAB : ∀ q, B q → A q) : g_TB D B U H :=
  ⟨h.1.narrow hAB, h.2.1.narrow hAB, h.2.2.1.narrow hAB, h.2.2.2.1.narrow hAB, h.2.2.2.2⟩
theorem g_TB.warm {D : Nat × Nat} {A : Nat → Prop} {s U : State} {H : Heap} (hW : s.WarmedH U.vm) (h : g_TB D A s H) : g_TB D A U H :=
  ⟨va_Z.moved hW.alike h.1, va_T.moved hW.alike h.2.1, va_Z.moved hW.alike h.2.2.1, va_T.moved hW.alike h.2.2.2.1, va_Nw.warmC hW h.2.2.2.2.1, fun y hy => word_at hW (good_of_word rfl) (h.2.2.2.2.2 y hy)⟩
theorem g_TB.same {D : Nat × Nat} {A : Nat → Prop} {u U : State} {H : Heap} (hv : u.vm = U.vm) (h : g_TB D A u H) : g_TB D A U H :=
  have hW : u.vm.Alike U.vm := hv ▸ Vm.Alike.refl u.vm
  ⟨va_Z.moved hW h.1, va_T.moved hW h.2.1, va_Z.moved hW h.2.2.1, va_T.moved hW h.2.2.2.1, va_Nw.same rfl hv h.2.2.2.2.1, fun y hy => va_Nw.same rfl hv (h.2.2.2.2.2 y hy)⟩
def g_pre2 (P : GP) (D : Nat × Nat) (g : GM) (x : GE) (sz : Nat) (U : State) : Prop := g_pre P g x sz U ∧ g_TB D (g_A P sz) U U.heap
theorem g_blind2 {P : GP} {D : Nat × Nat} {g : GM} {x : GE} {sz : Nat} {As : List Value} : FrameBlind (va_Pc As (g_pre2 P D g x sz)) :=
  fun a U f mk h => ⟨h.1, (g_blind a U f mk ⟨h.1, h.2.1⟩).2, g_TB.same (u := U) (U := U.calling f mk a) rfl h.2.2⟩
theorem g_give2 {P : GP} {D : Nat × Nat} {X : GX} {own : String} {cc : ByteArray} {nL : Nat} {R0 : Room} (hC : GC P X own cc nL R0) (hT : g_TB D X.2.2.2.2.2.2.2.2.2.2 X.2.2.2.2.1 X.2.2.2.2.1.heap) {g : GM} {x : GE} {As : List Value} {H : Heap} {locs : List Loc} (hP : va_P P.1 g_cl (g_wl P g x) H) (hS : va_S X.2.2.2.2.2.2.2.2.2.2 X.2.2.2.2.1.heap H locs) :
    ∀ U : State, U.heap = H → X.2.2.2.2.1.WarmedH U.vm → va_Pc As (g_pre2 P D g x H.size) As.toArray U := by
  intro U hU hW
  refine ⟨rfl, (g_give hC hP hS U hU hW (As := As)).2, ?_⟩
  rw [hU]
  exact g_TB.warm hW ((hT.kept hS.2.1).narrow (fun q hq => hC.A q (g_A_mono hS.1 q hq)))
/-- the world behind a call: the object at h, its bytes at a cell of this world or a new one -/
def SBq (P0 : GP) (h v sz : Nat) (x : GE) (R : Nat → GM → Prop) (t : State) : Prop := ∃ (v' m' : Nat) (g' : GM), (v' = v ∨ sz ≤ v') ∧ v' ≠ h ∧ R m' g' ∧ g_pw (SBW P0 h v' m') g' x t
def KBV (P0 : GP) (D : Nat × Nat) (y : MethodName) (cc : ByteArray) (maxL : Nat) (rm : Room) (As : List Value) (h v m : Nat) (g : GM) (R : Nat → GM → Prop) : Prop :=
  ∀ (l : Launch) (x : GE) (sz : Nat), l.stackTraces = false →
    Met l y (g_ws y cc maxL none) rm (va_Pc As (g_pre2 (SBW P0 h v m) D g x sz)) (va_Qv (fun (_ : Unit) => True) (fun _ => SBq P0 h v sz x R) (g_A (SBW P0 h v m) sz)) rm.cells rm.slots (g_A (SBW P0 h v m) sz)
def KBR (P0 : GP) (D : Nat × Nat) (y : MethodName) (cc : ByteArray) (maxL : Nat) (ret : FieldType) (rm : Room) (As : List Value) (h v m : Nat) (g : GM) (R : Nat → GM → Prop) : Prop :=
  ∀ (l : Launch) (x : GE) (sz : Nat), l.stackTraces = false →
    Met l y (g_ws y cc maxL (some ret)) rm (va_Pc As (g_pre2 (SBW P0 h v m) D g x sz)) (va_Qr (fun (_ : Unit) => True) (fun _ a t => a = h ∧ SBq P0 h v sz x R t) (g_A (SBW P0 h v m) sz)) rm.cells rm.slots (g_A (SBW P0 h v m) sz)
def g_QBV (P0 : GP) (h v : Nat) (R : Nat → GM → Prop) (X : GX) (x : GE) (ca cb : Nat) : Unit → State → Prop := fun _ => MQ X.2.2.2.2.2.2.2.1 (va_Qv (fun (_ : Unit) => True) (fun _ => SBq P0 h v X.2.2.2.2.1.heap.size x R) X.2.2.2.2.2.2.2.2.2.2) X.2.2.2.2.2.2.1 X.2.2.2.2.1 ca cb X.2.2.2.2.2.2.2.2.2.2
def g_QBR (P0 : GP) (h v : Nat) (R : Nat → GM → Prop) (X : GX) (x : GE) (ca cb : Nat) : Unit → State → Prop := fun _ => MQ X.2.2.2.2.2.2.2.1 (va_Qr (fun (_ : Unit) => True) (fun _ a t => a = h ∧ SBq P0 h v X.2.2.2.2.1.heap.size x R t) X.2.2.2.2.2.2.2.2.2.2) X.2.2.2.2.2.2.1 X.2.2.2.2.1 ca cb X.2.2.2.2.2.2.2.2.2.2
/-- a method with a state of its own kind: what the walk gets -/
theorem g_entry {P : GP} {D : Nat × Nat} {y : MethodName} {cc : ByteArray} {maxL : Nat} {ret : Option FieldType} {rm : Room} {As : List Value} {g : GM} {x : GE} {sz mc ms : Nat} {Qc : Array Value → State → Outcome → State → Prop} {l : Launch} (hst : l.stackTraces = false) (hy : plainName y.cls = true) (hAs : g_c1 (As.map some) = true) (hn : As.length ≤ maxL) {Qf : GX → Unit → State → Prop}
    (hQ : ∀ (p : Program) (e : Env) (s : State) (m : MethodId) (args : Array Value) (below : List Frame) (meth : Method) (c : Code), s.heap.size = sz → ∀ t, Qf (p, l, e, (headSpec (g_ws y cc maxL ret) rm).room, s, m, As.toArray, below, meth, c, g_A P s.heap.size) () t → MQ below Qc As.toArray s mc ms (g_A P sz) t)
    (h : ∀ X : GX, X.2.2.2.2.1.heap.size = sz → GC P X y.cls cc maxL rm → X.2.2.2.2.2.2.2.2.1.sig.returnType = ret → X.2.2.2.2.2.2.2.2.1.name = y.name ∧ X.2.2.2.2.2.2.2.2.2.2 = g_A P X.2.2.2.2.1.heap.size → g_TB D X.2.2.2.2.2.2.2.2.2.2 X.2.2.2.2.1 X.2.2.2.2.1.heap → GR P X (Qf X) 0 0 (some ()) 0 (g_L0 As maxL) [] g x) :
    Met l y (g_ws y cc maxL ret) rm (va_Pc As (g_pre2 P D g x sz)) Qc mc ms (g_A P sz) := by
  refine Met.ofW (cc := cc) (maxL := maxL) (ret := ret) hy rfl ?_
  intro p e s m args below meth c s₁ B hml hv
  obtain ⟨rfl, ⟨hsz, hP, hK, hi, hG⟩, hTB⟩ := hv
  have hts : ∀ w ∈ g_ws y cc maxL ret, w.before As.toArray s = true := atoms_spec (ws := g_ws y cc maxL ret) B.pre
  have hl := lv_entry As (n := maxL) (by rw [g_sl_len As hAs]; exact hn)
  rw [lg_entry_eq]
  generalize (lg_sl As ++ List.replicate (maxL - (lg_sl As).length) Slot.unset).toArray = ls at hl ⊢
  have hC : GC P (p, l, e, (headSpec (g_ws y cc maxL ret) rm).room, s, m, As.toArray, below, meth, c, g_A P s.heap.size) y.cls cc maxL rm :=
    ⟨B.exec, B.bytes, hml, findClass_of_methodNamed B.named, fun w hw => hts w (List.mem_cons_of_mem _ hw), hK, B.notSynchronized, rfl, fun _ h => h, hi, hsz ▸ hG, hst⟩
  have hl2 : g_lh ls c.maxLocals (g_L0 As maxL) := by
    rw [hml]
    unfold g_lh g_L0
    rw [← g_args_lp As 0 (maxL - As.length) hAs]
    exact hl
  intro T hT Xs
  obtain ⟨t, a, b⟩ := h (p, l, e, (headSpec (g_ws y cc maxL ret) rm).room, s, m, As.toArray, below, meth, c, g_A P s.heap.size) hsz hC B.returns ⟨(name_of_methodNamed B.named B.method).1, rfl⟩ (hsz ▸ hTB) () rfl s.heap [] ls hl2 hP va_S.rf T hT Xs
  exact ⟨t, a, hQ p e s m As.toArray below meth c hsz t b⟩
theorem KBV.ofW {P0 : GP} {D : Nat × Nat} {y : MethodName} {cc : ByteArray} {maxL : Nat} {rm : Room} {As : List Value} {h v m : Nat} {g : GM} {R : Nat → GM → Prop} (hy : plainName y.cls = true) (hAs : g_c1 (As.map some) = true) (hn : As.length ≤ maxL)
    (hh : ∀ (X : GX) (x : GE), GC (SBW P0 h v m) X y.cls cc maxL rm → X.2.2.2.2.2.2.2.2.1.sig.returnType = none → g_TB D X.2.2.2.2.2.2.2.2.2.2 X.2.2.2.2.1 X.2.2.2.2.1.heap → GR (SBW P0 h v m) X (g_QBV P0 h v R X x rm.cells rm.slots) 0 0 (some ()) 0 (g_L0 As maxL) [] g x) : KBV P0 D y cc maxL rm As h v m g R :=
  fun l x sz hst => g_entry hst hy hAs hn (Qf := fun X => g_QBV P0 h v R X x rm.cells rm.slots) (fun p e s m args below meth c hsz t ht => by subst hsz; exact ht) (fun X hsz hC hr hnm hT => hh X x hC hr hT)
theorem KBR.ofW {P0 : GP} {D : Nat × Nat} {y : MethodName} {cc : ByteArray} {maxL : Nat} {ret : FieldType} {rm : Room} {As : List Value} {h v m : Nat} {g : GM} {R : Nat → GM → Prop} (hy : plainName y.cls = true) (hAs : g_c1 (As.map some) = true) (hn : As.length ≤ maxL)
    (hh : ∀ (X : GX) (x : GE), GC (SBW P0 h v m) X y.cls cc maxL rm → X.2.2.2.2.2.2.2.2.1.sig.returnType = some ret → g_TB D X.2.2.2.2.2.2.2.2.2.2 X.2.2.2.2.1 X.2.2.2.2.1.heap → GR (SBW P0 h v m) X (g_QBR P0 h v R X x rm.cells rm.slots) 0 0 (some ()) 0 (g_L0 As maxL) [] g x) : KBR P0 D y cc maxL ret rm As h v m g R :=
  fun l x sz hst => g_entry hst hy hAs hn (Qf := fun X => g_QBR P0 h v R X x rm.cells rm.slots) (fun p e s m args below meth c hsz t ht => by subst hsz; exact ht) (fun X hsz hC hr hnm hT => hh X x hC hr hT)
/-- a callee that is named x and is y: by its tables -/
def g_CU (own : String) (i : Nat) (x y : MethodName) (n : Nat) : Prop := Cond.methodLink own i x ∈ g_w ∧ Cond.sameMethod x.cls x.cls x.name x.desc ∈ g_w ∧ Cond.instanceMethod x ∈ g_w ∧ (∃ b m r, Cond.code x b m r ∈ g_w) ∧ Cond.instanceMethod y ∈ g_w ∧ (x.cls ≠ "java/lang/invoke/MethodHandle" ∧ x.cls ≠ "java/lang/invoke/VarHandle" ∧ (parseMethodDescriptor x.desc).map (fun d => d.parameters.length) = some n)
theorem g_pay {P : GP} {X : GX} {own : String} {cc : ByteArray} {nL : Nat} {R0 : Room} (hC : GC P X own cc nL R0) {y : MethodName} {cc' : ByteArray} {maxL : Nat} {ret : Option FieldType} (hm : Cond.code y cc' maxL ret ∈ g_w) : ∀ w ∈ g_ws y cc' maxL ret, ∀ (a' : Array Value) (U : State), X.2.2.2.2.1.WarmedH U.vm → w.before a' U = true := fun w hw a' U hW =>
  have hw2 : w ∈ g_w := (List.mem_cons.mp hw).elim (fun e => e ▸ hm) id
  word_at hW (good_of_word (g_w_ok w hw2)) (hC.word hw2)
theorem g_cwU {P : GP} {X : GX} {own : String} {cc : ByteArray} {nL : Nat} {R0 : Room} (hC : GC P X own cc nL R0) {x y : MethodName} {cc' : ByteArray} {maxL n i : Nat} {ret : Option FieldType} {rm : Room} {C : String} (hm : g_MY y cc' maxL ret n) (hx : g_CU own i x y n) (hsel : (Cond.selects C x y).before X.2.2.2.2.2.2.1 X.2.2.2.2.1 = true) (hR : rm.frames + 1 ≤ R0.frames ∧ 8 + (maxL + 11) + rm.locals ≤ R0.locals) :
    va_CU X.2.2.2.1 X.2.2.2.2.1 X.2.2.2.2.2.2.1 own C x.cls i x y cc' maxL ret (g_ws y cc' maxL ret) rm rm.cells rm.slots n := by
  obtain ⟨x1, x2, x3, ⟨b0, m0, r0, x4⟩, x5, x6, x7, x8⟩ := hx
  refine ⟨⟨rfl, rfl, by rw [hC.room]; exact hR.1, by rw [hC.room]; exact hR.2, g_pay hC hm.1, List.mem_cons_self⟩, hC.word hm.1, hC.word hm.2.1, ⟨x6, x7⟩, fun sig h => ?_, hC.word x1, hC.word x2, va_Decl.of (hC.word x3) (hC.word x4), hsel, hC.word x5⟩
  rw [h] at x8
  exact (Option.some.inj x8).symm
/-- a callee of the superclass -/
def g_CS (own : String) (i : Nat) (y : MethodName) (cc' : ByteArray) (maxL : Nat) (ret : Option FieldType) (n : Nat) : Prop := Cond.methodLink own i y ∈ g_w ∧ Cond.sameMethod y.cls y.cls y.name y.desc ∈ g_w ∧ Cond.superclass own y.cls ∈ g_w ∧ Cond.instanceMethod y ∈ g_w ∧ Cond.initialized y.cls ∈ g_w ∧ Cond.code y cc' maxL ret ∈ g_w ∧ y.name ≠ "<init>" ∧ (parseMethodDescriptor y.desc).map (fun d => d.parameters.length) = some n
theorem g_cwS {P : GP} {X : GX} {own : String} {cc : ByteArray} {nL : Nat} {R0 : Room} (hC : GC P X own cc nL R0) {y : MethodName} {cc' : ByteArray} {maxL n i : Nat} {ret : Option FieldType} {rm : Room} (hx : g_CS own i y cc' maxL ret n) (hR : rm.frames + 1 ≤ R0.frames ∧ 8 + (maxL + 11) + rm.locals ≤ R0.locals) :
    va_CS X.2.2.2.1 X.2.2.2.2.1 X.2.2.2.2.2.2.1 own i y cc' maxL ret (g_ws y cc' maxL ret) rm rm.cells rm.slots n := by
  obtain ⟨x1, x2, x3, x4, x5, x6, x7, x8⟩ := hx
  refine ⟨⟨rfl, rfl, by rw [hC.room]; exact hR.1, by rw [hC.room]; exact hR.2, g_pay hC x6, List.mem_cons_self⟩, hC.word x1, hC.word x2, hC.word x3, hC.word x4, hC.word x5, hC.word x6, x7, fun sig h => ?_⟩
  rw [h] at x8
  exact (Option.some.inj x8).symm
theorem g_cwB {P : GP} {X : GX} {own : String} {cc : ByteArray} {nL : Nat} {R0 : Room} (hC : GC P X own cc nL R0) {y : MethodName} {cc' : ByteArray} {maxL n i : Nat} {ret : Option FieldType} {rm : Room} (hm : g_MY y cc' maxL ret n) (hl : Cond.methodLink own i y ∈ g_w) (hR : rm.frames + 1 ≤ R0.frames ∧ 8 + (maxL + 11) + rm.locals ≤ R0.locals) :
    CallB X.2.2.2.1 X.2.2.2.2.1 X.2.2.2.2.2.2.1 own i y cc' maxL ret (g_ws y cc' maxL ret) rm rm.cells rm.slots n := by
  refine ⟨rfl, rfl, by rw [hC.room]; exact hR.1, by rw [hC.room]; exact hR.2, g_pay hC hm.1, List.mem_cons_self, hC.word hm.1, hC.word hm.2.1, ⟨hm.2.2.1, hm.2.2.2.1⟩, fun sig h => ?_, hC.word hl⟩
  have h2 := hm.2.2.2.2
  rw [h] at h2
  exact (Option.some.inj h2).symm
/-- a private method of the superclass is what it is, whatever the receiver -/
theorem sb_selP {y : MethodName} {s : State} {args : Array Value} (hy : y.cls = RJ5) (hi : (Cond.instantiable RJ4 4).before args s = true) (hp : (Cond.privateMethod y).before args s = true) (hin : (Cond.instanceMethod y).before args s = true) {z : MethodName} {cc : ByteArray} (hz : z.cls = RJ5) (hsz : (Cond.selects RJ4 z z).before args s = true) : (Cond.selects RJ4 y y).before args s = true := by
  obtain ⟨c, k, hc, hk, -, hniab, -, -⟩ := Cond.instantiable_spec hi
  obtain ⟨mk, methM, hnamed, hmethM, -, -⟩ := Cond.instanceMethod_spec hin
  obtain ⟨c2, r2, m2, -, -, q3, -, kP, hkP, hkPi⟩ := Cond.selects_spec hsz
  have hfound : s.methodFound? y.cls y.name y.desc = some mk := State.methodFound?_of_named hnamed (by rw [hy]; exact ⟨by decide, by decide⟩)
  have hcls : mk.cls = m2.cls := by
    have a1 := findClass_of_methodNamed hnamed
    have a2 := findClass_of_methodNamed q3
    rw [hy] at a1
    rw [hz] at a2
    exact Option.some.inj (a1.symm.trans a2)
  have hsel : selectMethod {} s.vm c mk = .method mk := selectMethod_private hmethM (Cond.privateMethod_at hp mk methM hnamed hmethM)
  simp only [Cond.before, Cond.holds, Cond.value, hc, hfound, hnamed, hsel, hcls, hkP]
  simp; exact hkPi
/-- the world behind a call is a world again -/
theorem SB_back {P0 : GP} {h v m sz v' m' : Nat} {X : GX} {own : String} {cc : ByteArray} {nL : Nat} {R0 : Room} (hC : GC (SBW P0 h v m) X own cc nL R0) (hsz : X.2.2.2.2.1.heap.size ≤ sz) (hv : v' = v ∨ sz ≤ v') (hne : v' ≠ h) : GC (SBW P0 h v' m') X own cc nL R0 := by
  refine ⟨hC.1, hC.2.1, hC.2.2.1, hC.2.2.2.1, hC.2.2.2.2.1, hC.K, hC.locks, hC.room, fun q hq => ?_, fun i j hi hj e => ?_, hC.E, hC.2.2.2.2.2.2.2.2.2.2.2⟩
  · rcases hq with ⟨k, hk, rfl⟩ | h1
    · have hk2 : k < 2 := hk
      show X.2.2.2.2.2.2.2.2.2.2 (if k = 0 then h else v')
      by_cases e : k = 0
      · rw [if_pos e]; exact hC.A _ (Or.inl ⟨0, Nat.zero_lt_succ 1, rfl⟩)
      · rw [if_neg e]
        rcases hv with rfl | hv
        · exact hC.A _ (Or.inl ⟨1, Nat.lt_succ_self 1, rfl⟩)
        · exact hC.A _ (Or.inr (Nat.le_trans hsz hv))
    · exact hC.A _ (Or.inr h1)
  · have hi2 : i < 2 := hi
    have hj2 : j < 2 := hj
    have e2 : (if i = 0 then h else v') = (if j = 0 then h else v') := e
    by_cases a : i = 0 <;> by_cases b : j = 0
    · omega
    · rw [if_pos a, if_neg b] at e2; exact absurd e2.symm hne
    · rw [if_neg a, if_pos b] at e2; exact absurd e2 hne
    · omega
section SBC
variable {P0 : GP} {D : Nat × Nat} {h v m : Nat} {X : GX} {own : String} {cc : ByteArray} {nL : Nat} {R0 : Room} {α : Type} {Qf : α → State → Prop} {ce sl pc : Nat} {L : List (Option Value)} {st st0 : List Value} {g : GM} {x : GE} {E : Option α}
variable {y x0 : MethodName} {cc' : ByteArray} {maxL n i : Nat} {ret : FieldType} {rm : Room} {As : List Value} {R : Nat → GM → Prop}
theorem SB_recv (hC : GC (SBW P0 h v m) X own cc nL R0) {H : Heap} (hP : va_P P0.1 g_cl (g_wl (SBW P0 h v m) g x) H) : ∃ cell : Cell, H[h]? = some cell ∧ cell.vm.isStatics = false ∧ X.2.2.2.2.1.vm.findClass RJ4 = some cell.cls :=
  g_recv (o := 0) (ci := 12) (fs := SBf) (q := (RJ4, TJ4, 4)) hC hP rfl rfl
theorem SB_at (hC : GC (SBW P0 h v m) X own cc nL R0) : ClassAt X.2.2.2.2.1 RJ4 (P0.1.1 12) := (hC.K.1 12 (RJ4, TJ4, 4) rfl).2
theorem GR_ubv (hC : GC (SBW P0 h v m) X own cc nL R0) (hT : g_TB D X.2.2.2.2.2.2.2.2.2.2 X.2.2.2.2.1 X.2.2.2.2.1.heap) (hk : KBV P0 D y cc' maxL rm (.ref h :: As) h v m g R) (hm : g_MY y cc' maxL none n) (hx : g_CU own i x0 y n) (hsel : (Cond.selects RJ4 x0 y).before X.2.2.2.2.2.2.1 X.2.2.2.2.1 = true) (hR : rm.frames + 1 ≤ R0.frames ∧ 8 + (maxL + 11) + rm.locals ≤ R0.locals) (hcs : ce + rm.cells ≤ R0.cells ∧ sl + rm.slots ≤ R0.slots)
    (h0 : st0 = As.reverse ++ .ref h :: st) (hn : As.length = n) (h8 : (st.map fun v => v.category).sum ≤ 8) (hd : decode cc pc = .ok (.invokevirtual i, 3))
    (kk : ∀ (v' m' : Nat) (g' : GM), (v' = v ∨ X.2.2.2.2.1.heap.size ≤ v') → v' ≠ h → R m' g' → GC (SBW P0 h v' m') X own cc nL R0 → GR (SBW P0 h v' m') X Qf (ce + rm.cells) (sl + rm.slots) E (pc + 3) L st g' x) : GR (SBW P0 h v m) X Qf ce sl E pc L st0 g x := by
  intro a ha H locs ls hl2 hP hS
  subst h0
  refine va_callv (va_runU (C := RJ4) (g_fix hC) (hk X.2.1 x H.size hC.2.2.2.2.2.2.2.2.2.2.2) (g_cwU hC hm hx hsel hR) ⟨g_blind2, SB_recv hC hP, g_give2 hC hT hP hS⟩ rfl hn (by rw [← hC.maxL]; exact hl2.1) rfl (by simpa using h8) hd (by rw [hC.room]; exact hcs)) hS (fun q _ h => hC.A q (g_A_mono hS.1 q h)) (fun q h => hC.A q (g_A_mono hS.1 q h)) (fun u t H1 locs1 ht hvm hw hB hz1 hk1 hS1 => ?_)
  obtain ⟨v', m', g', q1, q2, q3, q4⟩ := hB
  have hP1 : va_P P0.1 g_cl (g_wl (SBW P0 h v' m') g' x) t.heap := q4
  rw [ht] at hP1
  exact kk v' m' g' (q1.imp id (Nat.le_trans hS.1)) q2 q3 (SB_back hC hS.1 q1 q2) a ha H1 locs1 ls hl2 hP1 hS1
/-- .. that answers this object, by the tables of its name -/
theorem GR_ubr (hC : GC (SBW P0 h v m) X own cc nL R0) (hT : g_TB D X.2.2.2.2.2.2.2.2.2.2 X.2.2.2.2.1 X.2.2.2.2.1.heap) (hk : KBR P0 D y cc' maxL ret rm (.ref h :: As) h v m g R) (hm : g_MY y cc' maxL (some ret) n) (hx : g_CU own i x0 y n) (hsel : (Cond.selects RJ4 x0 y).before X.2.2.2.2.2.2.1 X.2.2.2.2.1 = true) (hR : rm.frames + 1 ≤ R0.frames ∧ 8 + (maxL + 11) + rm.locals ≤ R0.locals) (hcs : ce + rm.cells ≤ R0.cells ∧ sl + rm.slots ≤ R0.slots)
    (h0 : st0 = As.reverse ++ .ref h :: st) (hn : As.length = n) (h8 : (st.map fun v => v.category).sum ≤ 8) (hd : decode cc pc = .ok (.invokevirtual i, 3))
    (kk : ∀ (v' m' : Nat) (g' : GM), (v' = v ∨ X.2.2.2.2.1.heap.size ≤ v') → v' ≠ h → R m' g' → GC (SBW P0 h v' m') X own cc nL R0 → GR (SBW P0 h v' m') X Qf (ce + rm.cells) (sl + rm.slots) E (pc + 3) L (.ref h :: st) g' x) : GR (SBW P0 h v m) X Qf ce sl E pc L st0 g x := by
  intro a ha H locs ls hl2 hP hS
  subst h0
  refine va_callr (va_runU (C := RJ4) (g_fix hC) (hk X.2.1 x H.size hC.2.2.2.2.2.2.2.2.2.2.2) (g_cwU hC hm hx hsel hR) ⟨g_blind2, SB_recv hC hP, g_give2 hC hT hP hS⟩ rfl hn (by rw [← hC.maxL]; exact hl2.1) rfl (by simpa using h8) hd (by rw [hC.room]; exact hcs)) hS (fun q _ h => hC.A q (g_A_mono hS.1 q h)) (fun q h => hC.A q (g_A_mono hS.1 q h)) (fun u ra t H1 locs1 ht hvm hw hB hz1 hk1 hS1 => ?_)
  obtain ⟨rfl, v', m', g', q1, q2, q3, q4⟩ := hB
  have hP1 : va_P P0.1 g_cl (g_wl (SBW P0 ra v' m') g' x) t.heap := q4
  rw [ht] at hP1
  exact kk v' m' g' (q1.imp id (Nat.le_trans hS.1)) q2 q3 (SB_back hC hS.1 q1 q2) a ha H1 locs1 ls hl2 hP1 hS1
/-- .. of its own class -/
theorem GR_vbr (hC : GC (SBW P0 h v m) X own cc nL R0) (hT : g_TB D X.2.2.2.2.2.2.2.2.2.2 X.2.2.2.2.1 X.2.2.2.2.1.heap) (hk : KBR P0 D y cc' maxL ret rm (.ref h :: As) h v m g R) (hm : g_MY y cc' maxL (some ret) n) (hl : Cond.methodLink own i y ∈ g_w) (hin : Cond.instanceMethod y ∈ g_w ∧ Cond.selects RJ4 y y ∈ g_w) (hR : rm.frames + 1 ≤ R0.frames ∧ 8 + (maxL + 11) + rm.locals ≤ R0.locals) (hcs : ce + rm.cells ≤ R0.cells ∧ sl + rm.slots ≤ R0.slots)
    (h0 : st0 = As.reverse ++ .ref h :: st) (hn : As.length = n) (h8 : (st.map fun v => v.category).sum ≤ 8) (hd : decode cc pc = .ok (.invokevirtual i, 3))
    (kk : ∀ (v' m' : Nat) (g' : GM), (v' = v ∨ X.2.2.2.2.1.heap.size ≤ v') → v' ≠ h → R m' g' → GC (SBW P0 h v' m') X own cc nL R0 → GR (SBW P0 h v' m') X Qf (ce + rm.cells) (sl + rm.slots) E (pc + 3) L (.ref h :: st) g' x) : GR (SBW P0 h v m) X Qf ce sl E pc L st0 g x := by
  intro a ha H locs ls hl2 hP hS
  subst h0
  refine va_callr (va_runV (C := RJ4) (g_fix hC) (hk X.2.1 x H.size hC.2.2.2.2.2.2.2.2.2.2.2) ⟨g_cwB hC hm hl hR, hC.word hin.1, hC.word hin.2⟩ ⟨g_blind2, SB_recv hC hP, g_give2 hC hT hP hS⟩ rfl hn (by rw [← hC.maxL]; exact hl2.1) rfl (by simpa using h8) hd (by rw [hC.room]; exact hcs)) hS (fun q _ h => hC.A q (g_A_mono hS.1 q h)) (fun q h => hC.A q (g_A_mono hS.1 q h)) (fun u ra t H1 locs1 ht hvm hw hB hz1 hk1 hS1 => ?_)
  obtain ⟨rfl, v', m', g', q1, q2, q3, q4⟩ := hB
  have hP1 : va_P P0.1 g_cl (g_wl (SBW P0 ra v' m') g' x) t.heap := q4
  rw [ht] at hP1
  exact kk v' m' g' (q1.imp id (Nat.le_trans hS.1)) q2 q3 (SB_back hC hS.1 q1 q2) a ha H1 locs1 ls hl2 hP1 hS1
/-- .. of the superclass -/
theorem GR_sbr (hC : GC (SBW P0 h v m) X own cc nL R0) (hT : g_TB D X.2.2.2.2.2.2.2.2.2.2 X.2.2.2.2.1 X.2.2.2.2.1.heap) (hk : KBR P0 D y cc' maxL ret rm (.ref h :: As) h v m g R) (hx : g_CS own i y cc' maxL (some ret) n) (hR : rm.frames + 1 ≤ R0.frames ∧ 8 + (maxL + 11) + rm.locals ≤ R0.locals) (hcs : ce + rm.cells ≤ R0.cells ∧ sl + rm.slots ≤ R0.slots)
    (h0 : st0 = As.reverse ++ .ref h :: st) (hn : As.length = n) (h8 : (st.map fun v => v.category).sum ≤ 8) (hd : decode cc pc = .ok (.invokespecial i, 3))
    (kk : ∀ (v' m' : Nat) (g' : GM), (v' = v ∨ X.2.2.2.2.1.heap.size ≤ v') → v' ≠ h → R m' g' → GC (SBW P0 h v' m') X own cc nL R0 → GR (SBW P0 h v' m') X Qf (ce + rm.cells) (sl + rm.slots) E (pc + 3) L (.ref h :: st) g' x) : GR (SBW P0 h v m) X Qf ce sl E pc L st0 g x := by
  intro a ha H locs ls hl2 hP hS
  subst h0
  refine va_callr (va_runSU (C := RJ4) (SB_at hC) (g_fix hC) (hk X.2.1 x H.size hC.2.2.2.2.2.2.2.2.2.2.2) (g_cwS hC hx hR) ⟨g_blind2, SB_recv hC hP, g_give2 hC hT hP hS⟩ rfl hn (by rw [← hC.maxL]; exact hl2.1) rfl (by simpa using h8) hd (by rw [hC.room]; exact hcs)) hS (fun q _ h => hC.A q (g_A_mono hS.1 q h)) (fun q h => hC.A q (g_A_mono hS.1 q h)) (fun u ra t H1 locs1 ht hvm hw hB hz1 hk1 hS1 => ?_)
  obtain ⟨rfl, v', m', g', q1, q2, q3, q4⟩ := hB
  have hP1 : va_P P0.1 g_cl (g_wl (SBW P0 ra v' m') g' x) t.heap := q4
  rw [ht] at hP1
  exact kk v' m' g' (q1.imp id (Nat.le_trans hS.1)) q2 q3 (SB_back hC hS.1 q1 q2) a ha H1 locs1 ls hl2 hP1 hS1
end SBC
