/-! ===== contracts ===== -/
def g_pre (P : GP) (g : GM) (x : GE) (sz : Nat) (U : State) : Prop := U.heap.size = sz ∧ va_P P.1 g_cl (g_wl P g x) U.heap ∧ va_K P.1 g_cl (g_tys P) U ∧ g_inj P ∧ g_E P (g_A P sz) U U.heap
def g_pw (P : GP) (g : GM) (x : GE) (t : State) : Prop := va_P P.1 g_cl (g_wl P g x) t.heap
/-- a method that answers an int (boolean, byte, char): where E is some (g', r), it answers r and leaves g' -/
def KI (P : GP) (y : MethodName) (cc : ByteArray) (maxL : Nat) (ret : Option FieldType) (rm : Room) (As : List Value) (g : GM) (E : Option (GM × Int32)) : Prop :=
  ∀ (l : Launch) (x : GE) (sz : Nat) (a : GM × Int32), l.stackTraces = false → E = some a →
    Met l y (g_ws y cc maxL ret) rm (va_Pc As (g_pre P g x sz)) (va_Qi (fun r (_ : Unit) => r = a.2) (fun _ => g_pw P a.1 x) (g_A P sz)) 0 0 (g_A P sz)
/-- a method that answers nothing -/
def KV (P : GP) (y : MethodName) (cc : ByteArray) (maxL : Nat) (rm : Room) (As : List Value) (g : GM) (E : Option GM) : Prop :=
  ∀ (l : Launch) (x : GE) (sz : Nat) (a : GM), l.stackTraces = false → E = some a →
    Met l y (g_ws y cc maxL none) rm (va_Pc As (g_pre P g x sz)) (va_Qv (fun (_ : Unit) => True) (fun _ => g_pw P a x) (g_A P sz)) 0 0 (g_A P sz)
/-- a method that answers a string constant, by its place -/
def KR (P : GP) (y : MethodName) (cc : ByteArray) (maxL : Nat) (rm : Room) (As : List Value) (g : GM) (E : Option Nat) : Prop :=
  ∀ (l : Launch) (x : GE) (sz i : Nat), l.stackTraces = false → E = some i →
    Met l y (g_ws y cc maxL (some (.object "java/lang/String"))) rm (va_Pc As (g_pre P g x sz)) (va_Qr (fun (_ : Unit) => True) (fun _ a t => a = P.2.2.2.1 i ∧ g_pw P g x t) (g_A P sz)) 0 0 (g_A P sz)
theorem g_blind {P : GP} {g : GM} {x : GE} {sz : Nat} {As : List Value} : FrameBlind (va_Pc As (g_pre P g x sz)) :=
  fun a U f mk h => ⟨h.1, h.2.1, h.2.2.1, va_K.moved (u := U) (U := U.calling f mk a) (Vm.Alike.refl U.vm) h.2.2.2.1, h.2.2.2.2.1, g_E.same (u := U) (U := U.calling f mk a) rfl h.2.2.2.2.2⟩
theorem g_A_mono {P : GP} {a b : Nat} (h : a ≤ b) : ∀ q, g_A P b q → g_A P a q := fun q hq => hq.elim Or.inl (fun h2 => Or.inr (Nat.le_trans h h2))
/-- what a caller hands over -/
theorem g_give {P : GP} {X : GX} {own : String} {cc : ByteArray} {nL : Nat} {R0 : Room} (hC : GC P X own cc nL R0) {g : GM} {x : GE} {As : List Value} {H : Heap} {locs : List Loc} (hP : va_P P.1 g_cl (g_wl P g x) H) (hS : va_S X.2.2.2.2.2.2.2.2.2.2 X.2.2.2.2.1.heap H locs) :
    ∀ U : State, U.heap = H → X.2.2.2.2.1.WarmedH U.vm → va_Pc As (g_pre P g x H.size) As.toArray U := by
  intro U hU hW
  refine ⟨rfl, by rw [hU], by rw [hU]; exact hP, va_K.moved hW.alike hC.K, hC.inj, ?_⟩
  rw [hU]
  exact g_E.warm hW ((hC.E.kept hS.2.1).narrow (fun q hq => hC.A q (g_A_mono hS.1 q hq)))
/-- a callee: its code, its class -/
def g_MY (y : MethodName) (cc : ByteArray) (maxL : Nat) (ret : Option FieldType) (n : Nat) : Prop :=
  Cond.code y cc maxL ret ∈ g_w ∧ Cond.initialized y.cls ∈ g_w ∧ (y.cls ≠ "java/lang/invoke/MethodHandle" ∧ y.cls ≠ "java/lang/invoke/VarHandle" ∧ (parseMethodDescriptor y.desc).map (fun d => d.parameters.length) = some n)
theorem g_callB {P : GP} {X : GX} {own : String} {cc : ByteArray} {nL : Nat} {R0 : Room} (hC : GC P X own cc nL R0) {y : MethodName} {cc' : ByteArray} {maxL : Nat} {ret : Option FieldType} {n i : Nat} {rm : Room} (hm : g_MY y cc' maxL ret n) (hl : Cond.methodLink own i y ∈ g_w) (hr0 : rm.cells = 0 ∧ rm.slots = 0) (hR : rm.frames + 1 ≤ R0.frames ∧ 8 + (maxL + 11) + rm.locals ≤ R0.locals) :
    CallB X.2.2.2.1 X.2.2.2.2.1 X.2.2.2.2.2.2.1 own i y cc' maxL ret (g_ws y cc' maxL ret) rm 0 0 n := by
  refine ⟨hr0.1, hr0.2, by rw [hC.room]; exact hR.1, by rw [hC.room]; exact hR.2, fun w hw a' U hW => ?_, List.mem_cons_self, hC.word hm.1, hC.word hm.2.1, ⟨hm.2.2.1, hm.2.2.2.1⟩, fun sig h => ?_, hC.word hl⟩
  · have hw2 : w ∈ g_w := (List.mem_cons.mp hw).elim (fun e => e ▸ hm.1) id
    exact word_at hW (good_of_word (g_w_ok w hw2)) (hC.word hw2)
  · have h2 := hm.2.2.2.2
    rw [h] at h2
    exact (Option.some.inj h2).symm
theorem g_fix {P : GP} {X : GX} {own : String} {cc : ByteArray} {nL : Nat} {R0 : Room} (hC : GC P X own cc nL R0) : CallFix X.1 X.2.2.2.2.2.1 X.2.2.2.2.2.2.2.2.2.1 cc nL X.2.2.2.2.1 X.2.2.2.2.2.2.1 g_w own := ⟨hC.exec, hC.bytes, hC.maxL, hC.cls, hC.words⟩
theorem g_recv {P : GP} {X : GX} {own : String} {cc : ByteArray} {nL : Nat} {R0 : Room} (hC : GC P X own cc nL R0) {g : GM} {x : GE} {H : Heap} (hP : va_P P.1 g_cl (g_wl P g x) H) {o ci : Nat} {fs : List (Option (Option Nat))} {q : vw_C} (hs : (g_sh P)[o]? = some (.inr (ci, fs))) (hq : g_cl[ci]? = some q) : ∃ cell : Cell, H[P.2.2.1 o]? = some cell ∧ cell.vm.isStatics = false ∧ X.2.2.2.2.1.vm.findClass q.1 = some cell.cls :=
  va_recv hC.K hP hq (g_wl_at hs)
section GCALL
variable {P : GP} {X : GX} {own : String} {cc : ByteArray} {nL : Nat} {R0 : Room} {α : Type} {Qf : α → State → Prop} {ce sl pc : Nat} {L : List (Option Value)} {st st0 : List Value} {g : GM} {x : GE} {E : Option α}
variable {y : MethodName} {cc' : ByteArray} {maxL n i : Nat} {ret : Option FieldType} {rm : Room} {As : List Value}
/-- static: answers an int -/
theorem GR_callSI (hC : GC P X own cc nL R0) {E0 : Option (GM × Int32)} {F : GM × Int32 → Option α} (hk : KI P y cc' maxL ret rm As g E0) (hm : g_MY y cc' maxL ret n) (hst : Cond.static y ∈ g_w) (hl : Cond.methodLink own i y ∈ g_w) (hr0 : rm.cells = 0 ∧ rm.slots = 0) (hR : rm.frames + 1 ≤ R0.frames ∧ 8 + (maxL + 11) + rm.locals ≤ R0.locals) (hcs : ce ≤ R0.cells ∧ sl ≤ R0.slots)
    (h0 : st0 = As.reverse ++ st) (hn : As.length = n) (h8 : (st.map fun v => v.category).sum ≤ 8) (hd : decode cc pc = .ok (.invokestatic i, 3))
    (kk : ∀ (g' : GM) (r : Int32), E0 = some (g', r) → GR P X Qf ce sl (F (g', r)) (pc + 3) L (.int r :: st) g' x) : GR P X Qf ce sl (E0.bind F) pc L st0 g x := by
  intro a ha H locs ls hl2 hP hS
  cases hE : E0 with
  | none => rw [hE] at ha; cases ha
  | some b =>
    rw [hE] at ha
    subst h0
    refine va_calli (va_runS (g_fix hC) (hk X.2.1 x H.size b hC.2.2.2.2.2.2.2.2.2.2.2 hE) ⟨g_callB hC hm hl hr0 hR, hC.word hst⟩ ⟨g_blind, g_give hC hP hS⟩ rfl hn (by rw [← hC.maxL]; exact hl2.1) rfl (by simpa using h8) hd (by rw [hC.room]; exact hcs)) hS (fun q _ h => hC.A q (g_A_mono hS.1 q h)) (fun q h => hC.A q (g_A_mono hS.1 q h)) (fun r u t H1 locs1 ht hvm hw hB hz1 hk1 hS1 => ?_)
    have hw' : r = b.2 := hw
    subst hw'
    have hP1 : va_P P.1 g_cl (g_wl P b.1 x) t.heap := hB
    rw [ht] at hP1
    exact kk b.1 b.2 hE a ha H1 locs1 ls hl2 hP1 hS1
/-- static: answers nothing -/
theorem GR_callSV (hC : GC P X own cc nL R0) {E0 : Option GM} {F : GM → Option α} (hk : KV P y cc' maxL rm As g E0) (hm : g_MY y cc' maxL none n) (hst : Cond.static y ∈ g_w) (hl : Cond.methodLink own i y ∈ g_w) (hr0 : rm.cells = 0 ∧ rm.slots = 0) (hR : rm.frames + 1 ≤ R0.frames ∧ 8 + (maxL + 11) + rm.locals ≤ R0.locals) (hcs : ce ≤ R0.cells ∧ sl ≤ R0.slots)
    (h0 : st0 = As.reverse ++ st) (hn : As.length = n) (h8 : (st.map fun v => v.category).sum ≤ 8) (hd : decode cc pc = .ok (.invokestatic i, 3))
    (kk : ∀ (g' : GM), E0 = some g' → GR P X Qf ce sl (F g') (pc + 3) L st g' x) : GR P X Qf ce sl (E0.bind F) pc L st0 g x := by
  intro a ha H locs ls hl2 hP hS
  cases hE : E0 with
  | none => rw [hE] at ha; cases ha
  | some b =>
    rw [hE] at ha
    subst h0
    refine va_callv (va_runS (g_fix hC) (hk X.2.1 x H.size b hC.2.2.2.2.2.2.2.2.2.2.2 hE) ⟨g_callB hC hm hl hr0 hR, hC.word hst⟩ ⟨g_blind, g_give hC hP hS⟩ rfl hn (by rw [← hC.maxL]; exact hl2.1) rfl (by simpa using h8) hd (by rw [hC.room]; exact hcs)) hS (fun q _ h => hC.A q (g_A_mono hS.1 q h)) (fun q h => hC.A q (g_A_mono hS.1 q h)) (fun u t H1 locs1 ht hvm hw hB hz1 hk1 hS1 => ?_)
    have hP1 : va_P P.1 g_cl (g_wl P b x) t.heap := hB
    rw [ht] at hP1
    exact kk b hE a ha H1 locs1 ls hl2 hP1 hS1
/-- static: answers a string constant -/
theorem GR_callSR (hC : GC P X own cc nL R0) {E0 : Option Nat} {F : Nat → Option α} (hk : KR P y cc' maxL rm As g E0) (hm : g_MY y cc' maxL (some (.object "java/lang/String")) n) (hst : Cond.static y ∈ g_w) (hl : Cond.methodLink own i y ∈ g_w) (hr0 : rm.cells = 0 ∧ rm.slots = 0) (hR : rm.frames + 1 ≤ R0.frames ∧ 8 + (maxL + 11) + rm.locals ≤ R0.locals) (hcs : ce ≤ R0.cells ∧ sl ≤ R0.slots)
    (h0 : st0 = As.reverse ++ st) (hn : As.length = n) (h8 : (st.map fun v => v.category).sum ≤ 8) (hd : decode cc pc = .ok (.invokestatic i, 3))
    (kk : ∀ j : Nat, E0 = some j → GR P X Qf ce sl (F j) (pc + 3) L (gsr P j :: st) g x) : GR P X Qf ce sl (E0.bind F) pc L st0 g x := by
  intro a ha H locs ls hl2 hP hS
  cases hE : E0 with
  | none => rw [hE] at ha; cases ha
  | some j =>
  rw [hE] at ha
  subst h0
  refine va_callr (va_runS (g_fix hC) (hk X.2.1 x H.size j hC.2.2.2.2.2.2.2.2.2.2.2 hE) ⟨g_callB hC hm hl hr0 hR, hC.word hst⟩ ⟨g_blind, g_give hC hP hS⟩ rfl hn (by rw [← hC.maxL]; exact hl2.1) rfl (by simpa using h8) hd (by rw [hC.room]; exact hcs)) hS (fun q _ h => hC.A q (g_A_mono hS.1 q h)) (fun q h => hC.A q (g_A_mono hS.1 q h)) (fun u ra t H1 locs1 ht hvm hw hB hz1 hk1 hS1 => ?_)
  obtain ⟨rfl, hP1⟩ := hB
  have hP1 : va_P P.1 g_cl (g_wl P g x) t.heap := hP1
  rw [ht] at hP1
  exact kk j hE a ha H1 locs1 ls hl2 hP1 hS1
/-- an instance's method (its class's own, private ones too): answers an int -/
theorem GR_callVI (hC : GC P X own cc nL R0) {o ci : Nat} {fs : List (Option (Option Nat))} {q : vw_C} {E0 : Option (GM × Int32)} {F : GM × Int32 → Option α} (hk : KI P y cc' maxL ret rm (gr P o :: As) g E0) (hm : g_MY y cc' maxL ret n) (hin : Cond.instanceMethod y ∈ g_w ∧ Cond.selects y.cls y y ∈ g_w) (hl : Cond.methodLink own i y ∈ g_w) (hs : (g_sh P)[o]? = some (.inr (ci, fs))) (hq : g_cl[ci]? = some q) (hqc : q.1 = y.cls) (hr0 : rm.cells = 0 ∧ rm.slots = 0) (hR : rm.frames + 1 ≤ R0.frames ∧ 8 + (maxL + 11) + rm.locals ≤ R0.locals) (hcs : ce ≤ R0.cells ∧ sl ≤ R0.slots)
    (h0 : st0 = As.reverse ++ gr P o :: st) (hn : As.length = n) (h8 : (st.map fun v => v.category).sum ≤ 8) (hd : decode cc pc = .ok (.invokevirtual i, 3))
    (kk : ∀ (g' : GM) (r : Int32), E0 = some (g', r) → GR P X Qf ce sl (F (g', r)) (pc + 3) L (.int r :: st) g' x) : GR P X Qf ce sl (E0.bind F) pc L st0 g x := by
  intro a ha H locs ls hl2 hP hS
  cases hE : E0 with
  | none => rw [hE] at ha; cases ha
  | some b =>
    rw [hE] at ha
    subst h0
    refine va_calli (va_runV (C := y.cls) (g_fix hC) (hk X.2.1 x H.size b hC.2.2.2.2.2.2.2.2.2.2.2 hE) ⟨g_callB hC hm hl hr0 hR, hC.word hin.1, hC.word hin.2⟩ ⟨g_blind, hqc ▸ g_recv hC hP hs hq, g_give hC hP hS⟩ rfl hn (by rw [← hC.maxL]; exact hl2.1) rfl (by simpa using h8) hd (by rw [hC.room]; exact hcs)) hS (fun q _ h => hC.A q (g_A_mono hS.1 q h)) (fun q h => hC.A q (g_A_mono hS.1 q h)) (fun r u t H1 locs1 ht hvm hw hB hz1 hk1 hS1 => ?_)
    have hw' : r = b.2 := hw
    subst hw'
    have hP1 : va_P P.1 g_cl (g_wl P b.1 x) t.heap := hB
    rw [ht] at hP1
    exact kk b.1 b.2 hE a ha H1 locs1 ls hl2 hP1 hS1
theorem GR_callVV (hC : GC P X own cc nL R0) {o ci : Nat} {fs : List (Option (Option Nat))} {q : vw_C} {E0 : Option GM} {F : GM → Option α} (hk : KV P y cc' maxL rm (gr P o :: As) g E0) (hm : g_MY y cc' maxL none n) (hin : Cond.instanceMethod y ∈ g_w ∧ Cond.selects y.cls y y ∈ g_w) (hl : Cond.methodLink own i y ∈ g_w) (hs : (g_sh P)[o]? = some (.inr (ci, fs))) (hq : g_cl[ci]? = some q) (hqc : q.1 = y.cls) (hr0 : rm.cells = 0 ∧ rm.slots = 0) (hR : rm.frames + 1 ≤ R0.frames ∧ 8 + (maxL + 11) + rm.locals ≤ R0.locals) (hcs : ce ≤ R0.cells ∧ sl ≤ R0.slots)
    (h0 : st0 = As.reverse ++ gr P o :: st) (hn : As.length = n) (h8 : (st.map fun v => v.category).sum ≤ 8) (hd : decode cc pc = .ok (.invokevirtual i, 3))
    (kk : ∀ (g' : GM), E0 = some g' → GR P X Qf ce sl (F g') (pc + 3) L st g' x) : GR P X Qf ce sl (E0.bind F) pc L st0 g x := by
  intro a ha H locs ls hl2 hP hS
  cases hE : E0 with
  | none => rw [hE] at ha; cases ha
  | some b =>
    rw [hE] at ha
    subst h0
    refine va_callv (va_runV (C := y.cls) (g_fix hC) (hk X.2.1 x H.size b hC.2.2.2.2.2.2.2.2.2.2.2 hE) ⟨g_callB hC hm hl hr0 hR, hC.word hin.1, hC.word hin.2⟩ ⟨g_blind, hqc ▸ g_recv hC hP hs hq, g_give hC hP hS⟩ rfl hn (by rw [← hC.maxL]; exact hl2.1) rfl (by simpa using h8) hd (by rw [hC.room]; exact hcs)) hS (fun q _ h => hC.A q (g_A_mono hS.1 q h)) (fun q h => hC.A q (g_A_mono hS.1 q h)) (fun u t H1 locs1 ht hvm hw hB hz1 hk1 hS1 => ?_)
    have hP1 : va_P P.1 g_cl (g_wl P b x) t.heap := hB
    rw [ht] at hP1
    exact kk b hE a ha H1 locs1 ls hl2 hP1 hS1
theorem GR_callSP (hC : GC P X own cc nL R0) {E0 : Option Int32} {F : Int32 → Option α} (hk : KI P y cc' maxL ret rm As g (E0.map (fun r => (g, r)))) (hm : g_MY y cc' maxL ret n) (hst : Cond.static y ∈ g_w) (hl : Cond.methodLink own i y ∈ g_w) (hr0 : rm.cells = 0 ∧ rm.slots = 0) (hR : rm.frames + 1 ≤ R0.frames ∧ 8 + (maxL + 11) + rm.locals ≤ R0.locals) (hcs : ce ≤ R0.cells ∧ sl ≤ R0.slots) (h0 : st0 = As.reverse ++ st) (hn : As.length = n) (h8 : (st.map fun v => v.category).sum ≤ 8) (hd : decode cc pc = .ok (.invokestatic i, 3))
    (kk : ∀ (r : Int32), E0 = some r → GR P X Qf ce sl (F r) (pc + 3) L (.int r :: st) g x) : GR P X Qf ce sl (E0.bind F) pc L st0 g x := by
  refine GR.eq (E' := (E0.map (fun r => (g, r))).bind (fun q => F q.2)) (by cases E0 <;> rfl) (GR_callSI (F := fun q => F q.2) hC hk hm hst hl hr0 hR hcs h0 hn h8 hd (fun g' r h => ?_))
  cases E0 with
  | none => cases h
  | some r0 => cases h; exact kk _ rfl
theorem GR_callST (hC : GC P X own cc nL R0) {e0 : Int32} (hk : KI P y cc' maxL ret rm As g (some (g, e0))) (hm : g_MY y cc' maxL ret n) (hst : Cond.static y ∈ g_w) (hl : Cond.methodLink own i y ∈ g_w) (hr0 : rm.cells = 0 ∧ rm.slots = 0) (hR : rm.frames + 1 ≤ R0.frames ∧ 8 + (maxL + 11) + rm.locals ≤ R0.locals) (hcs : ce ≤ R0.cells ∧ sl ≤ R0.slots) (h0 : st0 = As.reverse ++ st) (hn : As.length = n) (h8 : (st.map fun v => v.category).sum ≤ 8) (hd : decode cc pc = .ok (.invokestatic i, 3))
    (kk : GR P X Qf ce sl E (pc + 3) L (.int e0 :: st) g x) : GR P X Qf ce sl E pc L st0 g x :=
  GR_callSI (E0 := some (g, e0)) (F := fun _ => E) hC hk hm hst hl hr0 hR hcs h0 hn h8 hd (fun g' r h => by cases h; exact kk)
theorem GR_callVP (hC : GC P X own cc nL R0) {o ci : Nat} {fs : List (Option (Option Nat))} {q : vw_C} {E0 : Option Int32} {F : Int32 → Option α} (hk : KI P y cc' maxL ret rm (gr P o :: As) g (E0.map (fun r => (g, r)))) (hm : g_MY y cc' maxL ret n) (hin : Cond.instanceMethod y ∈ g_w ∧ Cond.selects y.cls y y ∈ g_w) (hl : Cond.methodLink own i y ∈ g_w) (hs : (g_sh P)[o]? = some (.inr (ci, fs))) (hq : g_cl[ci]? = some q) (hqc : q.1 = y.cls) (hr0 : rm.cells = 0 ∧ rm.slots = 0) (hR : rm.frames + 1 ≤ R0.frames ∧ 8 + (maxL + 11) + rm.locals ≤ R0.locals) (hcs : ce ≤ R0.cells ∧ sl ≤ R0.slots) (h0 : st0 = As.reverse ++ gr P o :: st) (hn : As.length = n) (h8 : (st.map fun v => v.category).sum ≤ 8) (hd : decode cc pc = .ok (.invokevirtual i, 3))
    (kk : ∀ (r : Int32), E0 = some r → GR P X Qf ce sl (F r) (pc + 3) L (.int r :: st) g x) : GR P X Qf ce sl (E0.bind F) pc L st0 g x := by
  refine GR.eq (E' := (E0.map (fun r => (g, r))).bind (fun q => F q.2)) (by cases E0 <;> rfl) (GR_callVI (F := fun q => F q.2) hC hk hm hin hl hs hq hqc hr0 hR hcs h0 hn h8 hd (fun g' r h => ?_))
  cases E0 with
  | none => cases h
  | some r0 => cases h; exact kk _ rfl
theorem GR_callVT (hC : GC P X own cc nL R0) {o ci : Nat} {fs : List (Option (Option Nat))} {q : vw_C} {e0 : Int32} (hk : KI P y cc' maxL ret rm (gr P o :: As) g (some (g, e0))) (hm : g_MY y cc' maxL ret n) (hin : Cond.instanceMethod y ∈ g_w ∧ Cond.selects y.cls y y ∈ g_w) (hl : Cond.methodLink own i y ∈ g_w) (hs : (g_sh P)[o]? = some (.inr (ci, fs))) (hq : g_cl[ci]? = some q) (hqc : q.1 = y.cls) (hr0 : rm.cells = 0 ∧ rm.slots = 0) (hR : rm.frames + 1 ≤ R0.frames ∧ 8 + (maxL + 11) + rm.locals ≤ R0.locals) (hcs : ce ≤ R0.cells ∧ sl ≤ R0.slots) (h0 : st0 = As.reverse ++ gr P o :: st) (hn : As.length = n) (h8 : (st.map fun v => v.category).sum ≤ 8) (hd : decode cc pc = .ok (.invokevirtual i, 3))
    (kk : GR P X Qf ce sl E (pc + 3) L (.int e0 :: st) g x) : GR P X Qf ce sl E pc L st0 g x :=
  GR_callVI (E0 := some (g, e0)) (F := fun _ => E) hC hk hm hin hl hs hq hqc hr0 hR hcs h0 hn h8 hd (fun g' r h => by cases h; exact kk)
end GCALL

/-! ===== a method's body ===== -/
def g_QI (P : GP) (X : GX) (x : GE) : GM × Int32 → State → Prop := fun a => MQ X.2.2.2.2.2.2.2.1 (va_Qi (fun r (_ : Unit) => r = a.2) (fun _ => g_pw P a.1 x) X.2.2.2.2.2.2.2.2.2.2) X.2.2.2.2.2.2.1 X.2.2.2.2.1 0 0 X.2.2.2.2.2.2.2.2.2.2
def g_QV (P : GP) (X : GX) (x : GE) : GM → State → Prop := fun a => MQ X.2.2.2.2.2.2.2.1 (va_Qv (fun (_ : Unit) => True) (fun _ => g_pw P a x) X.2.2.2.2.2.2.2.2.2.2) X.2.2.2.2.2.2.1 X.2.2.2.2.1 0 0 X.2.2.2.2.2.2.2.2.2.2
def g_L0 (As : List Value) (n : Nat) : List (Option Value) := As.map some ++ List.replicate (n - As.length) none
theorem g_lp_none : ∀ (k i : Nat), g_lp i (List.replicate k none) = []
  | 0, i => rfl
  | k + 1, i => by rw [List.replicate_succ, g_lp, g_lp_none k (i + 1)]
theorem g_args_lp : ∀ (As : List Value) (i k : Nat), g_c1 (As.map some) = true → lv_args i As = g_lp i (As.map some ++ List.replicate k none)
  | [], i, k, _ => by simp [lv_args, g_lp_none]
  | v :: vs, i, k, h => by
    simp only [List.map_cons, g_c1, Bool.and_eq_true, decide_eq_true_eq] at h
    rw [lv_args, List.map_cons, List.cons_append, g_lp, if_neg (by rw [h.1]; decide), g_args_lp vs (i + 1) k h.2]
theorem g_sl_len : ∀ (As : List Value), g_c1 (As.map some) = true → (lg_sl As).length = As.length
  | [], _ => rfl
  | v :: vs, h => by
    simp only [List.map_cons, g_c1, Bool.and_eq_true, decide_eq_true_eq] at h
    have h2 := g_sl_len vs h.2
    simp only [lg_sl, List.flatMap_cons, List.length_append, List.length_cons] at h2 ⊢
    rw [if_neg (by rw [h.1]; decide), h2]
    simp; omega
/-- what a contract's proof may use -/
def GB (P : GP) (X : GX) (As : List Value) (ret : Option FieldType) (sz : Nat) : Prop := X.2.2.2.2.2.2.1 = As.toArray ∧ X.2.2.2.2.2.2.2.2.1.sig.returnType = ret ∧ X.2.2.2.2.1.heap.size = sz ∧ X.2.2.2.2.2.2.2.2.2.2 = g_A P sz
theorem KI.ofW {P : GP} {y : MethodName} {cc : ByteArray} {maxL : Nat} {ret : Option FieldType} {rm : Room} {As : List Value} {g : GM} {E : Option (GM × Int32)} (hy : plainName y.cls = true) (hAs : g_c1 (As.map some) = true) (hn : As.length ≤ maxL)
    (h : ∀ (X : GX) (x : GE), GC P X y.cls cc maxL rm → X.2.2.2.2.2.2.2.2.1.sig.returnType = ret → (∀ b, plainName y.cls = b → True) → GR P X (g_QI P X x) 0 0 E 0 (g_L0 As maxL) [] g x) : KI P y cc maxL ret rm As g E := by
  intro l x sz a hst hE
  refine Met.ofW (cc := cc) (maxL := maxL) (ret := ret) hy rfl ?_
  intro p e s m args below meth c s₁ B hml hv
  obtain ⟨rfl, hsz, hP, hK, hi, hG⟩ := hv
  have hts : ∀ w ∈ g_ws y cc maxL ret, w.before As.toArray s = true := atoms_spec (ws := g_ws y cc maxL ret) B.pre
  have hl := lv_entry As (n := maxL) (by rw [g_sl_len As hAs]; exact hn)
  rw [lg_entry_eq]
  generalize (lg_sl As ++ List.replicate (maxL - (lg_sl As).length) Slot.unset).toArray = ls at hl ⊢
  subst hsz
  have hC : GC P (p, l, e, (headSpec (g_ws y cc maxL ret) rm).room, s, m, As.toArray, below, meth, c, g_A P s.heap.size) y.cls cc maxL rm :=
    ⟨B.exec, B.bytes, hml, findClass_of_methodNamed B.named, fun w hw => hts w (List.mem_cons_of_mem _ hw), hK, B.notSynchronized, rfl, fun _ h => h, hi, hG, hst⟩
  have hl2 : g_lh ls c.maxLocals (g_L0 As maxL) := by
    rw [hml]
    unfold g_lh g_L0
    rw [← g_args_lp As 0 (maxL - As.length) hAs]
    exact hl
  exact h (p, l, e, (headSpec (g_ws y cc maxL ret) rm).room, s, m, As.toArray, below, meth, c, g_A P s.heap.size) x hC B.returns (fun _ _ => trivial) a hE s.heap [] ls hl2 hP va_S.rf
theorem KV.ofW {P : GP} {y : MethodName} {cc : ByteArray} {maxL : Nat} {rm : Room} {As : List Value} {g : GM} {E : Option GM} (hy : plainName y.cls = true) (hAs : g_c1 (As.map some) = true) (hn : As.length ≤ maxL)
    (h : ∀ (X : GX) (x : GE), GC P X y.cls cc maxL rm → X.2.2.2.2.2.2.2.2.1.sig.returnType = none → GR P X (g_QV P X x) 0 0 E 0 (g_L0 As maxL) [] g x) : KV P y cc maxL rm As g E := by
  intro l x sz a hst hE
  refine Met.ofW (cc := cc) (maxL := maxL) (ret := none) hy rfl ?_
  intro p e s m args below meth c s₁ B hml hv
  obtain ⟨rfl, hsz, hP, hK, hi, hG⟩ := hv
  have hts : ∀ w ∈ g_ws y cc maxL none, w.before As.toArray s = true := atoms_spec (ws := g_ws y cc maxL none) B.pre
  have hl := lv_entry As (n := maxL) (by rw [g_sl_len As hAs]; exact hn)
  rw [lg_entry_eq]
  generalize (lg_sl As ++ List.replicate (maxL - (lg_sl As).length) Slot.unset).toArray = ls at hl ⊢
  subst hsz
  have hC : GC P (p, l, e, (headSpec (g_ws y cc maxL none) rm).room, s, m, As.toArray, below, meth, c, g_A P s.heap.size) y.cls cc maxL rm :=
    ⟨B.exec, B.bytes, hml, findClass_of_methodNamed B.named, fun w hw => hts w (List.mem_cons_of_mem _ hw), hK, B.notSynchronized, rfl, fun _ h => h, hi, hG, hst⟩
  have hl2 : g_lh ls c.maxLocals (g_L0 As maxL) := by
    rw [hml]
    unfold g_lh g_L0
    rw [← g_args_lp As 0 (maxL - As.length) hAs]
    exact hl
  exact h (p, l, e, (headSpec (g_ws y cc maxL none) rm).room, s, m, As.toArray, below, meth, c, g_A P s.heap.size) x hC B.returns a hE s.heap [] ls hl2 hP va_S.rf
/-- a method that changes nothing -/
def g_QP (P : GP) (X : GX) (g : GM) (x : GE) : Int32 → State → Prop := fun r => g_QI P X x (g, r)
theorem KI.ofWP {P : GP} {y : MethodName} {cc : ByteArray} {maxL : Nat} {ret : Option FieldType} {rm : Room} {As : List Value} {g : GM} {E : Option Int32} (hy : plainName y.cls = true) (hAs : g_c1 (As.map some) = true) (hn : As.length ≤ maxL)
    (h : ∀ (X : GX) (x : GE), GC P X y.cls cc maxL rm → X.2.2.2.2.2.2.2.2.1.sig.returnType = ret → GR P X (g_QP P X g x) 0 0 E 0 (g_L0 As maxL) [] g x) : KI P y cc maxL ret rm As g (E.map (fun r => (g, r))) := by
  refine KI.ofW hy hAs hn (fun X x hC hr _ a ha => ?_)
  cases E with
  | none => cases ha
  | some r => cases ha; exact h X x hC hr r rfl
section GRET
variable {P : GP} {X : GX} {own : String} {cc : ByteArray} {nL : Nat} {R0 : Room} {pc : Nat} {L : List (Option Value)} {g : GM} {x : GE}
theorem GR_iret (hC : GC P X own cc nL R0) {v : Int32} (hr : X.2.2.2.2.2.2.2.2.1.sig.returnType = some .int) (hd : decode cc pc = .ok (.ireturn, 1)) : GR P X (g_QI P X x) 0 0 (some (g, v)) pc L [.int v] g x := by
  intro a ha H locs ls hl hP hS
  cases ha
  exact W.iret (v := v) hC.exec hC.bytes hr (fun t ht hW => ⟨⟨v, (), rfl, rfl, by show va_P _ _ _ t.heap; rw [ht]; exact hP⟩, hS.F ht⟩) hS.2.2 hd hC.locks
def g_zr (g : GM) (v : Int32) : Option (GM × Int32) := if v = 0 ∨ v = 1 then some (g, v) else none
theorem g_nz {v : Int32} (h : v = 0 ∨ v = 1) : narrow .boolean (.int v) = .int v := by rcases h with rfl | rfl <;> rfl
theorem GR_zretC (hC : GC P X own cc nL R0) {v : Int32} (h : v = 0 ∨ v = 1) (hr : X.2.2.2.2.2.2.2.2.1.sig.returnType = some .boolean) (hd : decode cc pc = .ok (.ireturn, 1)) : GR P X (g_QI P X x) 0 0 (some (g, v)) pc L [.int v] g x := by
  intro a ha H locs ls hl hP hS
  cases ha
  exact W.zret (v := v) hC.exec hC.bytes hr (g_nz h) (fun t ht hW => ⟨⟨v, (), rfl, rfl, by show va_P _ _ _ t.heap; rw [ht]; exact hP⟩, hS.F ht⟩) hS.2.2 hd hC.locks
theorem GR_zret (hC : GC P X own cc nL R0) {v : Int32} (hr : X.2.2.2.2.2.2.2.2.1.sig.returnType = some .boolean) (hd : decode cc pc = .ok (.ireturn, 1)) : GR P X (g_QI P X x) 0 0 (g_zr g v) pc L [.int v] g x := by
  intro a ha
  by_cases h : v = 0 ∨ v = 1
  · rw [g_zr, if_pos h] at ha
    exact GR_zretC hC h hr hd a ha
  · rw [g_zr, if_neg h] at ha; cases ha
theorem GR_vret (hC : GC P X own cc nL R0) (hr : X.2.2.2.2.2.2.2.2.1.sig.returnType = none) (hd : decode cc pc = .ok (.return_, 1)) : GR P X (g_QV P X x) 0 0 (some g) pc L [] g x := by
  intro a ha H locs ls hl hP hS
  cases ha
  exact W.vret hC.exec hC.bytes hr (fun t ht hW => ⟨⟨(), rfl, trivial, by show va_P _ _ _ t.heap; rw [ht]; exact hP⟩, hS.F ht⟩) hS.2.2 hd hC.locks
theorem GR_iretP (hC : GC P X own cc nL R0) {v : Int32} (hr : X.2.2.2.2.2.2.2.2.1.sig.returnType = some .int) (hd : decode cc pc = .ok (.ireturn, 1)) : GR P X (g_QP P X g x) 0 0 (some v) pc L [.int v] g x := by
  intro a ha
  cases ha
  exact GR_iret hC hr hd (g, v) rfl
theorem GR_zretCP (hC : GC P X own cc nL R0) {v : Int32} (h : v = 0 ∨ v = 1) (hr : X.2.2.2.2.2.2.2.2.1.sig.returnType = some .boolean) (hd : decode cc pc = .ok (.ireturn, 1)) : GR P X (g_QP P X g x) 0 0 (some v) pc L [.int v] g x := by
  intro a ha
  cases ha
  exact GR_zretC hC h hr hd (g, v) rfl
def g_zrP (v : Int32) : Option Int32 := if v = 0 ∨ v = 1 then some v else none
theorem GR_zretP (hC : GC P X own cc nL R0) {v : Int32} (hr : X.2.2.2.2.2.2.2.2.1.sig.returnType = some .boolean) (hd : decode cc pc = .ok (.ireturn, 1)) : GR P X (g_QP P X g x) 0 0 (g_zrP v) pc L [.int v] g x := by
  intro a ha
  by_cases h : v = 0 ∨ v = 1
  · rw [g_zrP, if_pos h] at ha
    exact GR_zretCP hC h hr hd a ha
  · rw [g_zrP, if_neg h] at ha; cases ha
end GRET

/-! ===== rows of special calls ===== -/
def fu : Nat := 4096
def g_QR (P : GP) (X : GX) (g : GM) (x : GE) : Nat → State → Prop := fun i => MQ X.2.2.2.2.2.2.2.1 (va_Qr (fun (_ : Unit) => True) (fun _ a t => a = P.2.2.2.1 i ∧ g_pw P g x t) X.2.2.2.2.2.2.2.2.2.2) X.2.2.2.2.2.2.1 X.2.2.2.2.1 0 0 X.2.2.2.2.2.2.2.2.2.2
theorem KR.ofW {P : GP} {y : MethodName} {cc : ByteArray} {maxL : Nat} {rm : Room} {As : List Value} {g : GM} {E : Option Nat} (hy : plainName y.cls = true) (hAs : g_c1 (As.map some) = true) (hn : As.length ≤ maxL)
    (h : ∀ (X : GX) (x : GE), GC P X y.cls cc maxL rm → X.2.2.2.2.2.2.2.2.1.sig.returnType = some (.object "java/lang/String") → GR P X (g_QR P X g x) 0 0 E 0 (g_L0 As maxL) [] g x) : KR P y cc maxL rm As g E := by
  intro l x sz a hst hE
  refine Met.ofW (cc := cc) (maxL := maxL) (ret := some (.object "java/lang/String")) hy rfl ?_
  intro p e s m args below meth c s₁ B hml hv
  obtain ⟨rfl, hsz, hP, hK, hi, hG⟩ := hv
  have hts : ∀ w ∈ g_ws y cc maxL (some (.object "java/lang/String")), w.before As.toArray s = true := atoms_spec (ws := g_ws y cc maxL (some (.object "java/lang/String"))) B.pre
  have hl := lv_entry As (n := maxL) (by rw [g_sl_len As hAs]; exact hn)
  rw [lg_entry_eq]
  generalize (lg_sl As ++ List.replicate (maxL - (lg_sl As).length) Slot.unset).toArray = ls at hl ⊢
  subst hsz
  have hC : GC P (p, l, e, (headSpec (g_ws y cc maxL (some (.object "java/lang/String"))) rm).room, s, m, As.toArray, below, meth, c, g_A P s.heap.size) y.cls cc maxL rm :=
    ⟨B.exec, B.bytes, hml, findClass_of_methodNamed B.named, fun w hw => hts w (List.mem_cons_of_mem _ hw), hK, B.notSynchronized, rfl, fun _ h => h, hi, hG, hst⟩
  have hl2 : g_lh ls c.maxLocals (g_L0 As maxL) := by
    rw [hml]
    unfold g_lh g_L0
    rw [← g_args_lp As 0 (maxL - As.length) hAs]
    exact hl
  exact h (p, l, e, (headSpec (g_ws y cc maxL (some (.object "java/lang/String"))) rm).room, s, m, As.toArray, below, meth, c, g_A P s.heap.size) x hC B.returns a hE s.heap [] ls hl2 hP va_S.rf
def g_min (x y : Int32) : Int32 := if y < x then y else x
def g_max (x y : Int32) : Int32 := if x < y then y else x
def g_ushr (x y : Int32) : Int32 := (x.toUInt32 >>> (y.toUInt32 &&& Int32.toUInt32 31)).toInt32
def g_copy (g : GM) (ty : FieldType) (k1 n1 : Nat) (sp : Int32) (k2 n2 : Nat) (dp n : Int32) : Option GM :=
  if sp < 0 ∨ dp < 0 ∨ n < 0 ∨ n1 < sp.toNatClampNeg + n.toNatClampNeg ∨ n2 < dp.toNatClampNeg + n.toNatClampNeg then none
  else if ∀ i, i < n.toNatClampNeg → fits ty (.int (g k1 (sp.toNatClampNeg + i))) = true then some (g_up g k2 (va_cpy (g k1) (g k2) sp.toNatClampNeg dp.toNatClampNeg n.toNatClampNeg)) else none
section GSPEC
variable {P : GP} {X : GX} {own : String} {cc : ByteArray} {nL : Nat} {R0 : Room} {α : Type} {Qf : α → State → Prop} {ce sl pc : Nat} {L : List (Option Value)} {st st0 : List Value} {g : GM} {x : GE} {E B : Option α}
theorem GR_aret (hC : GC P X own cc nL R0) {i : Nat} (hr : X.2.2.2.2.2.2.2.2.1.sig.returnType = some (.object "java/lang/String")) (hd : decode cc pc = .ok (.areturn, 1)) : GR P X (g_QR P X g x) 0 0 (some i) pc L [gsr P i] g x := by
  intro a ha H locs ls hl hP hS
  cases ha
  exact W.aret hC.exec hC.bytes hr (Or.inl ⟨_, rfl⟩) (Or.inr ⟨_, rfl⟩) (fun t ht hW => ⟨⟨(), P.2.2.2.1 i, rfl, trivial, rfl, by show va_P _ _ _ t.heap; rw [ht]; exact hP⟩, hS.F ht⟩) hS.2.2 hd hC.locks
theorem GR_ldc (hC : GC P X own cc nL R0) {i w : Nat} {tx : String} (hw : (own, i, tx, w) ∈ g_sw) (hd : decode cc pc = .ok (.ldc i, 2)) (kk : GR P X Qf ce sl E (pc + 2) L (gsr P w :: st) g x) : GR P X Qf ce sl E pc L st g x :=
  fun a ha H locs ls hl hP hS => va_ldcS hC.exec hC.bytes hC.cls (hC.E.2.1 _ hw) hd (kk a ha H locs ls hl hP hS)
theorem GR_case {v c : Int32} {L : List (Option Value)} {st : List Value} (kt : v = c → GR P X Qf ce sl E pc L st g x) (kf : ¬ v = c → GR P X Qf ce sl B pc L st g x) : GR P X Qf ce sl (if v = c then E else B) pc L st g x := by
  by_cases h : v = c
  · rw [if_pos h]; exact kt h
  · rw [if_neg h]; exact kf h
theorem GR_tabIn (hC : GC P X own cc nL R0) {dflt lo hi off : Int} {offs : Array Int} {len tgt : Nat} {v c : Int32} (hd : decode cc pc = .ok (.tableswitch dflt lo hi offs, len)) (h : v = c) (h1 : ¬ c.toInt < lo) (h2 : ¬ hi < c.toInt) (ho : offs[(c.toInt - lo).toNat]? = some off) (ht : (pc : Int) + off = (tgt : Int)) (kk : GR P X Qf ce sl E tgt L st g x) : GR P X Qf ce sl E pc L (.int v :: st) g x := by
  subst h
  exact fun a ha H locs ls hl hP hS => lv_tableIn hC.exec hC.bytes hd h1 h2 ho ht (kk a ha H locs ls hl hP hS)
theorem GR_tabOut (hC : GC P X own cc nL R0) {dflt lo hi : Int} {offs : Array Int} {len tgt : Nat} {v : Int32} (hd : decode cc pc = .ok (.tableswitch dflt lo hi offs, len)) (h : v.toInt < lo ∨ hi < v.toInt) (ht : (pc : Int) + dflt = (tgt : Int)) (kk : GR P X Qf ce sl E tgt L st g x) : GR P X Qf ce sl E pc L (.int v :: st) g x :=
  fun a ha H locs ls hl hP hS => lv_tableOut hC.exec hC.bytes hd h ht (kk a ha H locs ls hl hP hS)
theorem g_ne_toInt {v c : Int32} (h : ¬ v = c) : v.toInt ≠ c.toInt := fun e => h (Int32.toInt_inj.mp e)
theorem g_out6 {v : Int32} (h0 : ¬ v = 0) (h1 : ¬ v = 1) (h2 : ¬ v = 2) (h3 : ¬ v = 3) (h4 : ¬ v = 4) (h5 : ¬ v = 5) : v.toInt < 0 ∨ 5 < v.toInt := by
  have e0 := g_ne_toInt h0; have e1 := g_ne_toInt h1; have e2 := g_ne_toInt h2; have e3 := g_ne_toInt h3; have e4 := g_ne_toInt h4; have e5 := g_ne_toInt h5
  rw [show (0 : Int32).toInt = 0 from rfl] at e0
  rw [show (1 : Int32).toInt = 1 from rfl] at e1
  rw [show (2 : Int32).toInt = 2 from rfl] at e2
  rw [show (3 : Int32).toInt = 3 from rfl] at e3
  rw [show (4 : Int32).toInt = 4 from rfl] at e4
  rw [show (5 : Int32).toInt = 5 from rfl] at e5
  omega
theorem g_out7 {v : Int32} (h0 : ¬ v = 0) (h1 : ¬ v = 1) (h2 : ¬ v = 2) (h3 : ¬ v = 3) (h4 : ¬ v = 4) (h5 : ¬ v = 5) (h6 : ¬ v = 6) : v.toInt < 0 ∨ 6 < v.toInt := by
  have e6 := g_ne_toInt h6
  rw [show (6 : Int32).toInt = 6 from rfl] at e6
  rcases g_out6 h0 h1 h2 h3 h4 h5 with h | h <;> omega
theorem GR_acopy (hC : GC P X own cc nL R0) {F : GM → Option α} {i k1 n1 k2 n2 t0 : Nat} {ty : FieldType} {rs1 rs2 : List Nat} {sp dp n : Int32} (hm : Cond.methodLink own i arraycopyName ∈ g_w ∧ Cond.native arraycopyName ∈ g_w ∧ Cond.static arraycopyName ∈ g_w ∧ Cond.initialized "java/lang/System" ∈ g_w) (h1 : (g_sh P)[k1]? = some (.inl (ty, n1, rs1))) (h2 : (g_sh P)[k2]? = some (.inl (ty, n2, rs2))) (ht : g_tl[t0]? = some ty) (hty : ty = .int ∨ ty = .byte) (hR : 1 ≤ R0.frames ∧ 60 ≤ R0.locals) (h8 : (st.map fun v => v.category).sum ≤ 8) (hd : decode cc pc = .ok (.invokestatic i, 3))
    (kk : ∀ g' : GM, g_copy g ty k1 n1 sp k2 n2 dp n = some g' → GR P X Qf ce sl (F g') (pc + 3) L st g' x) : GR P X Qf ce sl ((g_copy g ty k1 n1 sp k2 n2 dp n).bind F) pc L (.int n :: .int dp :: gr P k2 :: .int sp :: gr P k1 :: st) g x := by
  intro a ha H locs ls hl hP hS
  by_cases hin : sp < 0 ∨ dp < 0 ∨ n < 0 ∨ n1 < sp.toNatClampNeg + n.toNatClampNeg ∨ n2 < dp.toNatClampNeg + n.toNatClampNeg
  · rw [g_copy, if_pos hin] at ha; cases ha
  · by_cases hf : ∀ i, i < n.toNatClampNeg → fits ty (.int (g k1 (sp.toNatClampNeg + i))) = true
    · rw [g_copy, if_neg hin, if_pos hf] at ha
      have hk := kk _ (by rw [g_copy, if_neg hin, if_pos hf])
      simp only [not_or] at hin
      obtain ⟨a1, a2, a3, a4, a5⟩ := hin
      have e1 : (g_wl P g x)[k1]? = some (P.2.2.1 k1, .inl (P.2.1 ty, n1, .inl (g k1))) := by rcases hty with rfl | rfl <;> exact g_wl_at h1
      have e2 : (g_wl P g x)[k2]? = some (P.2.2.1 k2, .inl (P.2.1 ty, n2, .inl (g k2))) := by rcases hty with rfl | rfl <;> exact g_wl_at h2
      refine va_copyi (ty := ty) hC.exec hC.bytes hl.1.symm hC.cls (hC.word hm.1) (hC.word hm.2.1) (hC.word hm.2.2.1) (hC.word hm.2.2.2) hC.K hP (hC.D g x) hS k1 k2 t0 t0 e1 e2 (g_tys_at ht) (g_tys_at ht) (by rcases hty with rfl | rfl <;> rfl) a1 a2 a3 (Nat.not_lt.mp a4) (Nat.not_lt.mp a5) hf (by rw [hC.room]; exact hR.1) ?_ hd (fun H1 locs1 hP1 hD1 hS1 => ?_)
      · rw [hC.room]
        refine Nat.le_trans (Nat.add_le_add_right h8 _) (Nat.le_trans ?_ hR.2)
        decide +kernel
      · rw [g_wl_set (f := va_cpy (g k1) (g k2) sp.toNatClampNeg dp.toNatClampNeg n.toNatClampNeg) h2] at hP1
        · exact hk a ha H1 locs1 ls hl hP1 hS1
        · rcases hty with rfl | rfl <;> simp only [g_ent, g_up_s]
    · rw [g_copy, if_neg hin, if_neg hf] at ha; cases ha
def g_Mm (own : String) (i : Nat) (y : MethodName) (b : ByteArray) : Prop := Cond.methodLink own i y ∈ g_w ∧ Cond.static y ∈ g_w ∧ Cond.initialized "java/lang/Math" ∈ g_w ∧ Cond.code y b 2 (some .int) ∈ g_w
theorem GR_mmin (hC : GC P X own cc nL R0) {i : Nat} {v w : Int32} (hm : g_Mm own i Lib.Math.min.name Lib.Math.min.code) (hR : 1 ≤ R0.frames ∧ 60 ≤ R0.locals ∧ ce ≤ R0.cells ∧ sl ≤ R0.slots) (h8 : (st.map fun v => v.category).sum ≤ 8) (hd : decode cc pc = .ok (.invokestatic i, 3)) (kk : GR P X Qf ce sl E (pc + 3) L (.int (g_min v w) :: st) g x) : GR P X Qf ce sl E pc L (.int w :: .int v :: st) g x :=
  fun a ha H locs ls hl hP hS => va_mmin hC.exec hC.bytes hl.1.symm hC.cls (hC.word hm.1) (hC.word hm.2.1) (hC.word hm.2.2.1) (hC.word hm.2.2.2) (by rw [hC.room]; exact hR.1) (by rw [hC.room]; have := hR.2.1; omega) (by rw [hC.room]; exact hR.2.2.1) (by rw [hC.room]; exact hR.2.2.2) hd (kk a ha H locs ls hl hP hS)
theorem GR_mmax (hC : GC P X own cc nL R0) {i : Nat} {v w : Int32} (hm : g_Mm own i Lib.Math.max.name Lib.Math.max.code) (hR : 1 ≤ R0.frames ∧ 60 ≤ R0.locals ∧ ce ≤ R0.cells ∧ sl ≤ R0.slots) (h8 : (st.map fun v => v.category).sum ≤ 8) (hd : decode cc pc = .ok (.invokestatic i, 3)) (kk : GR P X Qf ce sl E (pc + 3) L (.int (g_max v w) :: st) g x) : GR P X Qf ce sl E pc L (.int w :: .int v :: st) g x :=
  fun a ha H locs ls hl hP hS => va_mmax hC.exec hC.bytes hl.1.symm hC.cls (hC.word hm.1) (hC.word hm.2.1) (hC.word hm.2.2.1) (hC.word hm.2.2.2) (by rw [hC.room]; exact hR.1) (by rw [hC.room]; have := hR.2.1; omega) (by rw [hC.room]; exact hR.2.2.1) (by rw [hC.room]; exact hR.2.2.2) hd (kk a ha H locs ls hl hP hS)
theorem GR_iushr (hC : GC P X own cc nL R0) {v w : Int32} (hd : decode cc pc = .ok (.iushr, 1)) (kk : GR P X Qf ce sl E (pc + 1) L (.int (g_ushr v w) :: st) g x) : GR P X Qf ce sl E pc L (.int w :: .int v :: st) g x :=
  fun a ha H locs ls hl hP hS => lv_iushr hC.exec hC.bytes hd rfl (kk a ha H locs ls hl hP hS)
/-- a private static method of a nest mate, that changes nothing -/
theorem GR_callNP (hC : GC P X own cc nL R0) {y : MethodName} {cc' : ByteArray} {maxL n i : Nat} {ret : Option FieldType} {rm : Room} {As : List Value} {E0 : Option Int32} {F : Int32 → Option α} (hk : KI P y cc' maxL ret rm As g (E0.map (fun r => (g, r)))) (hm : g_MY y cc' maxL ret n) (hst : Cond.static y ∈ g_w) (hl : (own, i, y) ∈ g_nl) (hr0 : rm.cells = 0 ∧ rm.slots = 0) (hR : rm.frames + 1 ≤ R0.frames ∧ 8 + (maxL + 11) + rm.locals ≤ R0.locals) (hcs : ce ≤ R0.cells ∧ sl ≤ R0.slots)
    (h0 : st0 = As.reverse ++ st) (hn : As.length = n) (h8 : (st.map fun v => v.category).sum ≤ 8) (hd : decode cc pc = .ok (.invokestatic i, 3))
    (kk : ∀ r : Int32, E0 = some r → GR P X Qf ce sl (F r) (pc + 3) L (.int r :: st) g x) : GR P X Qf ce sl (E0.bind F) pc L st0 g x := by
  intro a ha H locs ls hl2 hP hS
  cases hE : E0 with
  | none => rw [hE] at ha; cases ha
  | some b =>
    rw [hE] at ha
    subst h0
    have hcw : va_CN X.2.2.2.1 X.2.2.2.2.1 X.2.2.2.2.2.2.1 own i y "PastureBanker" cc' maxL ret (g_ws y cc' maxL ret) rm 0 0 n := by
      refine ⟨⟨hr0.1, hr0.2, by rw [hC.room]; exact hR.1, by rw [hC.room]; exact hR.2, fun w hw a' U hW => ?_, List.mem_cons_self⟩, hC.word hm.1, hC.word hm.2.1, ⟨hm.2.2.1, hm.2.2.2.1⟩, fun sig h => ?_, va_Nw.use rfl (hC.E.2.2.1 _ hl)⟩
      · have hw2 : w ∈ g_w := (List.mem_cons.mp hw).elim (fun e => e ▸ hm.1) id
        exact word_at hW (good_of_word (g_w_ok w hw2)) (hC.word hw2)
      · have h2 := hm.2.2.2.2
        rw [h] at h2
        exact (Option.some.inj h2).symm
    refine va_calli (va_runSN (g_fix hC) (hk X.2.1 x H.size (g, b) hC.2.2.2.2.2.2.2.2.2.2.2 (by rw [hE]; rfl)) ⟨hcw, hC.word hst, trivial⟩ ⟨g_blind, g_give hC hP hS⟩ rfl hn (by rw [← hC.maxL]; exact hl2.1) rfl (by simpa using h8) hd (by rw [hC.room]; exact hcs)) hS (fun q _ h => hC.A q (g_A_mono hS.1 q h)) (fun q h => hC.A q (g_A_mono hS.1 q h)) (fun r u t H1 locs1 ht hvm hw hB hz1 hk1 hS1 => ?_)
    have hw' : r = b := hw
    subst hw'
    have hP1 : va_P P.1 g_cl (g_wl P g x) t.heap := hB
    rw [ht] at hP1
    exact kk r hE a ha H1 locs1 ls hl2 hP1 hS1
end GSPEC
