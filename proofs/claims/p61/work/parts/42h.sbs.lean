/-! ===== new String, toString ===== -/
abbrev SWa (h v q : Nat) : Nat → Nat := fun k => if k = 0 then h else if k = 1 then v else q
abbrev SWW (P0 : GP) (h v m q : Nat) : GP := (P0.1, P0.2.1, SWa h v q, P0.2.2.2.1, P0.2.2.2.2.1, [.inr (12, SBf), .inl (.byte, m, []), .inr (11, [some none, none, none, none])], P0.2.2.2.2.2.2)
/-- a string at q, its bytes new -/
def SWq (P0 : GP) (q sz n : Nat) (F : (Nat → Int32) → Prop) (t : State) : Prop := ∃ (b : Nat) (f : Nat → Int32), sz ≤ b ∧ b ≠ q ∧ F f ∧ va_P P0.1 g_cl [(q, .inr (11, [.ref b, .int 0, .int 0, .int 0])), (b, .inl (P0.2.1 .byte, n, .inl f))] t.heap
def KSN (P0 : GP) (D : Nat × Nat) (y : MethodName) (cc : ByteArray) (maxL : Nat) (rm : Room) (As : List Value) (h v m q : Nat) (g : GM) (n : Nat) (F : (Nat → Int32) → Prop) : Prop :=
  ∀ (l : Launch) (x : GE) (sz : Nat), l.stackTraces = false →
    Met l y (g_ws y cc maxL none) rm (va_Pc As (g_pre2 (SWW P0 h v m q) D g x sz)) (va_Qv (fun (_ : Unit) => True) (fun _ => SWq P0 q sz n F) (g_A (SWW P0 h v m q) sz)) rm.cells rm.slots (g_A (SWW P0 h v m q) sz)
def g_QSN (P0 : GP) (q n : Nat) (F : (Nat → Int32) → Prop) (X : GX) (ca cb : Nat) : Unit → State → Prop := fun _ => MQ X.2.2.2.2.2.2.2.1 (va_Qv (fun (_ : Unit) => True) (fun _ => SWq P0 q X.2.2.2.2.1.heap.size n F) X.2.2.2.2.2.2.2.2.2.2) X.2.2.2.2.2.2.1 X.2.2.2.2.1 ca cb X.2.2.2.2.2.2.2.2.2.2
/-- a string is answered, in a world that is forgotten -/
def KTS (P : GP) (D : Nat × Nat) (y : MethodName) (cc : ByteArray) (maxL : Nat) (rm : Room) (As : List Value) (g : GM) (T : Nat → Nat → State → Prop) : Prop :=
  ∀ (l : Launch) (x : GE) (sz : Nat), l.stackTraces = false →
    Met l y (g_ws y cc maxL (some (.object "java/lang/String"))) rm (va_Pc As (g_pre2 P D g x sz)) (va_Qr (fun (_ : Unit) => True) (fun _ a t => sz ≤ a ∧ T a sz t) (g_A P sz)) rm.cells rm.slots (g_A P sz)
def g_QTS (T : Nat → Nat → State → Prop) (X : GX) (ca cb : Nat) : Unit → State → Prop := fun _ => MQ X.2.2.2.2.2.2.2.1 (va_Qr (fun (_ : Unit) => True) (fun _ a t => X.2.2.2.2.1.heap.size ≤ a ∧ T a X.2.2.2.2.1.heap.size t) X.2.2.2.2.2.2.2.2.2.2) X.2.2.2.2.2.2.1 X.2.2.2.2.1 ca cb X.2.2.2.2.2.2.2.2.2.2
/-- a cell of the world is answered -/
def KRC (P : GP) (D : Nat × Nat) (y : MethodName) (cc : ByteArray) (maxL : Nat) (ret : FieldType) (rm : Room) (As : List Value) (g : GM) (r : Nat) : Prop :=
  ∀ (l : Launch) (x : GE) (sz : Nat), l.stackTraces = false →
    Met l y (g_ws y cc maxL (some ret)) rm (va_Pc As (g_pre2 P D g x sz)) (va_Qr (fun (_ : Unit) => True) (fun _ a t => a = P.2.2.1 r ∧ g_pw P g x t) (g_A P sz)) 0 0 (g_A P sz)
theorem g_min_le {n m : Nat} (h : n ≤ m) (hm : m < 2 ^ 31) : g_min (nI m) (nI n) = nI n := by
  show (if nI n < nI m then nI n else nI m) = nI n
  by_cases e : n < m
  · exact if_pos (nI_lt e hm)
  · rw [show m = n by omega, if_neg (nI_nlt (Nat.le_refl _) (by omega))]
theorem nI_nge {n : Nat} (h : n ≤ 9) : ¬ (2147483631 : Int32) ≤ nI n := fun c => by
  have h1 : nI 2147483631 ≤ nI n := c
  exact absurd ((nI_leI (by decide) (by omega)).mp h1) (by omega)
section SBH
variable {P : GP} {X : GX} {own : String} {cc : ByteArray} {nL : Nat} {R0 : Room} {α : Type} {Qf : α → State → Prop} {ce sl pc : Nat} {L : List (Option Value)} {st st0 : List Value} {g g' : GM} {x : GE} {E : Option α}
variable {y x0 : MethodName} {cc' : ByteArray} {maxL n i : Nat} {rm : Room} {As : List Value} {P0 : GP} {D : Nat × Nat} {h v m q : Nat} {F : (Nat → Int32) → Prop}
theorem KSN.ofW {cc : ByteArray} (hy : plainName y.cls = true) (hAs : g_c1 (As.map some) = true) (hn : As.length ≤ maxL)
    (hh : ∀ (X : GX) (x : GE), GC (SWW P0 h v m q) X y.cls cc maxL rm → X.2.2.2.2.2.2.2.2.1.sig.returnType = none → X.2.2.2.2.2.2.2.2.1.name = y.name → g_TB D X.2.2.2.2.2.2.2.2.2.2 X.2.2.2.2.1 X.2.2.2.2.1.heap → GR (SWW P0 h v m q) X (g_QSN P0 q n F X rm.cells rm.slots) 0 0 (some ()) 0 (g_L0 As maxL) [] g x) : KSN P0 D y cc maxL rm As h v m q g n F :=
  fun l x sz hst => g_entry hst hy hAs hn (Qf := fun X => g_QSN P0 q n F X rm.cells rm.slots) (fun p e s m args below meth c hsz t ht => by subst hsz; exact ht) (fun X hsz hC hr hnm hT => hh X x hC hr hnm.1 hT)
theorem KTS.ofW {T : Nat → Nat → State → Prop} {cc : ByteArray} (hy : plainName y.cls = true) (hAs : g_c1 (As.map some) = true) (hn : As.length ≤ maxL)
    (hh : ∀ (X : GX) (x : GE), GC P X y.cls cc maxL rm → X.2.2.2.2.2.2.2.2.1.sig.returnType = some (.object "java/lang/String") → X.2.2.2.2.2.2.2.2.2.2 = g_A P X.2.2.2.2.1.heap.size → g_TB D X.2.2.2.2.2.2.2.2.2.2 X.2.2.2.2.1 X.2.2.2.2.1.heap → GR P X (g_QTS T X rm.cells rm.slots) 0 0 (some ()) 0 (g_L0 As maxL) [] g x) : KTS P D y cc maxL rm As g T :=
  fun l x sz hst => g_entry hst hy hAs hn (Qf := fun X => g_QTS T X rm.cells rm.slots) (fun p e s m args below meth c hsz t ht => by subst hsz; exact ht) (fun X hsz hC hr hnm hT => hh X x hC hr hnm.2 hT)
theorem KRC.ofW {cc : ByteArray} {ret : FieldType} {r : Nat} (hy : plainName y.cls = true) (hAs : g_c1 (As.map some) = true) (hn : As.length ≤ maxL)
    (hh : ∀ (X : GX) (x : GE), GC P X y.cls cc maxL rm → X.2.2.2.2.2.2.2.2.1.sig.returnType = some ret → GR P X (fun _ => MQ X.2.2.2.2.2.2.2.1 (va_Qr (fun (_ : Unit) => True) (fun _ a t => a = P.2.2.1 r ∧ g_pw P g x t) X.2.2.2.2.2.2.2.2.2.2) X.2.2.2.2.2.2.1 X.2.2.2.2.1 0 0 X.2.2.2.2.2.2.2.2.2.2) 0 0 (some ()) 0 (g_L0 As maxL) [] g x) : KRC P D y cc maxL ret rm As g r :=
  fun l x sz hst => g_entry hst hy hAs hn (Qf := fun X _ => MQ X.2.2.2.2.2.2.2.1 (va_Qr (fun (_ : Unit) => True) (fun _ a t => a = P.2.2.1 r ∧ g_pw P g x t) X.2.2.2.2.2.2.2.2.2.2) X.2.2.2.2.2.2.1 X.2.2.2.2.1 0 0 X.2.2.2.2.2.2.2.2.2.2) (fun p e s m args below meth c hsz t ht => by subst hsz; exact ht) (fun X hsz hC hr hnm hT => hh X x hC hr)
theorem GR_null (hC : GC P X own cc nL R0) (hd : decode cc pc = .ok (.aconst_null, 1)) (kk : GR P X Qf ce sl E (pc + 1) L (.null :: st) g x) : GR P X Qf ce sl E pc L st g x :=
  fun a ha H locs ls hl hP hS => lv_null hC.exec hC.bytes hd (kk a ha H locs ls hl hP hS)
/-- a final field of a byte, in its class's constructor -/
theorem GR_putFB (hC : GC P X own cc nL R0) (hin : X.2.2.2.2.2.2.2.2.1.name = "<init>") {o i ci j : Nat} {v : Int32} {q : vw_C} {fs : List (Option (Option Nat))} (hn : narrow .byte (.int v) = .int v) (hf : fits .byte (.int v) = true) (hq : g_cl[ci]? = some q) (hjq : j < q.2.2) (hw : Cond.fieldLink own i (q.2.1 j).1 (q.2.1 j).2.1 (q.2.1 j).2.2.1 ∈ g_w) (hfin : (q.2.1 j).2.2.2 = true) (hown : (q.2.1 j).1 = own) (hty : parseFieldDescriptor (q.2.1 j).2.2.1 = some .byte) (hs : (g_sh P)[o]? = some (.inr (ci, fs))) (hj : fs[j]? = some none) (hd : decode cc pc = .ok (.putfield i, 3))
    (kk : GR P X Qf ce sl E (pc + 3) L st (g_st g o j v) x) : GR P X Qf ce sl E pc L (.int v :: gr P o :: st) g x := by
  intro a ha H locs ls hl hP hS
  obtain ⟨C, T, N⟩ := q
  have hm := List.mem_of_getElem? hq
  have hjl : j < fs.length := (List.getElem?_eq_some_iff.mp hj).1
  refine va_putF (D := P.1) (C := C) (T := T) (N := N) (ty := .byte) hC.exec hC.bytes hC.words (g_cl_ok _ hm) (fun k => (parseFieldDescriptor (T k).2.2.1).getD .int) (fun k hk => ?_) (g_cl_nm _ hm) hC.cls hC.K hP (hC.D g x) hS o (g_wl_at hs) hq j hjq (hC.word hw) (fun _ h => h) hfin hin hown hty hn hf (by simpa using hjl) hd (fun H1 locs1 hP1 hD1 hS1 => ?_)
  · have := g_cl_ty _ hm k hk
    cases hp : parseFieldDescriptor (T k).2.2.1 with
    | none => rw [hp] at this; cases this
    | some t => simp
  · refine kk a ha H1 locs1 ls hl ?_ hS1
    rw [g_wl_set (f := upd (g o) j v) hs] at hP1
    · exact hP1
    · show _ = Sum.inr _
      exact congrArg Sum.inr (congrArg (Prod.mk ci) (g_fld_set hj v))
theorem GR_aretRC (hC : GC P X own cc nL R0) {r : Nat} {ret : FieldType} (hrt : (∃ n, ret = .object n) ∨ ∃ t, ret = .array t) (hr : X.2.2.2.2.2.2.2.2.1.sig.returnType = some ret) (hd : decode cc pc = .ok (.areturn, 1)) : GR P X (fun _ => MQ X.2.2.2.2.2.2.2.1 (va_Qr (fun (_ : Unit) => True) (fun _ a t => a = P.2.2.1 r ∧ g_pw P g x t) X.2.2.2.2.2.2.2.2.2.2) X.2.2.2.2.2.2.1 X.2.2.2.2.1 0 0 X.2.2.2.2.2.2.2.2.2.2) 0 0 (some ()) pc L [gr P r] g x := by
  intro a ha H locs ls hl hP hS
  exact W.aret hC.exec hC.bytes hr hrt (Or.inr ⟨_, rfl⟩) (fun t ht hW => ⟨⟨(), _, rfl, trivial, rfl, by show va_P _ _ _ t.heap; rw [ht]; exact hP⟩, hS.F ht⟩) hS.2.2 hd hC.locks
theorem GR_uR (hC : GC P X own cc nL R0) (hT : g_TB D X.2.2.2.2.2.2.2.2.2.2 X.2.2.2.2.1 X.2.2.2.2.1.heap) {o ci r : Nat} {fs : List (Option (Option Nat))} {q : vw_C} {ret : FieldType} (hs : (g_sh P)[o]? = some (.inr (ci, fs))) (hq : g_cl[ci]? = some q) (hk : KRC P D y cc' maxL ret rm (gr P o :: As) g r) (hm : g_MY y cc' maxL (some ret) n) (hx : g_CU own i x0 y n) (hsel : (Cond.selects q.1 x0 y).before X.2.2.2.2.2.2.1 X.2.2.2.2.1 = true) (hr0 : rm.cells = 0 ∧ rm.slots = 0) (hR : rm.frames + 1 ≤ R0.frames ∧ 8 + (maxL + 11) + rm.locals ≤ R0.locals) (hcs : ce ≤ R0.cells ∧ sl ≤ R0.slots)
    (h0 : st0 = As.reverse ++ gr P o :: st) (hn : As.length = n) (h8 : (st.map fun v => v.category).sum ≤ 8) (hd : decode cc pc = .ok (.invokevirtual i, 3))
    (kk : GR P X Qf ce sl E (pc + 3) L (gr P r :: st) g x) : GR P X Qf ce sl E pc L st0 g x := by
  intro a ha H locs ls hl2 hP hS
  subst h0
  have cw := g_cwU (rm := rm) hC hm hx hsel hR
  rw [hr0.1, hr0.2] at cw
  refine va_callr (va_runU (C := q.1) (g_fix hC) (hk X.2.1 x H.size hC.2.2.2.2.2.2.2.2.2.2.2) cw ⟨g_blind2, g_recv hC hP hs hq, g_give2 hC hT hP hS⟩ rfl hn (by rw [← hC.maxL]; exact hl2.1) rfl (by simpa using h8) hd (by rw [hC.room]; exact hcs)) hS (fun q _ h => hC.A q (g_A_mono hS.1 q h)) (fun q h => hC.A q (g_A_mono hS.1 q h)) (fun u ra t H1 locs1 ht hvm hw hB hz1 hk1 hS1 => ?_)
  obtain ⟨rfl, hP1⟩ := hB
  have hP1 : va_P P.1 g_cl (g_wl P g x) t.heap := hP1
  rw [ht] at hP1
  exact kk a ha H1 locs1 ls hl2 hP1 hS1
/-- a copy's answer is this method's -/
theorem GR_cpret {N : Nat} {ca cb : Nat} (hC : GC P X own cc nL R0) (hT : g_TB D X.2.2.2.2.2.2.2.2.2.2 X.2.2.2.2.1 X.2.2.2.2.1.heap) (hk : KCP P D y cc' maxL rm As g N F) (hm : g_MY y cc' maxL (some (.array .byte)) n) (hst : Cond.static y ∈ g_w) (hl : Cond.methodLink own i y ∈ g_w) (hR : rm.frames + 1 ≤ R0.frames ∧ 8 + (maxL + 11) + rm.locals ≤ R0.locals) (hcs : ce + rm.cells ≤ R0.cells ∧ sl + rm.slots ≤ R0.slots) (hcb : ce + rm.cells ≤ ca ∧ sl + rm.slots ≤ cb)
    (h0 : st0 = As.reverse ++ []) (hn : As.length = n) (hd : decode cc pc = .ok (.invokestatic i, 3)) (hr : X.2.2.2.2.2.2.2.2.1.sig.returnType = some (.array .byte)) (hd2 : decode cc (pc + 3) = .ok (.areturn, 1)) : GR P X (g_QCP P X x g N F ca cb) ce sl (some ()) pc L st0 g x := by
  intro a0 ha H locs ls hl2 hP hS
  subst h0
  refine va_callr (va_runS (g_fix hC) (hk X.2.1 x H.size hC.2.2.2.2.2.2.2.2.2.2.2) ⟨g_cwB hC hm hl hR, hC.word hst⟩ ⟨g_blind2, g_give2 hC hT hP hS⟩ rfl hn (by rw [← hC.maxL]; exact hl2.1) rfl (Nat.zero_le 8) hd (by rw [hC.room]; exact hcs)) hS (fun q _ h => hC.A q (g_A_mono hS.1 q h)) (fun q h => hC.A q (g_A_mono hS.1 q h)) (fun u a t H1 locs1 ht hvm hw hB hz1 hk1 hS1 => ?_)
  obtain ⟨q1, f, q2, q3⟩ := hB
  rw [ht] at q3
  exact W.widen hcb.1 hcb.2 (W.aret hC.exec hC.bytes hr (Or.inr ⟨_, rfl⟩) (Or.inr ⟨_, rfl⟩) (fun t ht hW => ⟨⟨(), a, rfl, trivial, Nat.le_trans hS.1 q1, f, q2, by rw [ht]; exact q3⟩, hS1.F ht⟩) hS1.2.2 hd2 hC.locks)
/-- a clone's answer is this method's -/
theorem GR_clret {k : Nat} {ca cb : Nat} {rs : List Nat} (hC : GC P X own cc nL R0) (hA : X.2.2.2.2.2.2.2.2.2.2 = g_A P X.2.2.2.2.1.heap.size) (hT : g_TB D X.2.2.2.2.2.2.2.2.2.2 X.2.2.2.2.1 X.2.2.2.2.1.heap) (hs : (g_sh P)[k]? = some (.inl (.byte, m, rs))) (hlen : (g_sh P).length = n) (hf : sb_Fit (g k)) (hF : F (g k)) {i2 : Nat}
    (hw : Cond.methodLink own i ⟨"[B", "clone", "()Ljava/lang/Object;"⟩ ∈ g_w ∧ Cond.sameMethod "[B" "java/lang/Object" "clone" "()Ljava/lang/Object;" ∈ g_w ∧ Cond.native ⟨"java/lang/Object", "clone", "()Ljava/lang/Object;"⟩ ∈ g_w ∧ Cond.instanceMethod ⟨"java/lang/Object", "clone", "()Ljava/lang/Object;"⟩ ∈ g_w ∧ Cond.selects "[B" ⟨"[B", "clone", "()Ljava/lang/Object;"⟩ ⟨"java/lang/Object", "clone", "()Ljava/lang/Object;"⟩ ∈ g_w) (hc : Cond.classLink own i2 "[B" ∈ g_w) (hR : 1 ≤ R0.frames ∧ 14 ≤ R0.locals) (hcs : ce + 1 ≤ R0.cells ∧ sl + m ≤ R0.slots) (hcb : ce + 1 ≤ ca ∧ sl + m ≤ cb)
    (hd : decode cc pc = .ok (.invokevirtual i, 3)) (hd2 : decode cc (pc + 3) = .ok (.checkcast i2, 3)) (hr : X.2.2.2.2.2.2.2.2.1.sig.returnType = some (.array .byte)) (hd3 : decode cc (pc + 3 + 3) = .ok (.areturn, 1)) : GR P X (g_QCP P X x g m F ca cb) ce sl (some ()) pc L [gr P k] g x := by
  intro a0 ha H locs ls hl2 hP hS
  have hnm : X.2.2.2.2.1.vm.findClass "[B" = some (P.2.1 .byte) := (hC.K.2 1 _ (g_tys_at (P := P) (t := .byte) rfl)).2
  have he : (g_wl P g x)[k]? = some (P.2.2.1 k, .inl (P.2.1 .byte, m, .inl (g k))) := g_wl_at hs
  refine va_clone hC.exec hC.bytes hl2.1.symm hC.cls (hC.word hw.1) (hC.word hw.2.1) (hC.word hw.2.2.1) (hC.word hw.2.2.2.1) (hC.word hw.2.2.2.2) hT.2.2.2.2.1 hC.K hP (hC.D g x) hS (fun q hq => hC.A q (Or.inr hq)) k 1 he (g_tys_at rfl) hnm (fun j v hv => ?_) (by rw [hC.room]; exact hR.1) (by rw [hC.room]; exact hR.2) (by rw [hC.room]; exact hcs.1) (by rw [hC.room]; exact hcs.2) hd (fun q H1 hK1 hP1 hD1 hS1 => ?_)
  · have h2 : (arrV (P.2.1 .byte) m (fun j => .int (g k j))).slots[j]? = some v := hv
    by_cases hj : j < m
    · rw [arrV_read _ _ hj] at h2
      cases h2
      exact hf j
    · rw [Array.getElem?_eq_none (by rw [arrV_size]; omega)] at h2
      cases h2
  · have hq := g_newq2 (e := .inl (.byte, m, [])) hlen (hC.add hlen hD1) hA
    refine va_castA hC.exec hC.bytes hC.cls (hC.word hc) hP1 n (cA := P.2.1 .byte) (x := (m, .inl (g k))) ?_ hnm hd2 ?_
    · rw [List.getElem?_append_right (by rw [g_wl_len]; omega), g_wl_len, hlen, Nat.sub_self]; rfl
    · exact W.widen hcb.1 hcb.2 (W.aret hC.exec hC.bytes hr (Or.inr ⟨_, rfl⟩) (Or.inr ⟨_, rfl⟩) (fun t ht hW => ⟨⟨(), q, rfl, trivial, hq, g k, hF, by rw [ht]; exact hP1⟩, hS1.F ht⟩) hS1.2.2 hd3 hC.locks)
/-- the copy put into the string: the constructor's end -/
theorem GR_cpstr {N i2 tgt : Nat} {off : Int} {ca cb : Nat} (hC : GC (SWW P0 h v m q) X own cc nL R0) (hinit : X.2.2.2.2.2.2.2.2.1.name = "<init>") (hown : own = RJ0) (hT : g_TB D X.2.2.2.2.2.2.2.2.2.2 X.2.2.2.2.1 X.2.2.2.2.1.heap) (hg2 : g 2 = fun _ => 0) (hk : KCP (SWW P0 h v m q) D y cc' maxL rm As g N F) (hm : g_MY y cc' maxL (some (.array .byte)) n) (hst : Cond.static y ∈ g_w) (hl : Cond.methodLink own i y ∈ g_w) (hR : rm.frames + 1 ≤ R0.frames ∧ 8 + (maxL + 11) + rm.locals ≤ R0.locals) (hcs : ce + rm.cells ≤ R0.cells ∧ sl + rm.slots ≤ R0.slots) (hcb : ce + rm.cells ≤ ca ∧ sl + rm.slots ≤ cb)
    (h0 : st0 = As.reverse ++ [.ref q]) (hn : As.length = n) (hd : decode cc pc = .ok (.invokestatic i, 3)) (hf : Cond.fieldLink own i2 (TJ0 0).1 (TJ0 0).2.1 (TJ0 0).2.2.1 ∈ g_w) (hd2 : decode cc (pc + 3) = .ok (.putfield i2, 3)) (hd3 : decode cc (pc + 3 + 3) = .ok (.goto off, 3)) (ht3 : ((pc + 3 + 3 : Nat) : Int) + off = (tgt : Int)) (hr : X.2.2.2.2.2.2.2.2.1.sig.returnType = none) (hd4 : decode cc tgt = .ok (.return_, 1)) : GR (SWW P0 h v m q) X (g_QSN P0 q N F X ca cb) ce sl (some ()) pc L st0 g x := by
  intro a0 ha H locs ls hl2 hP hS
  subst h0
  subst hown
  refine va_callr (va_runS (g_fix hC) (hk X.2.1 x H.size hC.2.2.2.2.2.2.2.2.2.2.2) ⟨g_cwB hC hm hl hR, hC.word hst⟩ ⟨g_blind2, g_give2 hC hT hP hS⟩ rfl hn (by rw [← hC.maxL]; exact hl2.1) rfl (Nat.le_of_ble_eq_true rfl) hd (by rw [hC.room]; exact hcs)) hS (fun q _ h => hC.A q (g_A_mono hS.1 q h)) (fun q h => hC.A q (g_A_mono hS.1 q h)) (fun u a t H1 locs1 ht hvm hw hB hz1 hk1 hS1 => ?_)
  obtain ⟨q1, f, q2, q3⟩ := hB
  rw [ht] at q3
  have hlt : ∀ (k : Nat) (z : Nat × va_E), (g_wl (SWW P0 h v m q) g x)[k]? = some z → z.1 < a := fun k z hz => Nat.lt_of_lt_of_le (hP k z hz).lt q1
  have hne : a ≠ q := fun e => by
    have h2 : q < a := hlt 2 _ rfl
    omega
  have hA : X.2.2.2.2.2.2.2.2.2.2 a := hC.A a (Or.inr (Nat.le_trans hS.1 q1))
  have hD := va_D_push (e := .inl (P0.2.1 .byte, N, .inl f)) (hC.D g x) hlt hA
  refine va_putF (D := P0.1) (C := RJ0) (T := TJ0) (N := 4) (ty := .array .byte) hC.exec hC.bytes hC.words (g_cl_ok (RJ0, TJ0, 4) (List.mem_of_getElem? (i := 11) rfl)) (fun k => (parseFieldDescriptor (TJ0 k).2.2.1).getD .int) (fun k hk => ?_) (g_cl_nm (RJ0, TJ0, 4) (List.mem_of_getElem? (i := 11) rfl)) hC.cls hC.K q3 hD hS1 2 rfl rfl 0 (by decide) (hC.word hf) (fun _ h => h) rfl hinit rfl (by decide +kernel) rfl rfl (by simp) hd2 (fun H2 locs2 hP2 hD2 hS2 => ?_)
  · have := g_cl_ty (RJ0, TJ0, 4) (List.mem_of_getElem? (i := 11) rfl) k hk
    cases hp : parseFieldDescriptor (TJ0 k).2.2.1 with
    | none => rw [hp] at this; cases this
    | some t => simp
  · refine lv_goto hC.exec hC.bytes hd3 ht3 ?_
    have hP3 : va_P P0.1 g_cl [(q, .inr (11, [.ref a, .int (g 2 1), .int (g 2 2), .int (g 2 3)])), (a, .inl (P0.2.1 .byte, N, .inl f))] H2 := hP2.sub [2, 3] rfl
    rw [hg2] at hP3
    exact W.widen hcb.1 hcb.2 (W.vret hC.exec hC.bytes hr (fun t ht hW => ⟨⟨(), rfl, trivial, a, f, Nat.le_trans hS.1 q1, hne, q2, by rw [ht]; exact hP3⟩, hS2.F ht⟩) hS2.2.2 hd4 hC.locks)
/-- a constructor of this object is all that is left -/
theorem GR_ksnV {N : Nat} {ca cb : Nat} (hC : GC (SWW P0 h v m q) X own cc nL R0) (hT : g_TB D X.2.2.2.2.2.2.2.2.2.2 X.2.2.2.2.1 X.2.2.2.2.1.heap) (hk : KSN P0 D y cc' maxL rm (.ref q :: As) h v m q g N F) (hm : g_MY y cc' maxL none n) (hl : Cond.methodLink own i y ∈ g_w) (hin : y.name = "<init>" ∧ Cond.instanceMethod y ∈ g_w) (hR : rm.frames + 1 ≤ R0.frames ∧ 8 + (maxL + 11) + rm.locals ≤ R0.locals) (hcs : ce + rm.cells ≤ R0.cells ∧ sl + rm.slots ≤ R0.slots) (hcb : ce + rm.cells ≤ ca ∧ sl + rm.slots ≤ cb)
    (h0 : st0 = As.reverse ++ [.ref q]) (hn : As.length = n) (hd : decode cc pc = .ok (.invokespecial i, 3)) (hr : X.2.2.2.2.2.2.2.2.1.sig.returnType = none) (hd2 : decode cc (pc + 3) = .ok (.return_, 1)) : GR (SWW P0 h v m q) X (g_QSN P0 q N F X ca cb) ce sl (some ()) pc L st0 g x := by
  intro a0 ha H locs ls hl2 hP hS
  subst h0
  refine va_callv (va_runI (rest := []) (g_fix hC) (hk X.2.1 x H.size hC.2.2.2.2.2.2.2.2.2.2.2) ⟨g_cwB hC hm hl hR, hin.1, hC.word hin.2⟩ ⟨g_blind2, g_give2 hC hT hP hS⟩ rfl hn (by rw [← hC.maxL]; exact hl2.1) rfl (Nat.zero_le 8) hd (by rw [hC.room]; exact hcs)) hS (fun q _ h => hC.A q (g_A_mono hS.1 q h)) (fun q h => hC.A q (g_A_mono hS.1 q h)) (fun u t H1 locs1 ht hvm hw hB hz1 hk1 hS1 => ?_)
  obtain ⟨b, f, q1, q2, q3, q4⟩ := hB
  rw [ht] at q4
  exact W.widen hcb.1 hcb.2 (W.vret hC.exec hC.bytes hr (fun t ht hW => ⟨⟨(), rfl, trivial, b, f, Nat.le_trans hS.1 q1, q2, q3, by rw [ht]; exact q4⟩, hS1.F ht⟩) hS1.2.2 hd2 hC.locks)
/-- .. and the object is answered -/
theorem GR_ksnR {N : Nat} {ca cb : Nat} (hC : GC (SWW P0 h v m q) X own cc nL R0) (hT : g_TB D X.2.2.2.2.2.2.2.2.2.2 X.2.2.2.2.1 X.2.2.2.2.1.heap) (hq : X.2.2.2.2.1.heap.size ≤ q) (hk : KSN P0 D y cc' maxL rm (.ref q :: As) h v m q g N F) (hm : g_MY y cc' maxL none n) (hl : Cond.methodLink own i y ∈ g_w) (hin : y.name = "<init>" ∧ Cond.instanceMethod y ∈ g_w) (hR : rm.frames + 1 ≤ R0.frames ∧ 8 + (maxL + 11) + rm.locals ≤ R0.locals) (hcs : ce + rm.cells ≤ R0.cells ∧ sl + rm.slots ≤ R0.slots) (hcb : ce + rm.cells ≤ ca ∧ sl + rm.slots ≤ cb)
    (h0 : st0 = As.reverse ++ .ref q :: [.ref q]) (hn : As.length = n) (hd : decode cc pc = .ok (.invokespecial i, 3)) (hr : X.2.2.2.2.2.2.2.2.1.sig.returnType = some (.object "java/lang/String")) (hd2 : decode cc (pc + 3) = .ok (.areturn, 1)) : GR (SWW P0 h v m q) X (g_QTS (fun a sz t => SWq P0 a sz N F t) X ca cb) ce sl (some ()) pc L st0 g x := by
  intro a0 ha H locs ls hl2 hP hS
  subst h0
  refine va_callv (va_runI (g_fix hC) (hk X.2.1 x H.size hC.2.2.2.2.2.2.2.2.2.2.2) ⟨g_cwB hC hm hl hR, hin.1, hC.word hin.2⟩ ⟨g_blind2, g_give2 hC hT hP hS⟩ rfl hn (by rw [← hC.maxL]; exact hl2.1) rfl (Nat.le_of_ble_eq_true rfl) hd (by rw [hC.room]; exact hcs)) hS (fun q _ h => hC.A q (g_A_mono hS.1 q h)) (fun q h => hC.A q (g_A_mono hS.1 q h)) (fun u t H1 locs1 ht hvm hw hB hz1 hk1 hS1 => ?_)
  obtain ⟨b, f, q1, q2, q3, q4⟩ := hB
  rw [ht] at q4
  exact W.widen hcb.1 hcb.2 (W.aret hC.exec hC.bytes hr (Or.inl ⟨_, rfl⟩) (Or.inr ⟨_, rfl⟩) (fun t ht hW => ⟨⟨(), q, rfl, trivial, hq, b, f, Nat.le_trans hS.1 q1, q2, q3, by rw [ht]; exact q4⟩, hS1.F ht⟩) hS1.2.2 hd2 hC.locks)
/-- new String -/
theorem GR_newStr (hC : GC (SBW P0 h v m) X own cc nL R0) (hA : X.2.2.2.2.2.2.2.2.2.2 = g_A (SBW P0 h v m) X.2.2.2.2.1.heap.size) (hw : Cond.classLink own i RJ0 ∈ g_w ∧ Cond.instantiable RJ0 4 ∈ g_w ∧ Cond.initialized RJ0 ∈ g_w) (hg0 : g 2 = fun _ => 0) (hr : ce + 1 ≤ R0.cells ∧ sl + 4 ≤ R0.slots) (hd : decode cc pc = .ok (.new i, 3))
    (kk : ∀ q : Nat, X.2.2.2.2.1.heap.size ≤ q → GC (SWW P0 h v m q) X own cc nL R0 → GR (SWW P0 h v m q) X Qf (ce + 1) (sl + 4) E (pc + 3) L (.ref q :: st) g x) : GR (SBW P0 h v m) X Qf ce sl E pc L st g x := by
  intro a ha H locs ls hl hP hS
  have hz := g_blk_ok ((RJ0, TJ0, 4), [some none, none, none, none]) (List.mem_of_getElem? (i := 11) rfl)
  refine va_new (C := RJ0) (T := TJ0) (N := 4) (fs := g_bv [some none, none, none, none]) hC.exec hC.bytes hC.words (g_cl_ok (RJ0, TJ0, 4) (List.mem_of_getElem? (i := 11) rfl)) (fun k => (parseFieldDescriptor (TJ0 k).2.2.1).getD .int) (fun k hk => ?_) hC.cls (hC.word hw.1) (hC.word hw.2.1) (hC.word hw.2.2) hC.K hP (hC.D g x) hS (fun q hq => hC.A q (Or.inr hq)) (ci := 11) rfl hz.2 (by rw [hC.room]; exact hr.1) (by rw [hC.room]; exact hr.2) hd (fun q H1 hP1 hD1 hS1 => ?_)
  · have := g_cl_ty (RJ0, TJ0, 4) (List.mem_of_getElem? (i := 11) rfl) k hk
    cases hp : parseFieldDescriptor (TJ0 k).2.2.1 with
    | none => rw [hp] at this; cases this
    | some t => simp
  · have hC1 : GC (g_add (SBW P0 h v m) 2 q (.inr (11, [some none, none, none, none]))) X own cc nL R0 := hC.add rfl hD1
    have hq := g_newq2 (k := 2) rfl hC1 hA
    have hadr : ∀ k : Nat, k < 3 → (SWW P0 h v m q).2.2.1 k = (g_add (SBW P0 h v m) 2 q (.inr (11, [some none, none, none, none]))).2.2.1 k := fun k hk => by
      rcases (by omega : k = 0 ∨ k = 1 ∨ k = 2) with rfl | rfl | rfl <;> rfl
    have hC2 : GC (SWW P0 h v m q) X own cc nL R0 := ⟨hC.1, hC.2.1, hC.2.2.1, hC.2.2.2.1, hC.2.2.2.2.1, hC.K, hC.locks, hC.room, fun z hz => hz.elim (fun ⟨k, hk, e⟩ => by rw [e, hadr k hk]; exact hC1.A _ (Or.inl ⟨k, hk, rfl⟩)) (fun h1 => hC.A _ (Or.inr h1)), fun i j hi hj e => by rw [hadr i hi, hadr j hj] at e; exact hC1.inj i j hi hj e, hC.E, hC.2.2.2.2.2.2.2.2.2.2.2⟩
    refine kk q hq hC2 a ha H1 locs ls hl ?_ hS1
    have he : g_wl (SWW P0 h v m q) g x = g_wl (SBW P0 h v m) g x ++ [(q, .inr (11, g_bv [some none, none, none, none]))] := by
      show [(h, _), (v, _), (q, Sum.inr (11, [Value.null, .int (g 2 1), .int (g 2 2), .int (g 2 3)]))] = _
      rw [hg0]; rfl
    rw [he]
    exact hP1
end SBH
