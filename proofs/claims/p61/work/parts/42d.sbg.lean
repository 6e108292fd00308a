/-! ===== bytes copied, the buffer grown ===== -/
section SBD
variable {P : GP} {X : GX} {own : String} {cc : ByteArray} {nL : Nat} {R0 : Room} {α : Type} {Qf : α → State → Prop} {ce sl pc : Nat} {L : List (Option Value)} {st st0 : List Value} {g g' : GM} {x : GE} {E : Option α}
variable {y x0 : MethodName} {cc' : ByteArray} {maxL n i : Nat} {ret : Option FieldType} {rm : Room} {As : List Value} {P0 : GP} {D : Nat × Nat} {h v m : Nat}
theorem GR_zI (hC : GC P X own cc nL R0) {o : Nat} {e0 : Int32} (hk : KI P y cc' maxL ret rm (gsr P o :: As) g ((some e0).map (fun r => (g, r)))) (hm : g_MY y cc' maxL ret n) (hin : Cond.instanceMethod y ∈ g_w ∧ Cond.selects y.cls y y ∈ g_w) (hl : Cond.methodLink own i y ∈ g_w) (hs : o < g_ns P) (hqc : "java/lang/String" = y.cls) (hr0 : rm.cells = 0 ∧ rm.slots = 0) (hR : rm.frames + 1 ≤ R0.frames ∧ 8 + (maxL + 11) + rm.locals ≤ R0.locals) (hcs : ce ≤ R0.cells ∧ sl ≤ R0.slots)
    (h0 : st0 = As.reverse ++ gsr P o :: st) (hn : As.length = n) (h8 : (st.map fun v => v.category).sum ≤ 8) (hd : decode cc pc = .ok (.invokevirtual i, 3))
    (kk : GR P X Qf ce sl E (pc + 3) L (.int e0 :: st) g x) : GR P X Qf ce sl E pc L st0 g x :=
  GR.eq (E' := (some e0).bind (fun _ => E)) rfl (GR_callZP (E0 := some e0) (F := fun _ => E) hC hk hm hin hl hs hqc hr0 hR hcs h0 hn h8 hd (fun r e => by cases e; exact kk))
/-- an int, and the tables at hand -/
def KI2 (P : GP) (D : Nat × Nat) (y : MethodName) (cc : ByteArray) (maxL : Nat) (ret : FieldType) (rm : Room) (As : List Value) (g g' : GM) (e0 : Int32) : Prop :=
  ∀ (l : Launch) (x : GE) (sz : Nat), l.stackTraces = false →
    Met l y (g_ws y cc maxL (some ret)) rm (va_Pc As (g_pre2 P D g x sz)) (va_Qi (fun r (_ : Unit) => r = e0) (fun _ => g_pw P g' x) (g_A P sz)) 0 0 (g_A P sz)
theorem KI2.ofW {As : List Value} {ret : FieldType} {cc : ByteArray} {e0 : Int32} (hy : plainName y.cls = true) (hAs : g_c1 (As.map some) = true) (hn : As.length ≤ maxL)
    (hh : ∀ (X : GX) (x : GE), GC P X y.cls cc maxL rm → X.2.2.2.2.2.2.2.2.1.sig.returnType = some ret → g_TB D X.2.2.2.2.2.2.2.2.2.2 X.2.2.2.2.1 X.2.2.2.2.1.heap → GR P X (fun _ => g_QI P X x (g', e0)) 0 0 (some ()) 0 (g_L0 As maxL) [] g x) : KI2 P D y cc maxL ret rm As g g' e0 :=
  fun l x sz hst => g_entry hst hy hAs hn (Qf := fun X _ => g_QI P X x (g', e0)) (fun p e s m args below meth c hsz t ht => by subst hsz; exact ht) (fun X hsz hC hr hnm hT => hh X x hC hr hT)
theorem GR_iretQ (hC : GC P X own cc nL R0) {v : Int32} (hr : X.2.2.2.2.2.2.2.2.1.sig.returnType = some .int) (hd : decode cc pc = .ok (.ireturn, 1)) : GR P X (fun _ => g_QI P X x (g, v)) 0 0 (some ()) pc L [.int v] g x :=
  fun a _ H locs ls hl hP hS => GR_iret (L := L) hC hr hd (g, v) rfl H locs ls hl hP hS
theorem GR_s2 (hC : GC P X own cc nL R0) (hT : g_TB D X.2.2.2.2.2.2.2.2.2.2 X.2.2.2.2.1 X.2.2.2.2.1.heap) {ret : FieldType} {e0 : Int32} (hk : KI2 P D y cc' maxL ret rm As g g' e0) (hm : g_MY y cc' maxL (some ret) n) (hst : Cond.static y ∈ g_w) (hl : Cond.methodLink own i y ∈ g_w) (hr0 : rm.cells = 0 ∧ rm.slots = 0) (hR : rm.frames + 1 ≤ R0.frames ∧ 8 + (maxL + 11) + rm.locals ≤ R0.locals) (hcs : ce ≤ R0.cells ∧ sl ≤ R0.slots)
    (h0 : st0 = As.reverse ++ st) (hn : As.length = n) (h8 : (st.map fun v => v.category).sum ≤ 8) (hd : decode cc pc = .ok (.invokestatic i, 3))
    (kk : GR P X Qf ce sl E (pc + 3) L (.int e0 :: st) g' x) : GR P X Qf ce sl E pc L st0 g x := by
  intro a ha H locs ls hl2 hP hS
  subst h0
  refine va_calli (va_runS (g_fix hC) (hk X.2.1 x H.size hC.2.2.2.2.2.2.2.2.2.2.2) ⟨g_callB hC hm hl hr0 hR, hC.word hst⟩ ⟨g_blind2, g_give2 hC hT hP hS⟩ rfl hn (by rw [← hC.maxL]; exact hl2.1) rfl (by simpa using h8) hd (by rw [hC.room]; exact hcs)) hS (fun q _ h => hC.A q (g_A_mono hS.1 q h)) (fun q h => hC.A q (g_A_mono hS.1 q h)) (fun r u t H1 locs1 ht hvm hw hB hz1 hk1 hS1 => ?_)
  have hw' : r = e0 := hw
  subst hw'
  have hP1 : va_P P.1 g_cl (g_wl P g' x) t.heap := hB
  rw [ht] at hP1
  exact kk a ha H1 locs1 ls hl2 hP1 hS1
/-- nothing, and the tables at hand -/
def KV2 (P : GP) (D : Nat × Nat) (y : MethodName) (cc : ByteArray) (maxL : Nat) (rm : Room) (As : List Value) (g g' : GM) : Prop :=
  ∀ (l : Launch) (x : GE) (sz : Nat), l.stackTraces = false →
    Met l y (g_ws y cc maxL none) rm (va_Pc As (g_pre2 P D g x sz)) (va_Qv (fun (_ : Unit) => True) (fun _ => g_pw P g' x) (g_A P sz)) 0 0 (g_A P sz)
theorem KV2.ofW {As : List Value} {cc : ByteArray} (hy : plainName y.cls = true) (hAs : g_c1 (As.map some) = true) (hn : As.length ≤ maxL)
    (hh : ∀ (X : GX) (x : GE), GC P X y.cls cc maxL rm → X.2.2.2.2.2.2.2.2.1.sig.returnType = none → g_TB D X.2.2.2.2.2.2.2.2.2.2 X.2.2.2.2.1 X.2.2.2.2.1.heap → GR P X (fun _ => g_QV P X x g') 0 0 (some ()) 0 (g_L0 As maxL) [] g x) : KV2 P D y cc maxL rm As g g' :=
  fun l x sz hst => g_entry hst hy hAs hn (Qf := fun X _ => g_QV P X x g') (fun p e s m args below meth c hsz t ht => by subst hsz; exact ht) (fun X hsz hC hr hnm hT => hh X x hC hr hT)
theorem GR_vretQ (hC : GC P X own cc nL R0) (hr : X.2.2.2.2.2.2.2.2.1.sig.returnType = none) (hd : decode cc pc = .ok (.return_, 1)) : GR P X (fun _ => g_QV P X x g) 0 0 (some ()) pc L [] g x :=
  fun a _ H locs ls hl hP hS => GR_vret (L := L) hC hr hd g rfl H locs ls hl hP hS
theorem GR_u2V (hC : GC P X own cc nL R0) (hT : g_TB D X.2.2.2.2.2.2.2.2.2.2 X.2.2.2.2.1 X.2.2.2.2.1.heap) {o ci : Nat} {fs : List (Option (Option Nat))} {q : vw_C} (hs : (g_sh P)[o]? = some (.inr (ci, fs))) (hq : g_cl[ci]? = some q) (hk : KV2 P D y cc' maxL rm (gr P o :: As) g g') (hm : g_MY y cc' maxL none n) (hx : g_CU own i x0 y n) (hsel : (Cond.selects q.1 x0 y).before X.2.2.2.2.2.2.1 X.2.2.2.2.1 = true) (hr0 : rm.cells = 0 ∧ rm.slots = 0) (hR : rm.frames + 1 ≤ R0.frames ∧ 8 + (maxL + 11) + rm.locals ≤ R0.locals) (hcs : ce ≤ R0.cells ∧ sl ≤ R0.slots)
    (h0 : st0 = As.reverse ++ gr P o :: st) (hn : As.length = n) (h8 : (st.map fun v => v.category).sum ≤ 8) (hd : decode cc pc = .ok (.invokevirtual i, 3))
    (kk : GR P X Qf ce sl E (pc + 3) L st g' x) : GR P X Qf ce sl E pc L st0 g x := by
  intro a ha H locs ls hl2 hP hS
  subst h0
  have cw := g_cwU (rm := rm) hC hm hx hsel hR
  rw [hr0.1, hr0.2] at cw
  refine va_callv (va_runU (C := q.1) (g_fix hC) (hk X.2.1 x H.size hC.2.2.2.2.2.2.2.2.2.2.2) cw ⟨g_blind2, g_recv hC hP hs hq, g_give2 hC hT hP hS⟩ rfl hn (by rw [← hC.maxL]; exact hl2.1) rfl (by simpa using h8) hd (by rw [hC.room]; exact hcs)) hS (fun q _ h => hC.A q (g_A_mono hS.1 q h)) (fun q h => hC.A q (g_A_mono hS.1 q h)) (fun u t H1 locs1 ht hvm hw hB hz1 hk1 hS1 => ?_)
  have hP1 : va_P P.1 g_cl (g_wl P g' x) t.heap := hB
  rw [ht] at hP1
  exact kk a ha H1 locs1 ls hl2 hP1 hS1
/-- a new row of bytes beside the world -/
def KCP (P : GP) (D : Nat × Nat) (y : MethodName) (cc : ByteArray) (maxL : Nat) (rm : Room) (As : List Value) (g : GM) (N : Nat) (F : (Nat → Int32) → Prop) : Prop :=
  ∀ (l : Launch) (x : GE) (sz : Nat), l.stackTraces = false →
    Met l y (g_ws y cc maxL (some (.array .byte))) rm (va_Pc As (g_pre2 P D g x sz)) (va_Qr (fun (_ : Unit) => True) (fun _ a t => sz ≤ a ∧ ∃ f : Nat → Int32, F f ∧ va_P P.1 g_cl (g_wl P g x ++ [(a, .inl (P.2.1 .byte, N, .inl f))]) t.heap) (g_A P sz)) rm.cells rm.slots (g_A P sz)
def g_QCP (P : GP) (X : GX) (x : GE) (g : GM) (N : Nat) (F : (Nat → Int32) → Prop) (ca cb : Nat) : Unit → State → Prop := fun _ => MQ X.2.2.2.2.2.2.2.1 (va_Qr (fun (_ : Unit) => True) (fun _ a t => X.2.2.2.2.1.heap.size ≤ a ∧ ∃ f : Nat → Int32, F f ∧ va_P P.1 g_cl (g_wl P g x ++ [(a, .inl (P.2.1 .byte, N, .inl f))]) t.heap) X.2.2.2.2.2.2.2.2.2.2) X.2.2.2.2.2.2.1 X.2.2.2.2.1 ca cb X.2.2.2.2.2.2.2.2.2.2
theorem KCP.ofW {As : List Value} {cc : ByteArray} {N : Nat} {F : (Nat → Int32) → Prop} (hy : plainName y.cls = true) (hAs : g_c1 (As.map some) = true) (hn : As.length ≤ maxL)
    (hh : ∀ (X : GX) (x : GE), GC P X y.cls cc maxL rm → X.2.2.2.2.2.2.2.2.1.sig.returnType = some (.array .byte) → X.2.2.2.2.2.2.2.2.2.2 = g_A P X.2.2.2.2.1.heap.size → g_TB D X.2.2.2.2.2.2.2.2.2.2 X.2.2.2.2.1 X.2.2.2.2.1.heap → GR P X (g_QCP P X x g N F rm.cells rm.slots) 0 0 (some ()) 0 (g_L0 As maxL) [] g x) : KCP P D y cc maxL rm As g N F :=
  fun l x sz hst => g_entry hst hy hAs hn (Qf := fun X => g_QCP P X x g N F rm.cells rm.slots) (fun p e s m args below meth c hsz t ht => by subst hsz; exact ht) (fun X hsz hC hr hnm hT => hh X x hC hr hnm.2 hT)
/-- what is new lies behind the heap -/
theorem g_newq2 {k q : Nat} {e : GSh} (hk : (g_sh P).length = k) (hC : GC (g_add P k q e) X own cc nL R0) (hA : X.2.2.2.2.2.2.2.2.2.2 = g_A P X.2.2.2.2.1.heap.size) : X.2.2.2.2.1.heap.size ≤ q := by
  have h1 := hC.A q (Or.inl ⟨k, by show k < (g_sh P ++ [e]).length; rw [List.length_append, hk]; exact Nat.lt_succ_self k, by show q = if k = k then q else _; rw [if_pos rfl]⟩)
  rw [hA] at h1
  rcases h1 with ⟨j, hj, e2⟩ | h1
  · exfalso
    have h3 := hC.inj j k (by show j < (g_sh P ++ [e]).length; rw [List.length_append]; omega) (by show k < (g_sh P ++ [e]).length; rw [List.length_append, hk]; exact Nat.lt_succ_self k) (by show (if j = k then q else P.2.2.1 j) = if k = k then q else _; rw [if_pos rfl, if_neg (by omega)]; exact e2.symm)
    omega
  · exact h1
theorem GR_aretC {k q N : Nat} {f : Nat → Int32} {F : (Nat → Int32) → Prop} {g0 : GM} {ca cb : Nat} (hk : (g_sh P).length = k) (hc : (g_sh P).all (g_clB k) = true) (hC : GC (g_add P k q (.inl (.byte, N, []))) X own cc nL R0) (hA : X.2.2.2.2.2.2.2.2.2.2 = g_A P X.2.2.2.2.1.heap.size) (hcs : ce ≤ ca ∧ sl ≤ cb) (hg : g = g_up g0 k f) (hF : F f) (hr : X.2.2.2.2.2.2.2.2.1.sig.returnType = some (.array .byte)) (hd : decode cc pc = .ok (.areturn, 1)) : GR (g_add P k q (.inl (.byte, N, []))) X (g_QCP P X x g0 N F ca cb) ce sl (some ()) pc L [.ref q] g x := by
  intro a ha H locs ls hl hP hS
  subst hg
  have hP1 : va_P P.1 g_cl (g_wl P g0 x ++ [(q, .inl (P.2.1 .byte, N, .inl f))]) H := by
    have h1 : va_P P.1 g_cl (g_wl (g_add P k q (.inl (.byte, N, []))) (g_up g0 k f) x) H := hP
    rw [g_wl_add hk hc, g_wl_hi (by omega)] at h1
    have he : g_ent (g_add P k q (.inl (.byte, N, []))) (g_up g0 k f) x k (.inl (.byte, N, [])) = .inl (P.2.1 .byte, N, .inl f) := by simp only [g_ent, g_up_s]
    rw [he] at h1
    exact h1
  exact W.widen hcs.1 hcs.2 (W.aret hC.exec hC.bytes hr (Or.inr ⟨_, rfl⟩) (Or.inr ⟨_, rfl⟩) (fun t ht hW => ⟨⟨(), q, rfl, trivial, g_newq2 hk hC hA, f, hF, by rw [ht]; exact hP1⟩, hS.F ht⟩) hS.2.2 hd hC.locks)
theorem va_D_push {A : Nat → Prop} {ws : va_W} {a : Nat} {e : va_E} (h : va_D A ws) (hl : ∀ (k : Nat) (q : Nat × va_E), ws[k]? = some q → q.1 < a) (ha : A a) : va_D A (ws ++ [(a, e)]) := by
  have hat : ∀ (k : Nat) (q : Nat × va_E), (ws ++ [(a, e)])[k]? = some q → (k < ws.length ∧ ws[k]? = some q) ∨ (k = ws.length ∧ q = (a, e)) := fun k q hq => by
    by_cases hk : k < ws.length
    · rw [List.getElem?_append_left hk] at hq; exact Or.inl ⟨hk, hq⟩
    · by_cases h2 : k = ws.length
      · subst h2
        rw [List.getElem?_append_right (Nat.le_refl _), Nat.sub_self] at hq
        exact Or.inr ⟨rfl, (Option.some.inj hq).symm⟩
      · rw [List.getElem?_eq_none (by rw [List.length_append]; show ws.length + 1 ≤ k; omega)] at hq; cases hq
  refine ⟨fun i j p q hi hj hpq => ?_, fun k q hq => ?_⟩
  · rcases hat i p hi with ⟨h1, h2⟩ | ⟨h1, h2⟩ <;> rcases hat j q hj with ⟨h3, h4⟩ | ⟨h3, h4⟩
    · exact h.1 i j p q h2 h4 hpq
    · have := hl i p h2
      rw [h4] at hpq
      have h5 : p.1 = a := hpq
      omega
    · have := hl j q h4
      rw [h2] at hpq
      have h5 : a = q.1 := hpq
      omega
    · omega
  · rcases hat k q hq with ⟨h1, h2⟩ | ⟨h1, rfl⟩
    · exact h.2 k q h2
    · exact ha
/-- the buffer is another now: the answer of a copy put into the field -/
theorem GR_grow (hC : GC (SBW P0 h v m) X own cc nL R0) (hT : g_TB D X.2.2.2.2.2.2.2.2.2.2 X.2.2.2.2.1 X.2.2.2.2.1.heap) {N i2 : Nat} {F : (Nat → Int32) → Prop} (hk : KCP (SBW P0 h v m) D y cc' maxL rm As g N F) (hm : g_MY y cc' maxL (some (.array .byte)) n) (hst : Cond.static y ∈ g_w) (hl : Cond.methodLink own i y ∈ g_w) (hR : rm.frames + 1 ≤ R0.frames ∧ 8 + (maxL + 11) + rm.locals ≤ R0.locals) (hcs : ce + rm.cells ≤ R0.cells ∧ sl + rm.slots ≤ R0.slots)
    (h0 : st0 = As.reverse ++ .ref h :: st) (hn : As.length = n) (h8 : ((Value.ref h :: st).map fun v => v.category).sum ≤ 8) (hd : decode cc pc = .ok (.invokestatic i, 3)) (hf : Cond.fieldLink own i2 (TJ4 0).1 (TJ4 0).2.1 (TJ4 0).2.2.1 ∈ g_w) (hd2 : decode cc (pc + 3) = .ok (.putfield i2, 3))
    (kk : ∀ (a : Nat) (f : Nat → Int32), X.2.2.2.2.1.heap.size ≤ a → a ≠ h → F f → GC (SBW P0 h a N) X own cc nL R0 → GR (SBW P0 h a N) X Qf (ce + rm.cells) (sl + rm.slots) E (pc + 3 + 3) L st (g_up g 1 f) x) : GR (SBW P0 h v m) X Qf ce sl E pc L st0 g x := by
  intro a0 ha H locs ls hl2 hP hS
  subst h0
  refine va_callr (va_runS (g_fix hC) (hk X.2.1 x H.size hC.2.2.2.2.2.2.2.2.2.2.2) ⟨g_cwB hC hm hl hR, hC.word hst⟩ ⟨g_blind2, g_give2 hC hT hP hS⟩ rfl hn (by rw [← hC.maxL]; exact hl2.1) rfl (by simpa using h8) hd (by rw [hC.room]; exact hcs)) hS (fun q _ h => hC.A q (g_A_mono hS.1 q h)) (fun q h => hC.A q (g_A_mono hS.1 q h)) (fun u a t H1 locs1 ht hvm hw hB hz1 hk1 hS1 => ?_)
  obtain ⟨q1, f, q2, q3⟩ := hB
  rw [ht] at q3
  have hlt : ∀ (k : Nat) (q : Nat × va_E), (g_wl (SBW P0 h v m) g x)[k]? = some q → q.1 < a := fun k q hq => Nat.lt_of_lt_of_le (hP k q hq).lt q1
  have hne : a ≠ h := fun e => by
    have := hlt 0 _ rfl
    have h2 : h < a := this
    omega
  have hA : X.2.2.2.2.2.2.2.2.2.2 a := hC.A a (Or.inr (Nat.le_trans hS.1 q1))
  have hD := va_D_push (e := .inl (P0.2.1 .byte, N, .inl f)) (hC.D g x) hlt hA
  refine va_put (D := P0.1) (C := RJ4) (T := TJ4) (N := 4) (ty := .array .byte) hC.exec hC.bytes hC.words (g_cl_ok (RJ4, TJ4, 4) (List.mem_of_getElem? (i := 12) rfl)) (fun k => (parseFieldDescriptor (TJ4 k).2.2.1).getD .int) (fun k hk => ?_) (g_cl_nm (RJ4, TJ4, 4) (List.mem_of_getElem? (i := 12) rfl)) hC.cls hC.K q3 hD hS1 0 rfl rfl 0 (by decide) (hC.word hf) (fun _ h => h) rfl (by decide +kernel) rfl rfl (by simp) hd2 (fun H2 locs2 hP2 hD2 hS2 => ?_)
  · have := g_cl_ty (RJ4, TJ4, 4) (List.mem_of_getElem? (i := 12) rfl) k hk
    cases hp : parseFieldDescriptor (TJ4 k).2.2.1 with
    | none => rw [hp] at this; cases this
    | some t => simp
  · refine kk a f (Nat.le_trans hS.1 q1) hne q2 (SB_back hC (Nat.le_refl _) (Or.inr (Nat.le_trans hS.1 q1)) hne) a0 ha H2 locs2 ls hl2 ?_ hS2
    show va_P P0.1 g_cl [(h, .inr (12, [.ref a, .int (g 0 1), .int (g 0 2), .int (g 0 3)])), (a, .inl (P0.2.1 .byte, N, .inl f))] H2
    exact hP2.sub [0, 2] rfl
end SBD
