/-! ===== methods that return or throw ===== -/
def g_Qc (P : GP) (x : GE) (A : Nat → Prop) (a : GM × (Int32 ⊕ Nat)) : Array Value → State → Outcome → State → Prop := va_Qi (fun r (_ : Unit) => a.2 = .inl r) (fun _ => g_pw P a.1 x) A
def g_Qcv (P : GP) (x : GE) (A : Nat → Prop) (a : GM × (Int32 ⊕ Nat)) : Array Value → State → Outcome → State → Prop := va_Qv (fun (_ : Unit) => a.2 = .inl 0) (fun _ => g_pw P a.1 x) A
def g_XC (P : GP) (x : GE) (A : Nat → Prop) (a : GM × (Int32 ⊕ Nat)) : String → State → State → Prop := vx_X (fun (_ : Unit) => True) (fun E _ t => (∃ k, a.2 = .inr k ∧ g_xn[k]? = some E) ∧ g_pw P a.1 x t) A
def KX (P : GP) (y : MethodName) (cc : ByteArray) (maxL : Nat) (ret : Option FieldType) (rm : Room) (As : List Value) (g : GM) (E : Option (GM × (Int32 ⊕ Nat))) : Prop :=
  ∀ (l : Launch) (x : GE) (sz : Nat) (a : GM × (Int32 ⊕ Nat)), l.stackTraces = false → E = some a →
    vx_Met l y (g_ws y cc maxL ret) rm (va_Pc As (g_pre P g x sz)) (g_Qc P x (g_A P sz) a) (g_XC P x (g_A P sz) a) 1 6 (g_A P sz)
def KXV (P : GP) (y : MethodName) (cc : ByteArray) (maxL : Nat) (rm : Room) (As : List Value) (g : GM) (E : Option (GM × (Int32 ⊕ Nat))) : Prop :=
  ∀ (l : Launch) (x : GE) (sz : Nat) (a : GM × (Int32 ⊕ Nat)), l.stackTraces = false → E = some a →
    vx_Met l y (g_ws y cc maxL none) rm (va_Pc As (g_pre P g x sz)) (g_Qcv P x (g_A P sz) a) (g_XC P x (g_A P sz) a) 1 6 (g_A P sz)
def g_QX (P : GP) (X : GX) (x : GE) : GM × (Int32 ⊕ Nat) → State → Prop := fun a => vx_MQ X.2.2.2.2.2.2.2.1 (g_Qc P x X.2.2.2.2.2.2.2.2.2.2 a) (g_XC P x X.2.2.2.2.2.2.2.2.2.2 a) X.2.2.2.2.2.2.1 X.2.2.2.2.1 1 6 X.2.2.2.2.2.2.2.2.2.2
def g_QXV (P : GP) (X : GX) (x : GE) : GM × (Int32 ⊕ Nat) → State → Prop := fun a => vx_MQ X.2.2.2.2.2.2.2.1 (g_Qcv P x X.2.2.2.2.2.2.2.2.2.2 a) (g_XC P x X.2.2.2.2.2.2.2.2.2.2 a) X.2.2.2.2.2.2.1 X.2.2.2.2.1 1 6 X.2.2.2.2.2.2.2.2.2.2
/-- the answer's type, no handlers -/
def GXr (X : GX) (ret : Option FieldType) : Prop := X.2.2.2.2.2.2.2.2.1.sig.returnType = ret ∧ ∀ z ∈ X.2.2.2.2.2.2.2.2.2.1.exceptionTable.toList, False
theorem KX.ofW {P : GP} {y : MethodName} {cc : ByteArray} {maxL : Nat} {ret : Option FieldType} {rm : Room} {As : List Value} {g : GM} {E : Option (GM × (Int32 ⊕ Nat))} (hy : plainName y.cls = true) (hAs : g_c1 (As.map some) = true) (hn : As.length ≤ maxL)
    (h : ∀ (X : GX) (x : GE), GC P X y.cls cc maxL rm → GXr X ret → GR P X (g_QX P X x) 0 0 E 0 (g_L0 As maxL) [] g x) : KX P y cc maxL ret rm As g E := by
  intro l x sz a hst hE
  refine vx_ofW (cc := cc) (maxL := maxL) (ret := ret) hy rfl ?_
  intro p e s m args below meth c s₁ B hml htab hv
  obtain ⟨rfl, hsz, hP, hK, hi, hG⟩ := hv
  have hts : ∀ w ∈ g_ws y cc maxL ret, w.before As.toArray s = true := atoms_spec (ws := g_ws y cc maxL ret) B.pre
  have hl := lv_entry As (n := maxL) (by rw [g_sl_len As hAs]; exact hn)
  rw [lg_entry_eq]
  generalize (lg_sl As ++ List.replicate (maxL - (lg_sl As).length) Slot.unset).toArray = ls at hl ⊢
  subst hsz
  have hC : GC P (p, l, e, (headSpec (g_ws y cc maxL ret) rm).room, s, m, As.toArray, below, meth, c, g_A P s.heap.size) y.cls cc maxL rm :=
    ⟨B.exec, B.bytes, hml, findClass_of_methodNamed B.named, fun w hw => hts w (List.mem_cons_of_mem _ hw), hK, B.notSynchronized, rfl, fun _ h => h, hi, hG, hst⟩
  have hl2 : g_lh ls c.maxLocals (g_L0 As maxL) := by
    rw [hml]
    unfold g_lh g_L0
    rw [← g_args_lp As 0 (maxL - As.length) hAs]
    exact hl
  exact h (p, l, e, (headSpec (g_ws y cc maxL ret) rm).room, s, m, As.toArray, below, meth, c, g_A P s.heap.size) x hC ⟨B.returns, htab⟩ a hE s.heap [] ls hl2 hP va_S.rf
theorem KXV.ofW {P : GP} {y : MethodName} {cc : ByteArray} {maxL : Nat} {rm : Room} {As : List Value} {g : GM} {E : Option (GM × (Int32 ⊕ Nat))} (hy : plainName y.cls = true) (hAs : g_c1 (As.map some) = true) (hn : As.length ≤ maxL)
    (h : ∀ (X : GX) (x : GE), GC P X y.cls cc maxL rm → GXr X none → GR P X (g_QXV P X x) 0 0 E 0 (g_L0 As maxL) [] g x) : KXV P y cc maxL rm As g E := by
  intro l x sz a hst hE
  refine vx_ofW (cc := cc) (maxL := maxL) (ret := none) hy rfl ?_
  intro p e s m args below meth c s₁ B hml htab hv
  obtain ⟨rfl, hsz, hP, hK, hi, hG⟩ := hv
  have hts : ∀ w ∈ g_ws y cc maxL none, w.before As.toArray s = true := atoms_spec (ws := g_ws y cc maxL none) B.pre
  have hl := lv_entry As (n := maxL) (by rw [g_sl_len As hAs]; exact hn)
  rw [lg_entry_eq]
  generalize (lg_sl As ++ List.replicate (maxL - (lg_sl As).length) Slot.unset).toArray = ls at hl ⊢
  subst hsz
  have hC : GC P (p, l, e, (headSpec (g_ws y cc maxL none) rm).room, s, m, As.toArray, below, meth, c, g_A P s.heap.size) y.cls cc maxL rm :=
    ⟨B.exec, B.bytes, hml, findClass_of_methodNamed B.named, fun w hw => hts w (List.mem_cons_of_mem _ hw), hK, B.notSynchronized, rfl, fun _ h => h, hi, hG, hst⟩
  have hl2 : g_lh ls c.maxLocals (g_L0 As maxL) := by
    rw [hml]
    unfold g_lh g_L0
    rw [← g_args_lp As 0 (maxL - As.length) hAs]
    exact hl
  exact h (p, l, e, (headSpec (g_ws y cc maxL none) rm).room, s, m, As.toArray, below, meth, c, g_A P s.heap.size) x hC ⟨B.returns, htab⟩ a hE s.heap [] ls hl2 hP va_S.rf
/-- class own makes the exception number k by its pool entries ik (class) and ic (constructor) -/
def g_TH (own : String) (ik ic k : Nat) : Prop := ∃ cls : String, g_xn[k]? = some cls ∧ Bundle.fit cls = true ∧ Cond.classLink own ik cls ∈ g_w ∧ Cond.initialized cls ∈ g_w ∧ (∀ w ∈ (vx_atS own ic cls ["java/lang/RuntimeException", "java/lang/Exception"]).filter goodWord, w ∈ g_w) ∧
  (∀ w ∈ (vx_atS own ic cls ["java/lang/RuntimeException", "java/lang/Exception"]).filter (fun w => !goodWord w), w ∈ Cond.castable cls cls :: g_dl.map Cond.declares) ∧
  (∀ w ∈ Cond.classLink own ik cls :: Cond.initialized cls :: vx_atS own ic cls ["java/lang/RuntimeException", "java/lang/Exception"], vx_ot w = true)
theorem g_TH_at {P : GP} {X : GX} {own : String} {cc : ByteArray} {nL : Nat} {R0 : Room} (hC : GC P X own cc nL R0) {ic k : Nat} {cls : String} (hk : g_xn[k]? = some cls) (h1 : ∀ w ∈ (vx_atS own ic cls ["java/lang/RuntimeException", "java/lang/Exception"]).filter goodWord, w ∈ g_w) (h2 : ∀ w ∈ (vx_atS own ic cls ["java/lang/RuntimeException", "java/lang/Exception"]).filter (fun w => !goodWord w), w ∈ Cond.castable cls cls :: g_dl.map Cond.declares) :
    ∀ w ∈ vx_atS own ic cls ["java/lang/RuntimeException", "java/lang/Exception"], w.before X.2.2.2.2.2.2.1 X.2.2.2.2.1 = true := by
  refine vx_hat (B := Cond.castable cls cls :: g_dl.map Cond.declares) (fun w hw => hC.word (h1 w hw)) h2 (fun w hw => ?_)
  rcases List.mem_cons.mp hw with rfl | hw
  · exact va_Nw.use rfl (hC.E.2.2.2.2.2.2.2.2.1 cls (List.mem_of_getElem? hk))
  · obtain ⟨y, hy, rfl⟩ := List.mem_map.mp hw
    exact va_Nw.use rfl (hC.E.2.2.2.2.2.2.2.1 y hy)
theorem g_keep {P : GP} {g : GM} {x : GE} {H : Heap} {t : State} (hP : va_P P.1 g_cl (g_wl P g x) H) (hq : ∀ q : Nat, q < H.size → t.heap[q]? = H[q]?) : g_pw P g x t := hP.kept (fun k q hk => hq q.1 (hP k q hk).lt)
theorem g_keepF {A : Nat → Prop} {s t : State} {H : Heap} {locs : List Loc} (hS : va_S A s.heap H locs) (hz : H.size ≤ t.heap.size) (hq : ∀ q : Nat, q < H.size → t.heap[q]? = H[q]?) : va_F A s t :=
  ⟨Nat.le_trans hS.1 hz, fun q h1 h2 => (hq q (Nat.lt_of_lt_of_le h1 hS.1)).trans (hS.2.1 q h1 h2)⟩
def g_thr (g : GM) (o : Option Nat) (F : Option (GM × (Int32 ⊕ Nat))) : Option (GM × (Int32 ⊕ Nat)) := match o with | some k => some (g, .inr k) | none => F
def g_ref (v : Int32) : Option Nat := if v = 1 then some 0 else if v = 2 then some 1 else if v = 3 then some 2 else none
def g_zrX (g : GM) (v : Int32) : Option (GM × (Int32 ⊕ Nat)) := if v = 0 ∨ v = 1 then some (g, .inl v) else none
section GTHROW
variable {P : GP} {X : GX} {own : String} {cc : ByteArray} {nL : Nat} {R0 : Room} {ce sl pc : Nat} {L : List (Option Value)} {st : List Value} {g : GM} {x : GE} {ret : Option FieldType}
/-- 'throw new E("text")' -/
theorem GR_throw (hC : GC P X own cc nL R0) (hr : GXr X ret) {ik is ic k w : Nat} {tx : String} (hT : g_TH own ik ic k) (hw : (own, is, tx, w) ∈ g_sw) (hR : 5 < R0.frames ∧ 100 ≤ R0.locals ∧ ce + 1 ≤ R0.cells ∧ sl + 6 ≤ R0.slots) (hcs : ce = 0 ∧ sl = 0) (h8 : (st.map fun v => v.category).sum ≤ 8)
    (d0 : decode cc pc = .ok (.new ik, 3)) (d3 : decode cc (pc + 3) = .ok (.dup, 1)) (d4 : decode cc (pc + 4) = .ok (.ldc is, 2)) (d6 : decode cc (pc + 6) = .ok (.invokespecial ic, 3)) (d9 : decode cc (pc + 9) = .ok (.athrow, 1)) : GR P X (g_QX P X x) ce sl (some (g, .inr k)) pc L st g x := by
  intro a ha H locs ls hl hP hS
  cases ha
  obtain ⟨cls, hk, hfit, h1, h2, h3, h4, h5⟩ := hT
  exact vx_throwS (names := ["java/lang/RuntimeException", "java/lang/Exception"]) hC.exec hC.bytes hC.2.2.2.2.2.2.2.2.2.2.2 hC.cls hfit (by decide) (hC.word h1) (hC.word h2) (hC.E.2.1 _ hw) (g_TH_at hC hk h3 h4) h5 hC.E.2.2.2.1 hC.E.2.2.2.2.1 hS hl.1 d0 d3 d4 d6 d9 (fun z hz => (hr.2 z hz).elim)
    (by rw [hC.room]; exact hR.1) (by rw [hC.room]; have := hR.2.1; show _ + (13 * (2 + 1) + 43) ≤ _; omega) (by rw [hC.room]; exact hR.2.2.1) (by rw [hC.room]; exact hR.2.2.2) hC.locks
    (fun t _ hz hq => ⟨(), trivial, ⟨⟨k, rfl, hk⟩, g_keep hP hq⟩, g_keepF hS hz hq⟩) hS.2.2 (by omega) (by omega)
theorem GR_throwV (hC : GC P X own cc nL R0) (hr : GXr X ret) {ik is ic k w : Nat} {tx : String} (hT : g_TH own ik ic k) (hw : (own, is, tx, w) ∈ g_sw) (hR : 5 < R0.frames ∧ 100 ≤ R0.locals ∧ ce + 1 ≤ R0.cells ∧ sl + 6 ≤ R0.slots) (hcs : ce = 0 ∧ sl = 0) (h8 : (st.map fun v => v.category).sum ≤ 8)
    (d0 : decode cc pc = .ok (.new ik, 3)) (d3 : decode cc (pc + 3) = .ok (.dup, 1)) (d4 : decode cc (pc + 4) = .ok (.ldc_w is, 3)) (d7 : decode cc (pc + 7) = .ok (.invokespecial ic, 3)) (d10 : decode cc (pc + 10) = .ok (.athrow, 1)) : GR P X (g_QXV P X x) ce sl (some (g, .inr k)) pc L st g x := by
  intro a ha H locs ls hl hP hS
  cases ha
  obtain ⟨cls, hk, hfit, h1, h2, h3, h4, h5⟩ := hT
  exact vx_throwSW (names := ["java/lang/RuntimeException", "java/lang/Exception"]) hC.exec hC.bytes hC.2.2.2.2.2.2.2.2.2.2.2 hC.cls hfit (by decide) (hC.word h1) (hC.word h2) (hC.E.2.1 _ hw) (g_TH_at hC hk h3 h4) h5 hC.E.2.2.2.1 hC.E.2.2.2.2.1 hS hl.1 d0 d3 d4 d7 d10 (fun z hz => (hr.2 z hz).elim)
    (by rw [hC.room]; exact hR.1) (by rw [hC.room]; have := hR.2.1; show _ + (13 * (2 + 1) + 43) ≤ _; omega) (by rw [hC.room]; exact hR.2.2.1) (by rw [hC.room]; exact hR.2.2.2) hC.locks
    (fun t _ hz hq => ⟨(), trivial, ⟨⟨k, rfl, hk⟩, g_keep hP hq⟩, g_keepF hS hz hq⟩) hS.2.2 (by omega) (by omega)
theorem GR_throwW (hC : GC P X own cc nL R0) (hr : GXr X ret) {ik is ic k w : Nat} {tx : String} (hT : g_TH own ik ic k) (hw : (own, is, tx, w) ∈ g_sw) (hR : 5 < R0.frames ∧ 100 ≤ R0.locals ∧ ce + 1 ≤ R0.cells ∧ sl + 6 ≤ R0.slots) (hcs : ce = 0 ∧ sl = 0) (h8 : (st.map fun v => v.category).sum ≤ 8)
    (d0 : decode cc pc = .ok (.new ik, 3)) (d3 : decode cc (pc + 3) = .ok (.dup, 1)) (d4 : decode cc (pc + 4) = .ok (.ldc_w is, 3)) (d7 : decode cc (pc + 7) = .ok (.invokespecial ic, 3)) (d10 : decode cc (pc + 10) = .ok (.athrow, 1)) : GR P X (g_QX P X x) ce sl (some (g, .inr k)) pc L st g x := by
  intro a ha H locs ls hl hP hS
  cases ha
  obtain ⟨cls, hk, hfit, h1, h2, h3, h4, h5⟩ := hT
  exact vx_throwSW (names := ["java/lang/RuntimeException", "java/lang/Exception"]) hC.exec hC.bytes hC.2.2.2.2.2.2.2.2.2.2.2 hC.cls hfit (by decide) (hC.word h1) (hC.word h2) (hC.E.2.1 _ hw) (g_TH_at hC hk h3 h4) h5 hC.E.2.2.2.1 hC.E.2.2.2.2.1 hS hl.1 d0 d3 d4 d7 d10 (fun z hz => (hr.2 z hz).elim)
    (by rw [hC.room]; exact hR.1) (by rw [hC.room]; have := hR.2.1; show _ + (13 * (2 + 1) + 43) ≤ _; omega) (by rw [hC.room]; exact hR.2.2.1) (by rw [hC.room]; exact hR.2.2.2) hC.locks
    (fun t _ hz hq => ⟨(), trivial, ⟨⟨k, rfl, hk⟩, g_keep hP hq⟩, g_keepF hS hz hq⟩) hS.2.2 (by omega) (by omega)
theorem GR_ldcI {α : Type} {Qf : α → State → Prop} {E : Option α} (hC : GC P X own cc nL R0) {i : Nat} {v : Int32} (hl : Cond.constant own i v ∈ g_w) (hd : decode cc pc = .ok (.ldc_w i, 3)) (kk : GR P X Qf ce sl E (pc + 3) L (.int v :: st) g x) : GR P X Qf ce sl E pc L st g x :=
  fun a ha H locs ls hl2 hP hS => lv_ldcw hC.exec hC.bytes hC.cls (hC.word hl) hd (kk a ha H locs ls hl2 hP hS)
theorem GR_iretX (hC : GC P X own cc nL R0) {v : Int32} (hcs : ce ≤ 1 ∧ sl ≤ 6) (hr : GXr X (some .int)) (hd : decode cc pc = .ok (.ireturn, 1)) : GR P X (g_QX P X x) ce sl (some (g, .inl v)) pc L [.int v] g x := by
  intro a ha H locs ls hl hP hS
  cases ha
  exact W.widen hcs.1 hcs.2 (vx_ret (W.iret (v := v) hC.exec hC.bytes hr.1 (fun t ht hW => ⟨⟨v, (), rfl, rfl, by show va_P _ _ _ t.heap; rw [ht]; exact hP⟩, hS.F ht⟩) hS.2.2 hd hC.locks))
theorem GR_zretCX (hC : GC P X own cc nL R0) {v : Int32} (h : v = 0 ∨ v = 1) (hcs : ce ≤ 1 ∧ sl ≤ 6) (hr : GXr X (some .boolean)) (hd : decode cc pc = .ok (.ireturn, 1)) : GR P X (g_QX P X x) ce sl (some (g, .inl v)) pc L [.int v] g x := by
  intro a ha H locs ls hl hP hS
  cases ha
  exact W.widen hcs.1 hcs.2 (vx_ret (W.zret (v := v) hC.exec hC.bytes hr.1 (g_nz h) (fun t ht hW => ⟨⟨v, (), rfl, rfl, by show va_P _ _ _ t.heap; rw [ht]; exact hP⟩, hS.F ht⟩) hS.2.2 hd hC.locks))
theorem GR_zretX (hC : GC P X own cc nL R0) {v : Int32} (hcs : ce ≤ 1 ∧ sl ≤ 6) (hr : GXr X (some .boolean)) (hd : decode cc pc = .ok (.ireturn, 1)) : GR P X (g_QX P X x) ce sl (g_zrX g v) pc L [.int v] g x := by
  by_cases h : v = 0 ∨ v = 1
  · rw [g_zrX, if_pos h]; exact GR_zretCX hC h hcs hr hd
  · rw [g_zrX, if_neg h]; exact GR.none
theorem GR_vretX (hC : GC P X own cc nL R0) (hcs : ce ≤ 1 ∧ sl ≤ 6) (hr : GXr X none) (hd : decode cc pc = .ok (.return_, 1)) : GR P X (g_QXV P X x) ce sl (some (g, .inl 0)) pc L [] g x := by
  intro a ha H locs ls hl hP hS
  cases ha
  exact W.widen hcs.1 hcs.2 (vx_ret (W.vret hC.exec hC.bytes hr.1 (fun t ht hW => ⟨⟨(), rfl, rfl, by show va_P _ _ _ t.heap; rw [ht]; exact hP⟩, hS.F ht⟩) hS.2.2 hd hC.locks))
theorem g_callBX (hC : GC P X own cc nL R0) {y : MethodName} {cc' : ByteArray} {maxL : Nat} {n i : Nat} {rm : Room} (hm : g_MY y cc' maxL ret n) (hl : Cond.methodLink own i y ∈ g_w) (hr0 : rm.cells = 1 ∧ rm.slots = 6) (hR : rm.frames + 1 ≤ R0.frames ∧ 8 + (maxL + 11) + rm.locals ≤ R0.locals) :
    CallB X.2.2.2.1 X.2.2.2.2.1 X.2.2.2.2.2.2.1 own i y cc' maxL ret (g_ws y cc' maxL ret) rm 1 6 n := by
  refine ⟨hr0.1, hr0.2, by rw [hC.room]; exact hR.1, by rw [hC.room]; exact hR.2, fun w hw a' U hW => ?_, List.mem_cons_self, hC.word hm.1, hC.word hm.2.1, ⟨hm.2.2.1, hm.2.2.2.1⟩, fun sig h => ?_, hC.word hl⟩
  · have hw2 : w ∈ g_w := (List.mem_cons.mp hw).elim (fun e => e ▸ hm.1) id
    exact word_at hW (good_of_word (g_w_ok w hw2)) (hC.word hw2)
  · have h2 := hm.2.2.2.2
    rw [h] at h2
    exact (Option.some.inj h2).symm
end GTHROW
theorem TH_0 : g_TH RX10 364 368 0 := by
  have h : ∀ w ∈ (vx_atS RX10 368 "java/lang/IndexOutOfBoundsException" ["java/lang/RuntimeException", "java/lang/Exception"]).filter goodWord, w ∈ lw_tbl := by decide +kernel
  exact ⟨"java/lang/IndexOutOfBoundsException", rfl, by decide +kernel, g_w_mem (by decide +kernel) (by decide +kernel), g_w_mem (by decide +kernel) (by decide +kernel), fun w hw => g_w_mem (h w hw) (List.mem_filter.mp hw).2, by decide +kernel, by decide +kernel⟩
theorem TH_1 : g_TH RX10 93 97 1 := by
  have h : ∀ w ∈ (vx_atS RX10 97 "java/lang/IllegalArgumentException" ["java/lang/RuntimeException", "java/lang/Exception"]).filter goodWord, w ∈ lw_tbl := by decide +kernel
  exact ⟨"java/lang/IllegalArgumentException", rfl, by decide +kernel, g_w_mem (by decide +kernel) (by decide +kernel), g_w_mem (by decide +kernel) (by decide +kernel), fun w hw => g_w_mem (h w hw) (List.mem_filter.mp hw).2, by decide +kernel, by decide +kernel⟩
theorem TH_2 : g_TH RX10 83 87 2 := by
  have h : ∀ w ∈ (vx_atS RX10 87 "java/lang/IllegalStateException" ["java/lang/RuntimeException", "java/lang/Exception"]).filter goodWord, w ∈ lw_tbl := by decide +kernel
  exact ⟨"java/lang/IllegalStateException", rfl, by decide +kernel, g_w_mem (by decide +kernel) (by decide +kernel), g_w_mem (by decide +kernel) (by decide +kernel), fun w hw => g_w_mem (h w hw) (List.mem_filter.mp hw).2, by decide +kernel, by decide +kernel⟩
theorem MY_X10_refuse : g_MY yX10_refuse cX10_refuse 1 none 1 := ⟨g_w_mem (List.mem_of_getElem? (i := 875) (by decide +kernel)) (by decide +kernel), g_w_mem (List.mem_of_getElem? (i := 93) (by decide +kernel)) (by decide +kernel), by decide +kernel, by decide +kernel, by decide +kernel⟩
theorem MS_X10_refuse : Cond.static yX10_refuse ∈ g_w := g_w_mem (List.mem_of_getElem? (i := 874) (by decide +kernel)) (by decide +kernel)
def f_X10_refuse (g : GM) (v : Int32) : Option (GM × (Int32 ⊕ Nat)) := some (g, match g_ref v with | some k => .inr k | none => .inl 0)
theorem k_X10_refuse {P : GP} {p0 : Int32} {g : GM} : KXV P yX10_refuse cX10_refuse 1 ⟨6, 1, 6, 100⟩ [.int p0] g (f_X10_refuse g p0) := by
  refine KXV.ofW (by decide) rfl (Nat.le_of_ble_eq_true rfl) (fun X x hC hr => ?_)
  change GR P X (g_QXV P X x) 0 0 _ 0 [some (.int p0)] [] g x
  refine GR.eq (E' := if p0 = 1 then some (g, .inr 0) else if p0 = 2 then some (g, .inr 1) else if p0 = 3 then some (g, .inr 2) else some (g, .inl 0)) ?_ ?_
  · unfold f_X10_refuse g_ref
    by_cases h1 : p0 = 1 <;> by_cases h2 : p0 = 2 <;> by_cases h3 : p0 = 3 <;> simp [h1, h2, h3]
  refine GR_iload_n (pc := 0) hC dX10_refuse_0 rfl rfl ?_
  refine GR_iconst (pc := 1) (v := 1) hC dX10_refuse_1 rfl ?_
  refine GR_icmp_ne (pc := 2) (tgt := 16) hC dX10_refuse_2 (by decide) ?_ ?_
  · refine GR_iload_n (pc := 16) hC dX10_refuse_16 rfl rfl ?_
    refine GR_iconst (pc := 17) (v := 2) hC dX10_refuse_17 rfl ?_
    refine GR_icmp_ne (pc := 18) (tgt := 32) hC dX10_refuse_18 (by decide) ?_ ?_
    · refine GR_iload_n (pc := 32) hC dX10_refuse_32 rfl rfl ?_
      refine GR_iconst (pc := 33) (v := 3) hC dX10_refuse_33 rfl ?_
      refine GR_icmp_ne (pc := 34) (tgt := 48) hC dX10_refuse_34 (by decide) ?_ ?_
      · exact GR_vretX (pc := 48) hC ⟨by decide, by decide⟩ hr dX10_refuse_48
      · exact GR_throwV (pc := 37) (w := 9) hC hr TH_2 (List.mem_of_getElem? (i := 9) rfl) ⟨by decide, by decide, by decide, by decide⟩ ⟨rfl, rfl⟩ (Nat.le_of_ble_eq_true rfl) dX10_refuse_37 dX10_refuse_40 dX10_refuse_41 dX10_refuse_44 dX10_refuse_47
    · exact GR_throwV (pc := 21) (w := 8) hC hr TH_1 (List.mem_of_getElem? (i := 8) rfl) ⟨by decide, by decide, by decide, by decide⟩ ⟨rfl, rfl⟩ (Nat.le_of_ble_eq_true rfl) dX10_refuse_21 dX10_refuse_24 dX10_refuse_25 dX10_refuse_28 dX10_refuse_31
  · exact GR_throwV (pc := 5) (w := 7) hC hr TH_0 (List.mem_of_getElem? (i := 7) rfl) ⟨by decide, by decide, by decide, by decide⟩ ⟨rfl, rfl⟩ (Nat.le_of_ble_eq_true rfl) dX10_refuse_5 dX10_refuse_8 dX10_refuse_9 dX10_refuse_12 dX10_refuse_15
section GREFUSE
variable {P : GP} {X : GX} {own : String} {cc : ByteArray} {nL : Nat} {R0 : Room} {pc i : Nat} {L : List (Option Value)} {st : List Value} {g : GM} {x : GE} {ret : Option FieldType}
theorem GR_refuse (hC : GC P X own cc nL R0) (hr : GXr X ret) {v : Int32} {F : Option (GM × (Int32 ⊕ Nat))} (hl : Cond.methodLink own i yX10_refuse ∈ g_w) (hR : 7 ≤ R0.frames ∧ 120 ≤ R0.locals ∧ 1 ≤ R0.cells ∧ 6 ≤ R0.slots) (h8 : (st.map fun v => v.category).sum ≤ 8) (hd : decode cc pc = .ok (.invokestatic i, 3))
    (kk : GR P X (g_QX P X x) 1 6 F (pc + 3) L st g x) : GR P X (g_QX P X x) 0 0 (g_thr g (g_ref v) F) pc L (.int v :: st) g x := by
  intro a ha H locs ls hl2 hP hS
  have hRr : (⟨6, 1, 6, 100⟩ : Room).frames + 1 ≤ R0.frames ∧ 8 + (1 + 11) + (⟨6, 1, 6, 100⟩ : Room).locals ≤ R0.locals := ⟨hR.1, hR.2.1⟩
  refine vx_callv (SX := Unit) (vx_runS (g_fix hC) (k_X10_refuse X.2.1 x H.size _ hC.2.2.2.2.2.2.2.2.2.2.2 rfl) ⟨g_callBX hC MY_X10_refuse hl ⟨rfl, rfl⟩ hRr, hC.word MS_X10_refuse⟩ ⟨g_blind, g_give (As := [.int v]) hC hP hS⟩ rfl rfl (by rw [← hC.maxL]; exact hl2.1) rfl (by simpa using h8) hd (by rw [hC.room]; exact ⟨by have := hR.2.2.1; omega, by have := hR.2.2.2; omega⟩)) hS (fun q _ h => hC.A q (g_A_mono hS.1 q h)) (fun q h => hC.A q (g_A_mono hS.1 q h)) (fun q _ h => hC.A q (g_A_mono hS.1 q h)) (fun E ce q9 u t H1 locs1 ht hvm hw hB hz1 hk1 hS1 hce hcv hcl => ?_) (fun u t H1 locs1 ht hvm hw hB hz1 hk1 hS1 => ?_)
  · obtain ⟨⟨k, hk, hE⟩, hP1⟩ := hB
    have hP1 : va_P P.1 g_cl (g_wl P g x) t.heap := hP1
    rw [ht] at hP1
    cases hf : g_ref v with
    | none => rw [hf] at hk; cases hk
    | some k0 =>
      rw [hf] at hk ha
      cases hk
      cases ha
      exact vx_out (fun z hz => (hr.2 z hz).elim) hC.locks hce hcv hcl (fun t2 ht2 _ => ⟨(), trivial, ⟨⟨_, rfl, hE⟩, by show va_P _ _ _ t2.heap; rw [ht2]; exact hP1⟩, hS1.F ht2⟩) hS1.2.2 (Nat.le_refl _) (Nat.le_refl _)
  · have hP1 : va_P P.1 g_cl (g_wl P g x) t.heap := hB
    rw [ht] at hP1
    cases hf : g_ref v with
    | some k0 => have hw' := hw; rw [hf] at hw'; cases hw'
    | none =>
      rw [hf] at ha
      exact kk a ha H1 locs1 ls hl2 hP1 hS1
end GREFUSE
