/-! ===== rows that this claim adds ===== -/
def g_thr (g : GM) (o : Option Nat) (F : Option (GM × (Int32 ⊕ Nat))) : Option (GM × (Int32 ⊕ Nat)) := match o with | some k => some (g, .inr k) | none => F
def g_ref (v : Int32) : Option Nat := if v = 1 then some 0 else if v = 2 then some 1 else if v = 3 then some 2 else none
def g_zrX (g : GM) (v : Int32) : Option (GM × (Int32 ⊕ Nat)) := if v = 0 ∨ v = 1 then some (g, .inl v) else none
/-- what is refused isn't spoken of -/
def g_thrN {α : Type} (o : Option Nat) (F : Option α) : Option α := match o with | some _ => none | none => F
abbrev gscr (P : GP) : Value := .ref (g_sc P).1
def g_scr (sc : Nat × Nat × (Nat → Int32)) (i : Int32) : Option Int32 := if i < 0 ∨ sc.2.1 ≤ i.toNatClampNeg then none else some (sc.2.2 i.toNatClampNeg)
def g_sct (tx : List Int32) (i : Int32) : Option Int32 := if i < 0 ∨ tx.length ≤ i.toNatClampNeg then none else some ((((tx.getD i.toNatClampNeg 0) &&& 255).toUInt32 % 65536).toInt32)
def g_row (i : Int32) : Option Nat := if i < 0 ∨ 8 ≤ i.toNatClampNeg then none else some (168 + i.toNatClampNeg)
theorem g_rowsh {P : GP} {n : Nat} (hf : g_on P n) (hn : 176 ≤ n) {i : Nat} (hi : i < 8) : (g_sh P)[168 + i]? = some (.inl (.int, 5, [])) := by
  have h : g_full[168 + i]? = some (.inl (.int, 5, [])) := by
    have h : i = 0 ∨ i = 1 ∨ i = 2 ∨ i = 3 ∨ i = 4 ∨ i = 5 ∨ i = 6 ∨ i = 7 := by omega
    rcases h with rfl | rfl | rfl | rfl | rfl | rfl | rfl | rfl <;> rfl
  exact hf _ _ (by omega) h
/-- an answer, and new cells -/
def KA (P : GP) (y : MethodName) (cc : ByteArray) (maxL : Nat) (ret : Option FieldType) (rm : Room) (As : List Value) (g : GM) (E : Option (GM × Int32)) : Prop :=
  ∀ (l : Launch) (x : GE) (sz : Nat) (a : GM × Int32), l.stackTraces = false → E = some a →
    Met l y (g_ws y cc maxL ret) rm (va_Pc As (g_pre P g x sz)) (va_Qi (fun r (_ : Unit) => r = a.2) (fun _ => g_pw P a.1 x) (g_A P sz)) rm.cells rm.slots (g_A P sz)
def g_QIA (P : GP) (X : GX) (x : GE) (ca cb : Nat) : GM × Int32 → State → Prop := fun a => MQ X.2.2.2.2.2.2.2.1 (va_Qi (fun r (_ : Unit) => r = a.2) (fun _ => g_pw P a.1 x) X.2.2.2.2.2.2.2.2.2.2) X.2.2.2.2.2.2.1 X.2.2.2.2.1 ca cb X.2.2.2.2.2.2.2.2.2.2
theorem KA.ofW {P : GP} {y : MethodName} {cc : ByteArray} {maxL : Nat} {ret : Option FieldType} {rm : Room} {As : List Value} {g : GM} {E : Option (GM × Int32)} (hy : plainName y.cls = true) (hAs : g_c1 (As.map some) = true) (hn : As.length ≤ maxL)
    (h : ∀ (X : GX) (x : GE), GC P X y.cls cc maxL rm → X.2.2.2.2.2.2.2.2.1.sig.returnType = ret → GR P X (g_QIA P X x rm.cells rm.slots) 0 0 E 0 (g_L0 As maxL) [] g x) : KA P y cc maxL ret rm As g E := by
  intro l x sz a hst hE
  refine Met.ofW (cc := cc) (maxL := maxL) (ret := ret) hy rfl ?_
  intro p e s m args below meth c s₁ B hml hv
  obtain ⟨rfl, hsz, hP, hK, hi, hG⟩ := hv
  have hts : ∀ w ∈ g_ws y cc maxL ret, w.before As.toArray s = true := atoms_spec (ws := g_ws y cc maxL ret) B.pre
  have hl := lv_entry As (n := maxL) (by rw [g_sl_len As hAs]; exact hn)
  rw [lg_entry_eq]
  generalize (lg_sl As ++ List.replicate (maxL - (lg_sl As).length) Slot.unset).toArray = ls at hl ⊢
  subst hsz
  have hC : GC P (p, l, e, (headSpec (g_ws y cc maxL ret) rm).room, s, m, As.toArray, below, meth, c, g_A P s.heap.size) y.cls cc maxL rm :=
    ⟨B.exec, B.bytes, hml, findClass_of_methodNamed B.named, fun w hw => hts w (List.mem_cons_of_mem _ hw), hK, B.notSynchronized, rfl, fun _ h => h, hi, hG, hst⟩
  have hl2 : g_lh ls c.maxLocals (g_L0 As maxL) := by
    rw [hml]
    unfold g_lh g_L0
    rw [← g_args_lp As 0 (maxL - As.length) hAs]
    exact hl
  exact h (p, l, e, (headSpec (g_ws y cc maxL ret) rm).room, s, m, As.toArray, below, meth, c, g_A P s.heap.size) x hC B.returns a hE s.heap [] ls hl2 hP va_S.rf
section GMORE
variable {P : GP} {X : GX} {own : String} {cc : ByteArray} {nL : Nat} {R0 : Room} {α : Type} {Qf : α → State → Prop} {ce sl pc : Nat} {L : List (Option Value)} {st st0 : List Value} {g : GM} {x : GE} {E B : Option α}
variable {y : MethodName} {cc' : ByteArray} {maxL n i : Nat} {ret : Option FieldType} {rm : Room} {As : List Value}
theorem GR_cnt {m c : Nat} (kk : ¬ m < c → GR P X Qf ce sl E pc L st g x) : GR P X Qf ce sl (if m < c then none else E) pc L st g x := by
  by_cases h : m < c
  · rw [if_pos h]; exact GR.none
  · rw [if_neg h]; exact kk h
theorem GR_iremZ (hC : GC P X own cc nL R0) {v w : Int32} (hd : decode cc pc = .ok (.irem, 1)) (kk : GR P X Qf ce sl E (pc + 1) L (.int (v - v / w * w) :: st) g x) : GR P X Qf ce sl (if w = 0 then none else E) pc L (.int w :: .int v :: st) g x := by
  by_cases h : w = 0
  · rw [if_pos h]; exact GR.none
  · rw [if_neg h]; exact GR_irem hC hd h kk
theorem GR_idivZ (hC : GC P X own cc nL R0) {v w : Int32} (hd : decode cc pc = .ok (.idiv, 1)) (kk : GR P X Qf ce sl E (pc + 1) L (.int (v / w) :: st) g x) : GR P X Qf ce sl (if w = 0 then none else E) pc L (.int w :: .int v :: st) g x := by
  by_cases h : w = 0
  · rw [if_pos h]; exact GR.none
  · rw [if_neg h]; exact GR_idiv hC hd h kk
theorem GR_scld (hC : GC P X own cc nL R0) {sc : Nat × Nat × (Nat → Int32)} (hsc : g_sc P = sc) {j : Int32} {F : Int32 → Option α} (hd : decode cc pc = .ok (.iaload, 1)) (kk : ∀ v : Int32, GR P X Qf ce sl (F v) (pc + 1) L (.int v :: st) g x) : GR P X Qf ce sl ((g_scr sc j).bind F) pc L (.int j :: gscr P :: st) g x := by
  subst hsc
  by_cases hin : j < 0 ∨ (g_sc P).2.1 ≤ j.toNatClampNeg
  · rw [g_scr, if_pos hin]; exact GR.none
  · rw [g_scr, if_neg hin]
    exact fun a ha H locs ls hl2 hP hS => va_ti hC.exec hC.bytes hC.E.2.2.2.2.2 hS hin rfl hd (kk _ a ha H locs ls hl2 hP hS)
theorem GR_sclen (hC : GC P X own cc nL R0) {sc : Nat × Nat × (Nat → Int32)} (hsc : g_sc P = sc) (hd : decode cc pc = .ok (.arraylength, 1)) (kk : GR P X Qf ce sl E (pc + 1) L (.int (Int32.ofNat sc.2.1) :: st) g x) : GR P X Qf ce sl E pc L (gscr P :: st) g x := by
  subst hsc
  exact fun a ha H locs ls hl2 hP hS => va_tlen hC.exec hC.bytes hC.E.2.2.2.2.2 hS rfl hd (kk a ha H locs ls hl2 hP hS)
theorem GR_slenX (hC : GC P X own cc nL R0) {tx : List Int32} (htx : g_dt P = some tx) (hl : Cond.methodLink own i yJ0_length_8abf5 ∈ g_w) (hR : 2 ≤ R0.frames ∧ 60 ≤ R0.locals) (hcs : ce ≤ R0.cells ∧ sl ≤ R0.slots) (h8 : (st.map fun v => v.category).sum ≤ 8) (hd : decode cc pc = .ok (.invokevirtual i, 3)) (kk : GR P X Qf ce sl E (pc + 3) L (.int (Int32.ofNat tx.length) :: st) g x) : GR P X Qf ce sl E pc L (gsr P 13 :: st) g x := by
  have e : g_tx P 13 = tx := by show (g_dt P).getD [] = tx; rw [htx]; rfl
  refine GR_slenT hC (w := 13) (by unfold g_ns; rw [htx]; exact Nat.lt_succ_self 13) hl hR hcs h8 hd ?_
  rw [e]
  exact kk
theorem GR_scharX (hC : GC P X own cc nL R0) {tx : List Int32} (htx : g_dt P = some tx) (hxl : tx.length < 2 ^ 31) {j : Int32} {F : Int32 → Option α} (hl : Cond.methodLink own i yJ0_charAt_5068e ∈ g_w) (hR : 4 ≤ R0.frames ∧ 110 ≤ R0.locals) (hcs : ce ≤ R0.cells ∧ sl ≤ R0.slots) (h8 : (st.map fun v => v.category).sum ≤ 8) (hd : decode cc pc = .ok (.invokevirtual i, 3)) (kk : ∀ v : Int32, GR P X Qf ce sl (F v) (pc + 3) L (.int v :: st) g x) : GR P X Qf ce sl ((g_sct tx j).bind F) pc L (.int j :: gsr P 13 :: st) g x := by
  have e : g_tx P 13 = tx := by show (g_dt P).getD [] = tx; rw [htx]; rfl
  have e2 : g_sct tx j = g_scharT P 13 j := by unfold g_sct g_scharT g_chT; rw [e]
  rw [e2]
  exact GR_scharT hC (w := 13) (by unfold g_ns; rw [htx]; exact Nat.lt_succ_self 13) (by rw [e]; exact hxl) hl hR hcs h8 hd kk
/-- a row of the law's table -/
theorem GR_aaldR (hC : GC P X own cc nL R0) {k : Nat} {j : Int32} {F : Nat → Option α} (hs : (g_sh P)[k]? = some (.inl (.array .int, 8, [168, 169, 170, 171, 172, 173, 174, 175]))) (hrow : ∀ i : Nat, i < 8 → (g_sh P)[168 + i]? = some (.inl (.int, 5, []))) (hd : decode cc pc = .ok (.aaload, 1))
    (kk : ∀ r : Nat, (g_sh P)[r]? = some (.inl (.int, 5, [])) → GR P X Qf ce sl (F r) (pc + 1) L (gr P r :: st) g x) : GR P X Qf ce sl ((g_row j).bind F) pc L (.int j :: gr P k :: st) g x := by
  by_cases hin : j < 0 ∨ 8 ≤ j.toNatClampNeg
  · rw [g_row, if_pos hin]; exact GR.none
  · rw [g_row, if_neg hin]
    intro a ha H locs ls hl hP hS
    have h8 : j.toNatClampNeg < 8 := by omega
    have h1 := g_wl_at (P := P) (g := g) (x := x) hs
    have hk := hP k _ h1
    have hK4 := (hC.K.2 4 _ (g_tys_at (P := P) (t := .array .int) rfl)).1
    have e : ([168, 169, 170, 171, 172, 173, 174, 175] : List Nat)[j.toNatClampNeg]? = some (168 + j.toNatClampNeg) := (show ∀ i, i < 8 → ([168, 169, 170, 171, 172, 173, 174, 175] : List Nat)[i]? = some (168 + i) by decide) _ h8
    refine W.aald (v := .ref (P.2.2.1 (168 + j.toNatClampNeg))) (ty := .array .int) hC.exec hC.bytes hk (hK4 8 (fun i => va_rf (([168, 169, 170, 171, 172, 173, 174, 175] : List Nat)[i]?.map P.2.2.1))) rfl (fun q => by cases q) (by show ¬ (j < 0 ∨ (arrV _ _ _).slots.size ≤ _); rw [arrV_size]; exact hin) (by show (arrV _ _ _).slots[_]? = _; rw [arrV_read _ _ h8]; show some (va_rf (([168, 169, 170, 171, 172, 173, 174, 175] : List Nat)[j.toNatClampNeg]?.map P.2.2.1)) = _; rw [e]; rfl) rfl rfl hd (kk _ (hrow _ h8) a ha H locs ls hl hP hS)
theorem GR_callVA (hC : GC P X own cc nL R0) {o ci ce' sl' : Nat} {fs : List (Option (Option Nat))} {q : vw_C} {E0 : Option (GM × Int32)} {F : GM × Int32 → Option α} (hk : KA P y cc' maxL ret rm (gr P o :: As) g E0) (hm : g_MY y cc' maxL ret n) (hin : Cond.instanceMethod y ∈ g_w ∧ Cond.selects y.cls y y ∈ g_w) (hl : Cond.methodLink own i y ∈ g_w) (hs : (g_sh P)[o]? = some (.inr (ci, fs))) (hq : g_cl[ci]? = some q) (hqc : q.1 = y.cls) (hR : rm.frames + 1 ≤ R0.frames ∧ 8 + (maxL + 11) + rm.locals ≤ R0.locals) (hcs : ce + rm.cells ≤ R0.cells ∧ sl + rm.slots ≤ R0.slots) (he : ce' = ce + rm.cells ∧ sl' = sl + rm.slots)
    (h0 : st0 = As.reverse ++ gr P o :: st) (hn : As.length = n) (h8 : (st.map fun v => v.category).sum ≤ 8) (hd : decode cc pc = .ok (.invokevirtual i, 3))
    (kk : ∀ (g' : GM) (r : Int32), E0 = some (g', r) → GR P X Qf ce' sl' (F (g', r)) (pc + 3) L (.int r :: st) g' x) : GR P X Qf ce sl (E0.bind F) pc L st0 g x := by
  intro a ha H locs ls hl2 hP hS
  obtain ⟨rfl, rfl⟩ := he
  cases hE : E0 with
  | none => rw [hE] at ha; cases ha
  | some b =>
    rw [hE] at ha
    subst h0
    have hB : CallB X.2.2.2.1 X.2.2.2.2.1 X.2.2.2.2.2.2.1 own i y cc' maxL ret (g_ws y cc' maxL ret) rm rm.cells rm.slots n := by
      refine ⟨rfl, rfl, by rw [hC.room]; exact hR.1, by rw [hC.room]; exact hR.2, fun w hw a' U hW => ?_, List.mem_cons_self, hC.word hm.1, hC.word hm.2.1, ⟨hm.2.2.1, hm.2.2.2.1⟩, fun sig h => ?_, hC.word hl⟩
      · have hw2 : w ∈ g_w := (List.mem_cons.mp hw).elim (fun e => e ▸ hm.1) id
        exact word_at hW (good_of_word (g_w_ok w hw2)) (hC.word hw2)
      · have h2 := hm.2.2.2.2
        rw [h] at h2
        exact (Option.some.inj h2).symm
    refine va_calli (va_runV (C := y.cls) (g_fix hC) (hk X.2.1 x H.size b hC.2.2.2.2.2.2.2.2.2.2.2 hE) ⟨hB, hC.word hin.1, hC.word hin.2⟩ ⟨g_blind, hqc ▸ g_recv hC hP hs hq, g_give hC hP hS⟩ rfl hn (by rw [← hC.maxL]; exact hl2.1) rfl (by simpa using h8) hd (by rw [hC.room]; exact hcs)) hS (fun q _ h => hC.A q (g_A_mono hS.1 q h)) (fun q h => hC.A q (g_A_mono hS.1 q h)) (fun r u t H1 locs1 ht hvm hw hB hz1 hk1 hS1 => ?_)
    have hw' : r = b.2 := hw
    subst hw'
    have hP1 : va_P P.1 g_cl (g_wl P b.1 x) t.heap := hB
    rw [ht] at hP1
    exact kk b.1 b.2 hE a ha H1 locs1 ls hl2 hP1 hS1
theorem GR_iretA (hC : GC P X own cc nL R0) {v : Int32} {ca cb : Nat} (hcs : ce ≤ ca ∧ sl ≤ cb) (hr : X.2.2.2.2.2.2.2.2.1.sig.returnType = some .int) (hd : decode cc pc = .ok (.ireturn, 1)) : GR P X (g_QIA P X x ca cb) ce sl (some (g, v)) pc L [.int v] g x := by
  intro a ha H locs ls hl hP hS
  cases ha
  exact W.widen hcs.1 hcs.2 (W.iret (v := v) hC.exec hC.bytes hr (fun t ht hW => ⟨⟨v, (), rfl, rfl, by show va_P _ _ _ t.heap; rw [ht]; exact hP⟩, hS.F ht⟩) hS.2.2 hd hC.locks)
theorem GR_zretA (hC : GC P X own cc nL R0) {v : Int32} {ca cb : Nat} (h : v = 0 ∨ v = 1) (hcs : ce ≤ ca ∧ sl ≤ cb) (hr : X.2.2.2.2.2.2.2.2.1.sig.returnType = some .boolean) (hd : decode cc pc = .ok (.ireturn, 1)) : GR P X (g_QIA P X x ca cb) ce sl (some (g, v)) pc L [.int v] g x := by
  intro a ha H locs ls hl hP hS
  cases ha
  exact W.widen hcs.1 hcs.2 (W.zret (v := v) hC.exec hC.bytes hr (g_nz h) (fun t ht hW => ⟨⟨v, (), rfl, rfl, by show va_P _ _ _ t.heap; rw [ht]; exact hP⟩, hS.F ht⟩) hS.2.2 hd hC.locks)
theorem GR_zretAv (hC : GC P X own cc nL R0) {v : Int32} {ca cb : Nat} (hcs : ce ≤ ca ∧ sl ≤ cb) (hr : X.2.2.2.2.2.2.2.2.1.sig.returnType = some .boolean) (hd : decode cc pc = .ok (.ireturn, 1)) : GR P X (g_QIA P X x ca cb) ce sl (g_zr g v) pc L [.int v] g x := by
  intro a ha
  by_cases h : v = 0 ∨ v = 1
  · rw [g_zr, if_pos h] at ha
    exact GR_zretA hC h hcs hr hd a ha
  · rw [g_zr, if_neg h] at ha; cases ha
theorem GR_ldcI (hC : GC P X own cc nL R0) {v : Int32} (hl : Cond.constant own i v ∈ g_w) (hd : decode cc pc = .ok (.ldc i, 2)) (kk : GR P X Qf ce sl E (pc + 2) L (.int v :: st) g x) : GR P X Qf ce sl E pc L st g x :=
  fun a ha H locs ls hl2 hP hS => lv_ldc hC.exec hC.bytes hC.cls (hC.word hl) hd (kk a ha H locs ls hl2 hP hS)
theorem g_out9 {v : Int32} (h0 : ¬ v = 0) (h1 : ¬ v = 1) (h2 : ¬ v = 2) (h3 : ¬ v = 3) (h4 : ¬ v = 4) (h5 : ¬ v = 5) (h6 : ¬ v = 6) (h7 : ¬ v = 7) (h8 : ¬ v = 8) : v.toInt < 0 ∨ 8 < v.toInt := by
  have e7 := g_ne_toInt h7
  have e8 := g_ne_toInt h8
  rw [show (7 : Int32).toInt = 7 from rfl] at e7
  rw [show (8 : Int32).toInt = 8 from rfl] at e8
  rcases g_out7 h0 h1 h2 h3 h4 h5 h6 with h | h <;> omega
end GMORE
theorem MY_X10_refuse : g_MY yX10_refuse cX10_refuse 1 none 1 := ⟨g_w_mem (List.mem_of_getElem? (i := 569) (by decide +kernel)) (by decide +kernel), g_w_mem (List.mem_of_getElem? (i := 20) (by decide +kernel)) (by decide +kernel), by decide +kernel, by decide +kernel, by decide +kernel⟩
theorem MS_X10_refuse : Cond.static yX10_refuse ∈ g_w := g_w_mem (List.mem_of_getElem? (i := 568) (by decide +kernel)) (by decide +kernel)
theorem k_refuseN {P : GP} {v : Int32} {g : GM} : KV P yX10_refuse cX10_refuse 1 ⟨0, 0, 0, 0⟩ [.int v] g (if v = 1 then none else if v = 2 then none else if v = 3 then none else some g) := by
  refine KV.ofW (by decide) rfl (Nat.le_of_ble_eq_true rfl) (fun X x hC hr => ?_)
  change GR P X (g_QV P X x) 0 0 _ 0 [some (.int v)] [] g x
  refine GR_iload_n (pc := 0) hC dX10_refuse_0 rfl rfl ?_
  refine GR_iconst (pc := 1) (v := 1) hC dX10_refuse_1 rfl ?_
  refine GR_icmp_ne (pc := 2) (tgt := 16) hC dX10_refuse_2 (by decide) ?_ GR.none
  refine GR_iload_n (pc := 16) hC dX10_refuse_16 rfl rfl ?_
  refine GR_iconst (pc := 17) (v := 2) hC dX10_refuse_17 rfl ?_
  refine GR_icmp_ne (pc := 18) (tgt := 32) hC dX10_refuse_18 (by decide) ?_ GR.none
  refine GR_iload_n (pc := 32) hC dX10_refuse_32 rfl rfl ?_
  refine GR_iconst (pc := 33) (v := 3) hC dX10_refuse_33 rfl ?_
  refine GR_icmp_ne (pc := 34) (tgt := 48) hC dX10_refuse_34 (by decide) ?_ GR.none
  exact GR_vret (pc := 48) hC hr dX10_refuse_48
theorem GR_refuseN {P : GP} {X : GX} {own : String} {cc : ByteArray} {nL : Nat} {R0 : Room} {α : Type} {Qf : α → State → Prop} {ce sl pc i : Nat} {L : List (Option Value)} {st : List Value} {g : GM} {x : GE} {E : Option α} (hC : GC P X own cc nL R0) {v : Int32} (hl : Cond.methodLink own i yX10_refuse ∈ g_w) (hR : 1 ≤ R0.frames ∧ 20 ≤ R0.locals) (h8 : (st.map fun v => v.category).sum ≤ 8) (hd : decode cc pc = .ok (.invokestatic i, 3)) (hcs : ce ≤ R0.cells ∧ sl ≤ R0.slots := by exact ⟨Nat.zero_le _, Nat.zero_le _⟩) (kk : GR P X Qf ce sl E (pc + 3) L st g x) : GR P X Qf ce sl (g_thrN (g_ref v) E) pc L (.int v :: st) g x := by
  refine GR.eq (E' := (if v = 1 then none else if v = 2 then none else if v = 3 then none else some g).bind (fun _ => E)) ?_ (GR_callSV (As := [.int v]) hC k_refuseN MY_X10_refuse MS_X10_refuse hl ⟨rfl, rfl⟩ ⟨hR.1, by have := hR.2; show 8 + (1 + 11) + 0 ≤ _; omega⟩ hcs rfl rfl h8 hd (fun g' h => ?_))
  · by_cases h1 : v = 1
    · subst h1; rfl
    by_cases h2 : v = 2
    · subst h2; rfl
    by_cases h3 : v = 3
    · subst h3; rfl
    simp [g_thrN, g_ref, h1, h2, h3]
  · have e : g' = g := by
      by_cases h1 : v = 1
      · rw [if_pos h1] at h; cases h
      by_cases h2 : v = 2
      · rw [if_neg h1, if_pos h2] at h; cases h
      by_cases h3 : v = 3
      · rw [if_neg h1, if_neg h2, if_pos h3] at h; cases h
      · rw [if_neg h1, if_neg h2, if_neg h3] at h; exact (Option.some.inj h).symm
    rw [e]
    exact kk
