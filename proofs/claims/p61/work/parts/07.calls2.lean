/-! ===== the JDK's own methods of strings ===== -/
abbrev gvr (P : GP) (k : Nat) : Value := .ref (P.2.2.2.2.1 k)
def g_slen (w : Nat) : Option Int32 := if w < 33 then some (Int32.ofNat (g_len.getD w 0)) else none
def g_ch (w : Nat) (i : Int32) : Int32 := ((((g_byt.getD w []).getD i.toNatClampNeg 0) &&& 255).toUInt32 % 65536).toInt32
def g_schar (w : Nat) (i : Int32) : Option Int32 := if w < 33 then (if i < 0 ∨ g_len.getD w 0 ≤ i.toNatClampNeg then none else some (g_ch w i)) else none
/-- the letter i of any string -/
def g_chT (P : GP) (w : Nat) (i : Int32) : Int32 := ((((g_tx P w).getD i.toNatClampNeg 0) &&& 255).toUInt32 % 65536).toInt32
def g_scharT (P : GP) (w : Nat) (i : Int32) : Option Int32 := if i < 0 ∨ (g_tx P w).length ≤ i.toNatClampNeg then none else some (g_chT P w i)
theorem g_tx_ok : ∀ w, w < 10 → (g_byt.getD w []).length = g_len.getD w 0 := by decide +kernel
theorem g_tx_c {P : GP} {w : Nat} (h : w < 10) : g_tx P w = g_byt.getD w [] := if_pos h
theorem g_slen_T {P : GP} {w : Nat} (h : w < 10) : g_slen w = some (Int32.ofNat (g_tx P w).length) := by rw [g_tx_c h, g_tx_ok w h, g_slen, if_pos (by omega)]
theorem g_schar_T {P : GP} {w : Nat} {i : Int32} (h : w < 10) : g_schar w i = g_scharT P w i := by
  unfold g_schar g_scharT g_chT g_ch
  rw [g_tx_c h, g_tx_ok w h, if_pos (by omega)]
theorem g_recvZ {P : GP} {X : GX} {own : String} {cc : ByteArray} {nL : Nat} {R0 : Room} (hC : GC P X own cc nL R0) {H : Heap} {locs : List Loc} (hS : va_S X.2.2.2.2.2.2.2.2.2.2 X.2.2.2.2.1.heap H locs) {o : Nat} (hs : o < g_ns P) : ∃ cell : Cell, H[P.2.2.2.1 o]? = some cell ∧ cell.vm.isStatics = false ∧ X.2.2.2.2.1.vm.findClass "java/lang/String" = some cell.cls := by
  obtain ⟨cell, h1, h2, h3, -⟩ := (hC.E.1 o hs).1.kept hS.2.1
  exact ⟨cell, h1, h2, h3⟩
section GSTR
variable {P : GP} {X : GX} {own : String} {cc : ByteArray} {nL : Nat} {R0 : Room} {α : Type} {Qf : α → State → Prop} {ce sl pc : Nat} {L : List (Option Value)} {st st0 : List Value} {g : GM} {x : GE} {E B : Option α}
variable {y : MethodName} {cc' : ByteArray} {maxL n i : Nat} {ret : Option FieldType} {rm : Room} {As : List Value}
/-- a method of a string constant -/
theorem GR_callZI (hC : GC P X own cc nL R0) {o : Nat} {E0 : Option (GM × Int32)} {F : GM × Int32 → Option α} (hk : KI P y cc' maxL ret rm (gsr P o :: As) g E0) (hm : g_MY y cc' maxL ret n) (hin : Cond.instanceMethod y ∈ g_w ∧ Cond.selects y.cls y y ∈ g_w) (hl : Cond.methodLink own i y ∈ g_w) (hs : o < g_ns P) (hqc : "java/lang/String" = y.cls) (hr0 : rm.cells = 0 ∧ rm.slots = 0) (hR : rm.frames + 1 ≤ R0.frames ∧ 8 + (maxL + 11) + rm.locals ≤ R0.locals) (hcs : ce ≤ R0.cells ∧ sl ≤ R0.slots)
    (h0 : st0 = As.reverse ++ gsr P o :: st) (hn : As.length = n) (h8 : (st.map fun v => v.category).sum ≤ 8) (hd : decode cc pc = .ok (.invokevirtual i, 3))
    (kk : ∀ (g' : GM) (r : Int32), E0 = some (g', r) → GR P X Qf ce sl (F (g', r)) (pc + 3) L (.int r :: st) g' x) : GR P X Qf ce sl (E0.bind F) pc L st0 g x := by
  intro a ha H locs ls hl2 hP hS
  cases hE : E0 with
  | none => rw [hE] at ha; cases ha
  | some b =>
    rw [hE] at ha
    subst h0
    refine va_calli (va_runV (C := y.cls) (g_fix hC) (hk X.2.1 x H.size b hC.2.2.2.2.2.2.2.2.2.2.2 hE) ⟨g_callB hC hm hl hr0 hR, hC.word hin.1, hC.word hin.2⟩ ⟨g_blind, hqc ▸ g_recvZ hC hS hs, g_give hC hP hS⟩ rfl hn (by rw [← hC.maxL]; exact hl2.1) rfl (by simpa using h8) hd (by rw [hC.room]; exact hcs)) hS (fun q _ h => hC.A q (g_A_mono hS.1 q h)) (fun q h => hC.A q (g_A_mono hS.1 q h)) (fun r u t H1 locs1 ht hvm hw hB hz1 hk1 hS1 => ?_)
    have hw' : r = b.2 := hw
    subst hw'
    have hP1 : va_P P.1 g_cl (g_wl P b.1 x) t.heap := hB
    rw [ht] at hP1
    exact kk b.1 b.2 hE a ha H1 locs1 ls hl2 hP1 hS1
theorem GR_callZP (hC : GC P X own cc nL R0) {o : Nat} {E0 : Option Int32} {F : Int32 → Option α} (hk : KI P y cc' maxL ret rm (gsr P o :: As) g (E0.map (fun r => (g, r)))) (hm : g_MY y cc' maxL ret n) (hin : Cond.instanceMethod y ∈ g_w ∧ Cond.selects y.cls y y ∈ g_w) (hl : Cond.methodLink own i y ∈ g_w) (hs : o < g_ns P) (hqc : "java/lang/String" = y.cls) (hr0 : rm.cells = 0 ∧ rm.slots = 0) (hR : rm.frames + 1 ≤ R0.frames ∧ 8 + (maxL + 11) + rm.locals ≤ R0.locals) (hcs : ce ≤ R0.cells ∧ sl ≤ R0.slots) (h0 : st0 = As.reverse ++ gsr P o :: st) (hn : As.length = n) (h8 : (st.map fun v => v.category).sum ≤ 8) (hd : decode cc pc = .ok (.invokevirtual i, 3))
    (kk : ∀ (r : Int32), E0 = some r → GR P X Qf ce sl (F r) (pc + 3) L (.int r :: st) g x) : GR P X Qf ce sl (E0.bind F) pc L st0 g x := by
  refine GR.eq (E' := (E0.map (fun r => (g, r))).bind (fun q => F q.2)) (by cases E0 <;> rfl) (GR_callZI (F := fun q => F q.2) hC hk hm hin hl hs hqc hr0 hR hcs h0 hn h8 hd (fun g' r h => ?_))
  cases E0 with
  | none => cases h
  | some r0 => cases h; exact kk _ rfl
theorem GR_gets1 (hC : GC P X own cc nL R0) (hl : Cond.fieldLink own i "java/lang/String" "COMPACT_STRINGS" "Z" ∈ g_w) (hd : decode cc pc = .ok (.getstatic i, 3)) (kk : GR P X Qf ce sl E (pc + 3) L (.int 1 :: st) g x) : GR P X Qf ce sl E pc L st g x :=
  fun a ha H locs ls hl2 hP hS => va_gets hC.exec hC.bytes hC.E.2.2.2.1 hS hC.cls (hC.word hl) (fun _ h => h) hd (kk a ha H locs ls hl2 hP hS)
theorem GR_getsF (hC : GC P X own cc nL R0) (hl : Cond.fieldLink own i "jdk/internal/util/Preconditions" "SIOOBE_FORMATTER" "Ljava/util/function/BiFunction;" ∈ g_w) (hd : decode cc pc = .ok (.getstatic i, 3)) (kk : ∀ v : Value, v.category = 1 → GR P X Qf ce sl E (pc + 3) L (v :: st) g x) : GR P X Qf ce sl E pc L st g x := by
  intro a ha H locs ls hl2 hP hS
  rcases hC.E.2.2.2.2.1 with h | ⟨t, h⟩
  · exact va_gets hC.exec hC.bytes h hS hC.cls (hC.word hl) (fun _ h => h) hd (kk _ rfl a ha H locs ls hl2 hP hS)
  · exact va_gets hC.exec hC.bytes h hS hC.cls (hC.word hl) (fun _ h => h) hd (kk _ rfl a ha H locs ls hl2 hP hS)
theorem GR_strcoder (hC : GC P X own cc nL R0) {w : Nat} (hw : w < g_ns P) (hl : Cond.fieldLink own i "java/lang/String" "coder" "B" ∈ g_w) (hd : decode cc pc = .ok (.getfield i, 3)) (kk : GR P X Qf ce sl E (pc + 3) L (.int 0 :: st) g x) : GR P X Qf ce sl E pc L (gsr P w :: st) g x :=
  fun a ha H locs ls hl2 hP hS => vk_getf hC.exec hC.bytes (hC.E.1 w hw).2.1 hS hC.cls (hC.word hl) (fun _ h => h) hd (kk a ha H locs ls hl2 hP hS)
theorem GR_strval (hC : GC P X own cc nL R0) {w : Nat} (hw : w < g_ns P) (hl : Cond.fieldLink own i "java/lang/String" "value" "[B" ∈ g_w) (hd : decode cc pc = .ok (.getfield i, 3)) (kk : GR P X Qf ce sl E (pc + 3) L (gvr P w :: st) g x) : GR P X Qf ce sl E pc L (gsr P w :: st) g x :=
  fun a ha H locs ls hl2 hP hS => vk_getf hC.exec hC.bytes (hC.E.1 w hw).2.2.1 hS hC.cls (hC.word hl) (fun _ h => h) hd (kk a ha H locs ls hl2 hP hS)
theorem GR_strlen0 (hC : GC P X own cc nL R0) {w : Nat} (hw : w < g_ns P) (hd : decode cc pc = .ok (.arraylength, 1)) (kk : GR P X Qf ce sl E (pc + 1) L (.int (Int32.ofNat (g_tx P w).length) :: st) g x) : GR P X Qf ce sl E pc L (gvr P w :: st) g x :=
  fun a ha H locs ls hl2 hP hS => va_tlen hC.exec hC.bytes (hC.E.1 w hw).2.2.2 hS rfl hd (kk a ha H locs ls hl2 hP hS)
theorem GR_strld (hC : GC P X own cc nL R0) {w : Nat} {j : Int32} (hw : w < g_ns P) (hin : ¬ (j < 0 ∨ (g_tx P w).length ≤ j.toNatClampNeg)) (hd : decode cc pc = .ok (.baload, 1)) (kk : GR P X Qf ce sl E (pc + 1) L (.int ((g_tx P w).getD j.toNatClampNeg 0) :: st) g x) : GR P X Qf ce sl E pc L (.int j :: gvr P w :: st) g x :=
  fun a ha H locs ls hl2 hP hS => va_tb hC.exec hC.bytes (hC.E.1 w hw).2.2.2 hS hin rfl hd (kk a ha H locs ls hl2 hP hS)
theorem GR_nretP (hC : GC P X own cc nL R0) {v : Int32} {ty : FieldType} (hn : narrow ty (.int v) = .int v) (hr : X.2.2.2.2.2.2.2.2.1.sig.returnType = some ty) (hd : decode cc pc = .ok (.ireturn, 1)) : GR P X (g_QP P X g x) 0 0 (some v) pc L [.int v] g x := by
  intro a ha H locs ls hl hP hS
  cases ha
  exact W.zret (v := v) hC.exec hC.bytes hr hn (fun t ht hW => ⟨⟨v, (), rfl, rfl, by show va_P _ _ _ t.heap; rw [ht]; exact hP⟩, hS.F ht⟩) hS.2.2 hd hC.locks
theorem GR_aloadv_n (hC : GC P X own cc nL R0) {k : Fin 4} {i : Nat} {v : Value} (hv : v = .null ∨ ∃ t, v = .ref t) (hd : decode cc pc = .ok (.aload_n k, 1)) (hi : (k : Nat) = i) (hl : L[i]? = some (some v)) (kk : GR P X Qf ce sl E (pc + 1) L (v :: st) g x) : GR P X Qf ce sl E pc L st g x := by
  rcases hv with rfl | ⟨t, rfl⟩
  · exact fun a ha H locs ls hl2 hP hS => lv_aload_nN hC.exec hC.bytes hd hi (hl2.at hl) (kk a ha H locs ls hl2 hP hS)
  · exact GR_aload_n hC hd hi hl kk
end GSTR
theorem MY_J0_coder_7d493 : g_MY yJ0_coder_7d493 cJ0_coder_7d493 1 (some .byte) 0 := ⟨g_w_mem (List.mem_of_getElem? (i := 294) (by decide +kernel)) (by decide +kernel), g_w_mem (List.mem_of_getElem? (i := 30) (by decide +kernel)) (by decide +kernel), by decide +kernel, by decide +kernel, by decide +kernel⟩
theorem MI_J0_coder_7d493 : Cond.instanceMethod yJ0_coder_7d493 ∈ g_w ∧ Cond.selects yJ0_coder_7d493.cls yJ0_coder_7d493 yJ0_coder_7d493 ∈ g_w := ⟨g_w_mem (List.mem_of_getElem? (i := 292) (by decide +kernel)) (by decide +kernel), g_w_mem (List.mem_of_getElem? (i := 293) (by decide +kernel)) (by decide +kernel)⟩
theorem MY_J0_isLatin1_aae02 : g_MY yJ0_isLatin1_aae02 cJ0_isLatin1_aae02 1 (some .boolean) 0 := ⟨g_w_mem (List.mem_of_getElem? (i := 304) (by decide +kernel)) (by decide +kernel), g_w_mem (List.mem_of_getElem? (i := 30) (by decide +kernel)) (by decide +kernel), by decide +kernel, by decide +kernel, by decide +kernel⟩
theorem MI_J0_isLatin1_aae02 : Cond.instanceMethod yJ0_isLatin1_aae02 ∈ g_w ∧ Cond.selects yJ0_isLatin1_aae02.cls yJ0_isLatin1_aae02 yJ0_isLatin1_aae02 ∈ g_w := ⟨g_w_mem (List.mem_of_getElem? (i := 302) (by decide +kernel)) (by decide +kernel), g_w_mem (List.mem_of_getElem? (i := 303) (by decide +kernel)) (by decide +kernel)⟩
theorem MY_J0_checkIndex_df160 : g_MY yJ0_checkIndex_df160 cJ0_checkIndex_df160 2 none 2 := ⟨g_w_mem (List.mem_of_getElem? (i := 310) (by decide +kernel)) (by decide +kernel), g_w_mem (List.mem_of_getElem? (i := 30) (by decide +kernel)) (by decide +kernel), by decide +kernel, by decide +kernel, by decide +kernel⟩
theorem MS_J0_checkIndex_df160 : Cond.static yJ0_checkIndex_df160 ∈ g_w := g_w_mem (List.mem_of_getElem? (i := 309) (by decide +kernel)) (by decide +kernel)
theorem MY_J1_charAt_3b067 : g_MY yJ1_charAt_3b067 cJ1_charAt_3b067 2 (some .char) 2 := ⟨g_w_mem (List.mem_of_getElem? (i := 307) (by decide +kernel)) (by decide +kernel), g_w_mem (List.mem_of_getElem? (i := 31) (by decide +kernel)) (by decide +kernel), by decide +kernel, by decide +kernel, by decide +kernel⟩
theorem MS_J1_charAt_3b067 : Cond.static yJ1_charAt_3b067 ∈ g_w := g_w_mem (List.mem_of_getElem? (i := 306) (by decide +kernel)) (by decide +kernel)
theorem MY_J3_checkIndex_8e157 : g_MY yJ3_checkIndex_8e157 cJ3_checkIndex_8e157 3 (some .int) 3 := ⟨g_w_mem (List.mem_of_getElem? (i := 315) (by decide +kernel)) (by decide +kernel), g_w_mem (List.mem_of_getElem? (i := 32) (by decide +kernel)) (by decide +kernel), by decide +kernel, by decide +kernel, by decide +kernel⟩
theorem MS_J3_checkIndex_8e157 : Cond.static yJ3_checkIndex_8e157 ∈ g_w := g_w_mem (List.mem_of_getElem? (i := 314) (by decide +kernel)) (by decide +kernel)
theorem MY_J0_length_8abf5 : g_MY yJ0_length_8abf5 cJ0_length_8abf5 1 (some .int) 0 := ⟨g_w_mem (List.mem_of_getElem? (i := 290) (by decide +kernel)) (by decide +kernel), g_w_mem (List.mem_of_getElem? (i := 30) (by decide +kernel)) (by decide +kernel), by decide +kernel, by decide +kernel, by decide +kernel⟩
theorem MI_J0_length_8abf5 : Cond.instanceMethod yJ0_length_8abf5 ∈ g_w ∧ Cond.selects yJ0_length_8abf5.cls yJ0_length_8abf5 yJ0_length_8abf5 ∈ g_w := ⟨g_w_mem (List.mem_of_getElem? (i := 288) (by decide +kernel)) (by decide +kernel), g_w_mem (List.mem_of_getElem? (i := 289) (by decide +kernel)) (by decide +kernel)⟩
theorem MY_J0_charAt_5068e : g_MY yJ0_charAt_5068e cJ0_charAt_5068e 2 (some .char) 1 := ⟨g_w_mem (List.mem_of_getElem? (i := 300) (by decide +kernel)) (by decide +kernel), g_w_mem (List.mem_of_getElem? (i := 30) (by decide +kernel)) (by decide +kernel), by decide +kernel, by decide +kernel, by decide +kernel⟩
theorem MI_J0_charAt_5068e : Cond.instanceMethod yJ0_charAt_5068e ∈ g_w ∧ Cond.selects yJ0_charAt_5068e.cls yJ0_charAt_5068e yJ0_charAt_5068e ∈ g_w := ⟨g_w_mem (List.mem_of_getElem? (i := 298) (by decide +kernel)) (by decide +kernel), g_w_mem (List.mem_of_getElem? (i := 299) (by decide +kernel)) (by decide +kernel)⟩
theorem ML_RX4_15 : Cond.methodLink RX4 15 yJ0_length_8abf5 ∈ g_w := g_w_mem (List.mem_of_getElem? (i := 287) (by decide +kernel)) (by decide +kernel)
theorem ML_RX4_21 : Cond.methodLink RX4 21 yJ0_charAt_5068e ∈ g_w := g_w_mem (List.mem_of_getElem? (i := 297) (by decide +kernel)) (by decide +kernel)
theorem ML_RL_8 : Cond.methodLink RL 8 yJ0_length_8abf5 ∈ g_w := g_w_mem (List.mem_of_getElem? (i := 886) (by decide +kernel)) (by decide +kernel)
theorem ML_RL_14 : Cond.methodLink RL 14 yJ0_charAt_5068e ∈ g_w := g_w_mem (List.mem_of_getElem? (i := 890) (by decide +kernel)) (by decide +kernel)
theorem ML_RJ0_335 : Cond.methodLink RJ0 335 yJ0_coder_7d493 ∈ g_w := g_w_mem (List.mem_of_getElem? (i := 291) (by decide +kernel)) (by decide +kernel)
theorem ML_RJ0_492 : Cond.methodLink RJ0 492 yJ0_isLatin1_aae02 ∈ g_w := g_w_mem (List.mem_of_getElem? (i := 301) (by decide +kernel)) (by decide +kernel)
theorem ML_RJ0_495 : Cond.methodLink RJ0 495 yJ1_charAt_3b067 ∈ g_w := g_w_mem (List.mem_of_getElem? (i := 305) (by decide +kernel)) (by decide +kernel)
theorem ML_RJ0_1059 : Cond.methodLink RJ0 1059 yJ3_checkIndex_8e157 ∈ g_w := g_w_mem (List.mem_of_getElem? (i := 313) (by decide +kernel)) (by decide +kernel)
theorem ML_RJ1_9 : Cond.methodLink RJ1 9 yJ0_checkIndex_df160 ∈ g_w := g_w_mem (List.mem_of_getElem? (i := 308) (by decide +kernel)) (by decide +kernel)
theorem FS_9 : Cond.fieldLink RJ0 9 "java/lang/String" "value" "[B" ∈ g_w := g_w_mem (List.mem_of_getElem? (i := 1125) (by decide +kernel)) (by decide +kernel)
theorem FS_15 : Cond.fieldLink RJ0 15 "java/lang/String" "coder" "B" ∈ g_w := g_w_mem (List.mem_of_getElem? (i := 1126) (by decide +kernel)) (by decide +kernel)
theorem FS_38 : Cond.fieldLink RJ0 38 "java/lang/String" "COMPACT_STRINGS" "Z" ∈ g_w := g_w_mem (List.mem_of_getElem? (i := 295) (by decide +kernel)) (by decide +kernel)
theorem FS_1053 : Cond.fieldLink RJ0 1053 "jdk/internal/util/Preconditions" "SIOOBE_FORMATTER" "Ljava/util/function/BiFunction;" ∈ g_w := g_w_mem (List.mem_of_getElem? (i := 311) (by decide +kernel)) (by decide +kernel)
theorem k_coder {P : GP} {g : GM} {w : Nat} (hw : w < g_ns P) : KI P yJ0_coder_7d493 cJ0_coder_7d493 1 (some .byte) ⟨0, 0, 0, 0⟩ [gsr P w] g ((some (0 : Int32)).map (fun r => (g, r))) := by
  refine KI.ofWP (by decide) rfl (Nat.le_of_ble_eq_true rfl) (fun X x hC hr => ?_)
  change GR P X (g_QP P X g x) 0 0 _ 0 [some (gsr P w)] [] g x
  refine GR_gets1 (pc := 0) hC FS_38 dJ0_coder_7d493_0 ?_
  refine GR.eq (E' := if (1 : Int32) = 0 then none else some 0) rfl ?_
  refine GR_if_eq (pc := 3) (tgt := 13) hC dJ0_coder_7d493_3 (by decide) GR.none ?_
  refine GR_aload_n (pc := 6) hC dJ0_coder_7d493_6 rfl rfl ?_
  refine GR_strcoder (pc := 7) hC hw FS_15 dJ0_coder_7d493_7 ?_
  refine GR_goto (pc := 10) (tgt := 14) hC dJ0_coder_7d493_10 (by decide) ?_
  exact GR_nretP (pc := 14) hC rfl hr dJ0_coder_7d493_14
theorem k_length {P : GP} {g : GM} {w : Nat} (hw : w < g_ns P) : KI P yJ0_length_8abf5 cJ0_length_8abf5 1 (some .int) ⟨1, 0, 0, 20⟩ [gsr P w] g ((some (Int32.ofNat (g_tx P w).length)).map (fun r => (g, r))) := by
  refine KI.ofWP (by decide) rfl (Nat.le_of_ble_eq_true rfl) (fun X x hC hr => ?_)
  change GR P X (g_QP P X g x) 0 0 _ 0 [some (gsr P w)] [] g x
  refine GR_aload_n (pc := 0) hC dJ0_length_8abf5_0 rfl rfl ?_
  refine GR_strval (pc := 1) hC hw FS_9 dJ0_length_8abf5_1 ?_
  refine GR_strlen0 (pc := 4) hC hw dJ0_length_8abf5_4 ?_
  refine GR_aload_n (pc := 5) hC dJ0_length_8abf5_5 rfl rfl ?_
  refine GR.eq (E' := (some (0 : Int32)).bind (fun r => some (Int32.ofNat (g_tx P w).length >>> (r &&& 31)))) (by show _ = some _; rw [sb_shr0]) ?_
  refine GR_callZP (pc := 6) (As := []) hC (k_coder hw) MY_J0_coder_7d493 MI_J0_coder_7d493 ML_RJ0_335 hw rfl ⟨rfl, rfl⟩ ⟨by decide, by decide⟩ ⟨Nat.zero_le _, Nat.zero_le _⟩ rfl rfl (Nat.le_of_ble_eq_true rfl) dJ0_length_8abf5_6 (fun v _ => ?_)
  refine GR_ishr (pc := 9) hC dJ0_length_8abf5_9 ?_
  exact GR_iretP (pc := 10) hC hr dJ0_length_8abf5_10
theorem k_isLatin1 {P : GP} {g : GM} {w : Nat} (hw : w < g_ns P) : KI P yJ0_isLatin1_aae02 cJ0_isLatin1_aae02 1 (some .boolean) ⟨0, 0, 0, 0⟩ [gsr P w] g ((some (1 : Int32)).map (fun r => (g, r))) := by
  refine KI.ofWP (by decide) rfl (Nat.le_of_ble_eq_true rfl) (fun X x hC hr => ?_)
  change GR P X (g_QP P X g x) 0 0 _ 0 [some (gsr P w)] [] g x
  refine GR_gets1 (pc := 0) hC FS_38 dJ0_isLatin1_aae02_0 ?_
  refine GR.eq (E' := if (1 : Int32) = 0 then none else some 1) rfl ?_
  refine GR_if_eq (pc := 3) (tgt := 17) hC dJ0_isLatin1_aae02_3 (by decide) GR.none ?_
  refine GR_aload_n (pc := 6) hC dJ0_isLatin1_aae02_6 rfl rfl ?_
  refine GR_strcoder (pc := 7) hC hw FS_15 dJ0_isLatin1_aae02_7 ?_
  refine GR.eq (E' := if (0 : Int32) = 0 then some 1 else none) rfl ?_
  refine GR_if_ne (pc := 10) (tgt := 17) hC dJ0_isLatin1_aae02_10 (by decide) GR.none ?_
  refine GR_iconst (pc := 13) (v := 1) hC dJ0_isLatin1_aae02_13 rfl ?_
  refine GR_goto (pc := 14) (tgt := 18) hC dJ0_isLatin1_aae02_14 (by decide) ?_
  exact GR_zretCP (pc := 18) hC (Or.inr rfl) hr dJ0_isLatin1_aae02_18
theorem k_precheck {P : GP} {g : GM} {i n : Int32} {v : Value} (hv : v.category = 1) : KI P yJ3_checkIndex_8e157 cJ3_checkIndex_8e157 3 (some .int) ⟨0, 0, 0, 0⟩ [.int i, .int n, v] g ((if i < 0 then none else if i < n then some i else none).map (fun r => (g, r))) := by
  refine KI.ofWP (by decide) (by show (decide _ && (decide _ && (decide (v.category = 1) && true))) = true; rw [hv]; rfl) (Nat.le_of_ble_eq_true rfl) (fun X x hC hr => ?_)
  change GR P X (g_QP P X g x) 0 0 _ 0 [some (.int i), some (.int n), some v] [] g x
  refine GR_iload_n (pc := 0) hC dJ3_checkIndex_8e157_0 rfl rfl ?_
  refine GR_if_lt (pc := 1) (tgt := 9) hC dJ3_checkIndex_8e157_1 (by decide) GR.none ?_
  refine GR_iload_n (pc := 4) hC dJ3_checkIndex_8e157_4 rfl rfl ?_
  refine GR_iload_n (pc := 5) hC dJ3_checkIndex_8e157_5 rfl rfl ?_
  refine GR_icmp_lt (pc := 6) (tgt := 16) hC dJ3_checkIndex_8e157_6 (by decide) ?_ GR.none
  refine GR_iload_n (pc := 16) hC dJ3_checkIndex_8e157_16 rfl rfl ?_
  exact GR_iretP (pc := 17) hC hr dJ3_checkIndex_8e157_17
theorem k_strcheck {P : GP} {g : GM} {i n : Int32} : KV P yJ0_checkIndex_df160 cJ0_checkIndex_df160 2 ⟨1, 0, 0, 22⟩ [.int i, .int n] g (if i < 0 then none else if i < n then some g else none) := by
  refine KV.ofW (by decide) rfl (Nat.le_of_ble_eq_true rfl) (fun X x hC hr => ?_)
  change GR P X (g_QV P X x) 0 0 _ 0 [some (.int i), some (.int n)] [] g x
  refine GR_iload_n (pc := 0) hC dJ0_checkIndex_df160_0 rfl rfl ?_
  refine GR_iload_n (pc := 1) hC dJ0_checkIndex_df160_1 rfl rfl ?_
  refine GR_getsF (pc := 2) hC FS_1053 dJ0_checkIndex_df160_2 (fun v hv => ?_)
  refine GR.eq (E' := (if i < 0 then none else if i < n then some i else none).bind (fun _ => some g)) (by by_cases h1 : i < 0 <;> by_cases h2 : i < n <;> simp [h1, h2]) ?_
  refine GR_callSP (pc := 5) (As := [.int i, .int n, v]) hC (k_precheck hv) MY_J3_checkIndex_8e157 MS_J3_checkIndex_8e157 ML_RJ0_1059 ⟨rfl, rfl⟩ ⟨by decide, by decide⟩ ⟨Nat.zero_le _, Nat.zero_le _⟩ rfl rfl (Nat.le_of_ble_eq_true rfl) dJ0_checkIndex_df160_5 (fun r _ => ?_)
  refine GR_pop (pc := 8) hC dJ0_checkIndex_df160_8 rfl ?_
  exact GR_vret (pc := 9) hC hr dJ0_checkIndex_df160_9
theorem g_idx {i : Int32} {n : Nat} (hn : n < 2 ^ 31) : (¬ i < 0 ∧ i < Int32.ofNat n) ↔ ¬ (i < 0 ∨ n ≤ i.toNatClampNeg) := by
  constructor
  · rintro ⟨h1, h2⟩ h
    rcases h with h | h
    · exact h1 h
    · obtain ⟨j, hj, rfl⟩ := nI_of h1
      rw [nI_clamp hj] at h
      exact nI_nlt h hj h2
  · intro h
    obtain ⟨h1, h2⟩ := not_or.mp h
    refine ⟨h1, ?_⟩
    obtain ⟨j, hj, rfl⟩ := nI_of h1
    rw [nI_clamp hj] at h2
    exact nI_lt (Nat.not_le.mp h2) hn
theorem k_l1char {P : GP} {g : GM} {w : Nat} {i : Int32} (hw : w < g_ns P) (hlt : (g_tx P w).length < 2 ^ 31) : KI P yJ1_charAt_3b067 cJ1_charAt_3b067 2 (some .char) ⟨2, 0, 0, 43⟩ [gvr P w, .int i] g ((g_scharT P w i).map (fun r => (g, r))) := by
  refine KI.ofWP (by decide) rfl (Nat.le_of_ble_eq_true rfl) (fun X x hC hr => ?_)
  change GR P X (g_QP P X g x) 0 0 _ 0 [some (gvr P w), some (.int i)] [] g x
  refine GR_iload_n (pc := 0) hC dJ1_charAt_3b067_0 rfl rfl ?_
  refine GR_aload_n (pc := 1) hC dJ1_charAt_3b067_1 rfl rfl ?_
  refine GR_strlen0 (pc := 2) hC hw dJ1_charAt_3b067_2 ?_
  have hx := g_idx (i := i) hlt
  by_cases hin : i < 0 ∨ (g_tx P w).length ≤ i.toNatClampNeg
  · rw [g_scharT, if_pos hin]; exact GR.none
  · obtain ⟨h1, h2⟩ := hx.mpr hin
    refine GR.eq (E' := (if i < 0 then none else if i < Int32.ofNat ((g_tx P w).length) then some g else none).bind (fun _ => some (g_chT P w i))) (by rw [g_scharT, if_neg hin, if_neg h1, if_pos h2]; rfl) ?_
    refine GR_callSV (pc := 3) (As := [.int i, .int (Int32.ofNat ((g_tx P w).length))]) hC k_strcheck MY_J0_checkIndex_df160 MS_J0_checkIndex_df160 ML_RJ1_9 ⟨rfl, rfl⟩ ⟨by decide, by decide⟩ ⟨Nat.zero_le _, Nat.zero_le _⟩ rfl rfl (Nat.le_of_ble_eq_true rfl) dJ1_charAt_3b067_3 (fun g' hg' => ?_)
    rw [if_neg h1, if_pos h2] at hg'
    cases hg'
    refine GR_aload_n (pc := 6) hC dJ1_charAt_3b067_6 rfl rfl ?_
    refine GR_iload_n (pc := 7) hC dJ1_charAt_3b067_7 rfl rfl ?_
    refine GR_strld (pc := 8) hC hw hin dJ1_charAt_3b067_8 ?_
    refine GR_sipush (pc := 9) (v := 255) hC dJ1_charAt_3b067_9 rfl ?_
    refine GR_iand (pc := 12) hC dJ1_charAt_3b067_12 ?_
    refine GR_i2c (pc := 13) hC dJ1_charAt_3b067_13 rfl ?_
    exact GR_nretP (pc := 14) hC (pk_nc _) hr dJ1_charAt_3b067_14
theorem g_ch_nar (P : GP) (w : Nat) (i : Int32) : narrow .char (.int (g_chT P w i)) = .int (g_chT P w i) := pk_nc _
theorem k_charAt {P : GP} {g : GM} {w : Nat} {i : Int32} (hw : w < g_ns P) (hlt : (g_tx P w).length < 2 ^ 31) : KI P yJ0_charAt_5068e cJ0_charAt_5068e 2 (some .char) ⟨3, 0, 0, 64⟩ [gsr P w, .int i] g ((g_scharT P w i).map (fun r => (g, r))) := by
  refine KI.ofWP (by decide) rfl (Nat.le_of_ble_eq_true rfl) (fun X x hC hr => ?_)
  change GR P X (g_QP P X g x) 0 0 _ 0 [some (gsr P w), some (.int i)] [] g x
  refine GR_aload_n (pc := 0) hC dJ0_charAt_5068e_0 rfl rfl ?_
  refine GR.eq (E' := (some (1 : Int32)).bind (fun v => if v = 0 then none else (g_scharT P w i).bind some)) (by show _ = if (1 : Int32) = 0 then none else (g_scharT P w i).bind some; rw [if_neg (by decide)]; cases g_scharT P w i <;> rfl) ?_
  refine GR_callZI (pc := 1) (As := []) (E0 := (some (1 : Int32)).map (fun r => (g, r))) (F := fun q => if q.2 = 0 then none else (g_scharT P w i).bind some) hC (k_isLatin1 hw) MY_J0_isLatin1_aae02 MI_J0_isLatin1_aae02 ML_RJ0_492 hw rfl ⟨rfl, rfl⟩ ⟨by decide, by decide⟩ ⟨Nat.zero_le _, Nat.zero_le _⟩ rfl rfl (Nat.le_of_ble_eq_true rfl) dJ0_charAt_5068e_1 (fun g' v hv => ?_)
  cases hv
  show GR P X (g_QP P X g x) 0 0 (if (1 : Int32) = 0 then none else (g_scharT P w i).bind some) _ _ _ g x
  refine GR_if_eq (pc := 4) (tgt := 16) hC dJ0_charAt_5068e_4 (by decide) GR.none ?_
  refine GR_aload_n (pc := 7) hC dJ0_charAt_5068e_7 rfl rfl ?_
  refine GR_strval (pc := 8) hC hw FS_9 dJ0_charAt_5068e_8 ?_
  refine GR_iload_n (pc := 11) hC dJ0_charAt_5068e_11 rfl rfl ?_
  refine GR_callSP (pc := 12) (As := [gvr P w, .int i]) hC (k_l1char hw hlt) MY_J1_charAt_3b067 MS_J1_charAt_3b067 ML_RJ0_495 ⟨rfl, rfl⟩ ⟨by decide, by decide⟩ ⟨Nat.zero_le _, Nat.zero_le _⟩ rfl rfl (Nat.le_of_ble_eq_true rfl) dJ0_charAt_5068e_12 (fun v hv => ?_)
  refine GR_nretP (pc := 15) hC ?_ hr dJ0_charAt_5068e_15
  rw [g_scharT] at hv
  by_cases hin : i < 0 ∨ (g_tx P w).length ≤ i.toNatClampNeg
  · rw [if_pos hin] at hv; cases hv
  · rw [if_neg hin] at hv; cases hv; exact g_ch_nar P w i
section GSTR2
variable {P : GP} {X : GX} {own : String} {cc : ByteArray} {nL : Nat} {R0 : Room} {α : Type} {Qf : α → State → Prop} {pc i : Nat} {L : List (Option Value)} {st : List Value} {g : GM} {x : GE}
theorem g_tx_lt {P : GP} {w : Nat} (h : w < 10) : (g_tx P w).length < 2 ^ 31 := by
  rw [g_tx_c h, g_tx_ok w h]
  exact (show ∀ w, w < 10 → g_len.getD w 0 < 2 ^ 31 by decide +kernel) w h
/-- any string of the frame's surroundings -/
theorem GR_slenT {ce sl : Nat} (hC : GC P X own cc nL R0) {w : Nat} {E : Option α} (hw : w < g_ns P) (hl : Cond.methodLink own i yJ0_length_8abf5 ∈ g_w) (hR : 2 ≤ R0.frames ∧ 60 ≤ R0.locals) (hcs : ce ≤ R0.cells ∧ sl ≤ R0.slots) (h8 : (st.map fun v => v.category).sum ≤ 8) (hd : decode cc pc = .ok (.invokevirtual i, 3)) (kk : GR P X Qf ce sl E (pc + 3) L (.int (Int32.ofNat (g_tx P w).length) :: st) g x) : GR P X Qf ce sl E pc L (gsr P w :: st) g x :=
  GR.eq (E' := (some (Int32.ofNat (g_tx P w).length)).bind (fun _ => E)) rfl (GR_callZP (As := []) hC (k_length hw) MY_J0_length_8abf5 MI_J0_length_8abf5 hl hw rfl ⟨rfl, rfl⟩ ⟨hR.1, by have := hR.2; show 8 + (1 + 11) + 20 ≤ _; omega⟩ hcs rfl rfl h8 hd (fun r hr => by cases hr; exact kk))
theorem GR_scharT {ce sl : Nat} (hC : GC P X own cc nL R0) {w : Nat} {j : Int32} {F : Int32 → Option α} (hw : w < g_ns P) (hlt : (g_tx P w).length < 2 ^ 31) (hl : Cond.methodLink own i yJ0_charAt_5068e ∈ g_w) (hR : 4 ≤ R0.frames ∧ 110 ≤ R0.locals) (hcs : ce ≤ R0.cells ∧ sl ≤ R0.slots) (h8 : (st.map fun v => v.category).sum ≤ 8) (hd : decode cc pc = .ok (.invokevirtual i, 3)) (kk : ∀ v : Int32, GR P X Qf ce sl (F v) (pc + 3) L (.int v :: st) g x) : GR P X Qf ce sl ((g_scharT P w j).bind F) pc L (.int j :: gsr P w :: st) g x :=
  GR_callZP (As := [.int j]) hC (k_charAt hw hlt) MY_J0_charAt_5068e MI_J0_charAt_5068e hl hw rfl ⟨rfl, rfl⟩ ⟨hR.1, by have := hR.2; show 8 + (2 + 11) + 64 ≤ _; omega⟩ hcs rfl rfl h8 hd (fun r _ => kk r)
theorem GR_slen (hC : GC P X own cc nL R0) {w : Nat} (hw : w < 10) {F : Int32 → Option α} (hl : Cond.methodLink own i yJ0_length_8abf5 ∈ g_w) (hR : 2 ≤ R0.frames ∧ 60 ≤ R0.locals) (h8 : (st.map fun v => v.category).sum ≤ 8) (hd : decode cc pc = .ok (.invokevirtual i, 3)) (kk : ∀ v : Int32, GR P X Qf 0 0 (F v) (pc + 3) L (.int v :: st) g x) : GR P X Qf 0 0 ((g_slen w).bind F) pc L (gsr P w :: st) g x := by
  rw [g_slen_T (P := P) hw]
  exact GR_slenT hC (Nat.lt_of_lt_of_le (by omega) g_ns_13) hl hR ⟨Nat.zero_le _, Nat.zero_le _⟩ h8 hd (kk _)
theorem GR_schar (hC : GC P X own cc nL R0) {w : Nat} (hw : w < 10) {j : Int32} {F : Int32 → Option α} (hl : Cond.methodLink own i yJ0_charAt_5068e ∈ g_w) (hR : 4 ≤ R0.frames ∧ 110 ≤ R0.locals) (h8 : (st.map fun v => v.category).sum ≤ 8) (hd : decode cc pc = .ok (.invokevirtual i, 3)) (kk : ∀ v : Int32, GR P X Qf 0 0 (F v) (pc + 3) L (.int v :: st) g x) : GR P X Qf 0 0 ((g_schar w j).bind F) pc L (.int j :: gsr P w :: st) g x := by
  rw [g_schar_T (P := P) hw]
  exact GR_scharT hC (Nat.lt_of_lt_of_le (by omega) g_ns_13) (g_tx_lt hw) hl hR ⟨Nat.zero_le _, Nat.zero_le _⟩ h8 hd kk
end GSTR2
