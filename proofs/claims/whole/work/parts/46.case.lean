/-! ===== the law's cases ===== -/
theorem g_lcmp_self (v : Int64) : lg_cmp v v = 0 := by unfold lg_cmp; simp
section GLC
variable {P : GP} {X : GX} {own : String} {cc : ByteArray} {nL : Nat} {R0 : Room} {α : Type} {Qf : α → State → Prop} {ce sl pc : Nat} {L : List (Option Value)} {st : List Value} {g : GM} {x : GE} {E : Option α}
theorem GR.wide {k n : Nat} (kk : GR P X Qf (ce + k) (sl + n) E pc L st g x) : GR P X Qf ce sl E pc L st g x := fun a ha H locs ls hl hP hS => W.widen (Nat.le_add_right _ _) (Nat.le_add_right _ _) (kk a ha H locs ls hl hP hS)
theorem GR_icmp_eqT (hC : GC P X own cc nL R0) {v w : Int32} (h : v = w) {off : Int} {tgt : Nat} (hd : decode cc pc = .ok (.if_icmp .eq off, 3)) (ht : (pc : Int) + off = (tgt : Int)) (kt : GR P X Qf ce sl E tgt L st g x) : GR P X Qf ce sl E pc L (.int w :: .int v :: st) g x :=
  GR.eq (E' := if v = w then E else none) (by rw [if_pos h]) (GR_icmp_eq hC hd ht kt GR.none)
theorem GR_if_eqT (hC : GC P X own cc nL R0) {v : Int32} (h : v = 0) {off : Int} {tgt : Nat} (hd : decode cc pc = .ok (.ifCond .eq off, 3)) (ht : (pc : Int) + off = (tgt : Int)) (kt : GR P X Qf ce sl E tgt L st g x) : GR P X Qf ce sl E pc L (.int v :: st) g x :=
  GR.eq (E' := if v = 0 then E else none) (by rw [if_pos h]) (GR_if_eq hC hd ht kt GR.none)
theorem GR_if_eqF (hC : GC P X own cc nL R0) {v : Int32} (h : ¬ v = 0) {off : Int} {tgt : Nat} (hd : decode cc pc = .ok (.ifCond .eq off, 3)) (ht : (pc : Int) + off = (tgt : Int)) (kt : GR P X Qf ce sl E (pc + 3) L st g x) : GR P X Qf ce sl E pc L (.int v :: st) g x :=
  GR.eq (E' := if v = 0 then none else E) (by rw [if_neg h]) (GR_if_eq hC hd ht GR.none kt)
theorem GR_if_neT (hC : GC P X own cc nL R0) {v : Int32} (h : ¬ v = 0) {off : Int} {tgt : Nat} (hd : decode cc pc = .ok (.ifCond .ne off, 3)) (ht : (pc : Int) + off = (tgt : Int)) (kt : GR P X Qf ce sl E tgt L st g x) : GR P X Qf ce sl E pc L (.int v :: st) g x :=
  GR.eq (E' := if v = 0 then none else E) (by rw [if_neg h]) (GR_if_ne hC hd ht kt GR.none)
theorem GR_if_neF (hC : GC P X own cc nL R0) {v : Int32} (h : v = 0) {off : Int} {tgt : Nat} (hd : decode cc pc = .ok (.ifCond .ne off, 3)) (ht : (pc : Int) + off = (tgt : Int)) (kt : GR P X Qf ce sl E (pc + 3) L st g x) : GR P X Qf ce sl E pc L (.int v :: st) g x :=
  GR.eq (E' := if v = 0 then E else none) (by rw [if_pos h]) (GR_if_ne hC hd ht GR.none kt)
/-- script[i + c] -/
theorem GR_arg (hC : GC P X own cc nL R0) {b n m c : Nat} {xs : Nat → Int32} {cn : Int} (hX : va_X b n xs X.2.2.2.2.1 X.2.2.2.2.1.heap) (hb : b < X.2.2.2.2.1.heap.size) (hA : ¬ X.2.2.2.2.2.2.2.2.2.2 b) (hn : n ≤ 3072) (hm : m + c < n) (h0 : L[0]? = some (some (.ref b))) (h5 : L[5]? = some (some (.int (nI m)))) (hc : c ≤ 5) (hcv : Int32.ofInt cn = nI c) (d0 : decode cc pc = .ok (.aload_n 0, 1)) (d1 : decode cc (pc + 1) = .ok (.iload 5, 2)) (d3 : decode cc (pc + 1 + 2) = .ok (.iconst cn, 1)) (d4 : decode cc (pc + 1 + 2 + 1) = .ok (.iadd, 1)) (d5 : decode cc (pc + 1 + 2 + 1 + 1) = .ok (.iaload, 1))
    (kk : GR P X Qf ce sl E (pc + 6) L (.int (xs (m + c)) :: st) g x) : GR P X Qf ce sl E pc L st g x := by
  refine GR_aload_n hC d0 rfl h0 ?_
  refine GR_iload hC d1 h5 ?_
  refine GR_iconst hC d3 hcv ?_
  refine GR_iadd hC d4 ?_
  rw [nI_add]
  refine GR_sld hC hX hb hA (nI_in hm (by omega)) d5 ?_
  rw [nI_clamp (by omega)]
  exact kk
end GLC
theorem MYC_X11_append : g_MY yX11_append cX11_append 6 (some .int) 5 := ⟨g_w_mem (List.mem_of_getElem? (i := 1541) (by decide +kernel)) (by decide +kernel), g_w_mem (List.mem_of_getElem? (i := 108) (by decide +kernel)) (by decide +kernel), by decide +kernel, by decide +kernel, by decide +kernel⟩
theorem MIC_X11_append : Cond.instanceMethod yX11_append ∈ g_w ∧ Cond.selects yX11_append.cls yX11_append yX11_append ∈ g_w := ⟨g_w_mem (List.mem_of_getElem? (i := 1539) (by decide +kernel)) (by decide +kernel), g_w_mem (List.mem_of_getElem? (i := 1540) (by decide +kernel)) (by decide +kernel)⟩
theorem MYC_X11_thrown : g_MY yX11_thrown cX11_thrown 1 (some .int) 0 := ⟨g_w_mem (List.mem_of_getElem? (i := 1395) (by decide +kernel)) (by decide +kernel), g_w_mem (List.mem_of_getElem? (i := 108) (by decide +kernel)) (by decide +kernel), by decide +kernel, by decide +kernel, by decide +kernel⟩
theorem MIC_X11_thrown : Cond.instanceMethod yX11_thrown ∈ g_w ∧ Cond.selects yX11_thrown.cls yX11_thrown yX11_thrown ∈ g_w := ⟨g_w_mem (List.mem_of_getElem? (i := 1393) (by decide +kernel)) (by decide +kernel), g_w_mem (List.mem_of_getElem? (i := 1394) (by decide +kernel)) (by decide +kernel)⟩
theorem MYC_X11_truncate : g_MY yX11_truncate cX11_truncate 2 (some .int) 1 := ⟨g_w_mem (List.mem_of_getElem? (i := 1553) (by decide +kernel)) (by decide +kernel), g_w_mem (List.mem_of_getElem? (i := 108) (by decide +kernel)) (by decide +kernel), by decide +kernel, by decide +kernel, by decide +kernel⟩
theorem MIC_X11_truncate : Cond.instanceMethod yX11_truncate ∈ g_w ∧ Cond.selects yX11_truncate.cls yX11_truncate yX11_truncate ∈ g_w := ⟨g_w_mem (List.mem_of_getElem? (i := 1551) (by decide +kernel)) (by decide +kernel), g_w_mem (List.mem_of_getElem? (i := 1552) (by decide +kernel)) (by decide +kernel)⟩
theorem MYC_X11_load : g_MY yX11_load cX11_load 2 (some .int) 0 := ⟨g_w_mem (List.mem_of_getElem? (i := 1557) (by decide +kernel)) (by decide +kernel), g_w_mem (List.mem_of_getElem? (i := 108) (by decide +kernel)) (by decide +kernel), by decide +kernel, by decide +kernel, by decide +kernel⟩
theorem MIC_X11_load : Cond.instanceMethod yX11_load ∈ g_w ∧ Cond.selects yX11_load.cls yX11_load yX11_load ∈ g_w := ⟨g_w_mem (List.mem_of_getElem? (i := 1555) (by decide +kernel)) (by decide +kernel), g_w_mem (List.mem_of_getElem? (i := 1556) (by decide +kernel)) (by decide +kernel)⟩
theorem MYC_X10_errorCode : g_MY yX10_errorCode cX10_errorCode 1 (some .int) 0 := ⟨g_w_mem (List.mem_of_getElem? (i := 555) (by decide +kernel)) (by decide +kernel), g_w_mem (List.mem_of_getElem? (i := 93) (by decide +kernel)) (by decide +kernel), by decide +kernel, by decide +kernel, by decide +kernel⟩
theorem MIC_X10_errorCode : Cond.instanceMethod yX10_errorCode ∈ g_w ∧ Cond.selects yX10_errorCode.cls yX10_errorCode yX10_errorCode ∈ g_w := ⟨g_w_mem (List.mem_of_getElem? (i := 553) (by decide +kernel)) (by decide +kernel), g_w_mem (List.mem_of_getElem? (i := 554) (by decide +kernel)) (by decide +kernel)⟩
theorem MYC_X11_errorCode : g_MY yX11_errorCode cX11_errorCode 1 (some .int) 0 := ⟨g_w_mem (List.mem_of_getElem? (i := 1719) (by decide +kernel)) (by decide +kernel), g_w_mem (List.mem_of_getElem? (i := 108) (by decide +kernel)) (by decide +kernel), by decide +kernel, by decide +kernel, by decide +kernel⟩
theorem MIC_X11_errorCode : Cond.instanceMethod yX11_errorCode ∈ g_w ∧ Cond.selects yX11_errorCode.cls yX11_errorCode yX11_errorCode ∈ g_w := ⟨g_w_mem (List.mem_of_getElem? (i := 1717) (by decide +kernel)) (by decide +kernel), g_w_mem (List.mem_of_getElem? (i := 1718) (by decide +kernel)) (by decide +kernel)⟩
theorem MYC_X10_errorPosition : g_MY yX10_errorPosition cX10_errorPosition 1 (some .int) 0 := ⟨g_w_mem (List.mem_of_getElem? (i := 559) (by decide +kernel)) (by decide +kernel), g_w_mem (List.mem_of_getElem? (i := 93) (by decide +kernel)) (by decide +kernel), by decide +kernel, by decide +kernel, by decide +kernel⟩
theorem MIC_X10_errorPosition : Cond.instanceMethod yX10_errorPosition ∈ g_w ∧ Cond.selects yX10_errorPosition.cls yX10_errorPosition yX10_errorPosition ∈ g_w := ⟨g_w_mem (List.mem_of_getElem? (i := 557) (by decide +kernel)) (by decide +kernel), g_w_mem (List.mem_of_getElem? (i := 558) (by decide +kernel)) (by decide +kernel)⟩
theorem MYC_X11_errorPosition : g_MY yX11_errorPosition cX11_errorPosition 1 (some .int) 0 := ⟨g_w_mem (List.mem_of_getElem? (i := 1723) (by decide +kernel)) (by decide +kernel), g_w_mem (List.mem_of_getElem? (i := 108) (by decide +kernel)) (by decide +kernel), by decide +kernel, by decide +kernel, by decide +kernel⟩
theorem MIC_X11_errorPosition : Cond.instanceMethod yX11_errorPosition ∈ g_w ∧ Cond.selects yX11_errorPosition.cls yX11_errorPosition yX11_errorPosition ∈ g_w := ⟨g_w_mem (List.mem_of_getElem? (i := 1721) (by decide +kernel)) (by decide +kernel), g_w_mem (List.mem_of_getElem? (i := 1722) (by decide +kernel)) (by decide +kernel)⟩
theorem MYC_X10_pastureCount : g_MY yX10_pastureCount cX10_pastureCount 1 (some .int) 0 := ⟨g_w_mem (List.mem_of_getElem? (i := 563) (by decide +kernel)) (by decide +kernel), g_w_mem (List.mem_of_getElem? (i := 93) (by decide +kernel)) (by decide +kernel), by decide +kernel, by decide +kernel, by decide +kernel⟩
theorem MIC_X10_pastureCount : Cond.instanceMethod yX10_pastureCount ∈ g_w ∧ Cond.selects yX10_pastureCount.cls yX10_pastureCount yX10_pastureCount ∈ g_w := ⟨g_w_mem (List.mem_of_getElem? (i := 561) (by decide +kernel)) (by decide +kernel), g_w_mem (List.mem_of_getElem? (i := 562) (by decide +kernel)) (by decide +kernel)⟩
theorem MYC_X11_pastureCount : g_MY yX11_pastureCount cX11_pastureCount 1 (some .int) 0 := ⟨g_w_mem (List.mem_of_getElem? (i := 1727) (by decide +kernel)) (by decide +kernel), g_w_mem (List.mem_of_getElem? (i := 108) (by decide +kernel)) (by decide +kernel), by decide +kernel, by decide +kernel, by decide +kernel⟩
theorem MIC_X11_pastureCount : Cond.instanceMethod yX11_pastureCount ∈ g_w ∧ Cond.selects yX11_pastureCount.cls yX11_pastureCount yX11_pastureCount ∈ g_w := ⟨g_w_mem (List.mem_of_getElem? (i := 1725) (by decide +kernel)) (by decide +kernel), g_w_mem (List.mem_of_getElem? (i := 1726) (by decide +kernel)) (by decide +kernel)⟩
theorem MYC_X10_herdCount : g_MY yX10_herdCount cX10_herdCount 1 (some .int) 0 := ⟨g_w_mem (List.mem_of_getElem? (i := 567) (by decide +kernel)) (by decide +kernel), g_w_mem (List.mem_of_getElem? (i := 93) (by decide +kernel)) (by decide +kernel), by decide +kernel, by decide +kernel, by decide +kernel⟩
theorem MIC_X10_herdCount : Cond.instanceMethod yX10_herdCount ∈ g_w ∧ Cond.selects yX10_herdCount.cls yX10_herdCount yX10_herdCount ∈ g_w := ⟨g_w_mem (List.mem_of_getElem? (i := 565) (by decide +kernel)) (by decide +kernel), g_w_mem (List.mem_of_getElem? (i := 566) (by decide +kernel)) (by decide +kernel)⟩
theorem MYC_X11_herdCount : g_MY yX11_herdCount cX11_herdCount 1 (some .int) 0 := ⟨g_w_mem (List.mem_of_getElem? (i := 1735) (by decide +kernel)) (by decide +kernel), g_w_mem (List.mem_of_getElem? (i := 108) (by decide +kernel)) (by decide +kernel), by decide +kernel, by decide +kernel, by decide +kernel⟩
theorem MIC_X11_herdCount : Cond.instanceMethod yX11_herdCount ∈ g_w ∧ Cond.selects yX11_herdCount.cls yX11_herdCount yX11_herdCount ∈ g_w := ⟨g_w_mem (List.mem_of_getElem? (i := 1733) (by decide +kernel)) (by decide +kernel), g_w_mem (List.mem_of_getElem? (i := 1734) (by decide +kernel)) (by decide +kernel)⟩
theorem MYC_X11_capacity : g_MY yX11_capacity cX11_capacity 2 (some .int) 1 := ⟨g_w_mem (List.mem_of_getElem? (i := 1739) (by decide +kernel)) (by decide +kernel), g_w_mem (List.mem_of_getElem? (i := 108) (by decide +kernel)) (by decide +kernel), by decide +kernel, by decide +kernel, by decide +kernel⟩
theorem MIC_X11_capacity : Cond.instanceMethod yX11_capacity ∈ g_w ∧ Cond.selects yX11_capacity.cls yX11_capacity yX11_capacity ∈ g_w := ⟨g_w_mem (List.mem_of_getElem? (i := 1737) (by decide +kernel)) (by decide +kernel), g_w_mem (List.mem_of_getElem? (i := 1738) (by decide +kernel)) (by decide +kernel)⟩
theorem MYC_X11_available : g_MY yX11_available cX11_available 2 (some .int) 1 := ⟨g_w_mem (List.mem_of_getElem? (i := 1747) (by decide +kernel)) (by decide +kernel), g_w_mem (List.mem_of_getElem? (i := 108) (by decide +kernel)) (by decide +kernel), by decide +kernel, by decide +kernel, by decide +kernel⟩
theorem MIC_X11_available : Cond.instanceMethod yX11_available ∈ g_w ∧ Cond.selects yX11_available.cls yX11_available yX11_available ∈ g_w := ⟨g_w_mem (List.mem_of_getElem? (i := 1745) (by decide +kernel)) (by decide +kernel), g_w_mem (List.mem_of_getElem? (i := 1746) (by decide +kernel)) (by decide +kernel)⟩
theorem MYC_X11_maximum : g_MY yX11_maximum cX11_maximum 3 (some .int) 2 := ⟨g_w_mem (List.mem_of_getElem? (i := 1751) (by decide +kernel)) (by decide +kernel), g_w_mem (List.mem_of_getElem? (i := 108) (by decide +kernel)) (by decide +kernel), by decide +kernel, by decide +kernel, by decide +kernel⟩
theorem MIC_X11_maximum : Cond.instanceMethod yX11_maximum ∈ g_w ∧ Cond.selects yX11_maximum.cls yX11_maximum yX11_maximum ∈ g_w := ⟨g_w_mem (List.mem_of_getElem? (i := 1749) (by decide +kernel)) (by decide +kernel), g_w_mem (List.mem_of_getElem? (i := 1750) (by decide +kernel)) (by decide +kernel)⟩
theorem MYC_X11_allocation : g_MY yX11_allocation cX11_allocation 3 (some .int) 2 := ⟨g_w_mem (List.mem_of_getElem? (i := 1763) (by decide +kernel)) (by decide +kernel), g_w_mem (List.mem_of_getElem? (i := 108) (by decide +kernel)) (by decide +kernel), by decide +kernel, by decide +kernel, by decide +kernel⟩
theorem MIC_X11_allocation : Cond.instanceMethod yX11_allocation ∈ g_w ∧ Cond.selects yX11_allocation.cls yX11_allocation yX11_allocation ∈ g_w := ⟨g_w_mem (List.mem_of_getElem? (i := 1761) (by decide +kernel)) (by decide +kernel), g_w_mem (List.mem_of_getElem? (i := 1762) (by decide +kernel)) (by decide +kernel)⟩
theorem MYC_X11_need : g_MY yX11_need cX11_need 3 (some .int) 2 := ⟨g_w_mem (List.mem_of_getElem? (i := 1767) (by decide +kernel)) (by decide +kernel), g_w_mem (List.mem_of_getElem? (i := 108) (by decide +kernel)) (by decide +kernel), by decide +kernel, by decide +kernel, by decide +kernel⟩
theorem MIC_X11_need : Cond.instanceMethod yX11_need ∈ g_w ∧ Cond.selects yX11_need.cls yX11_need yX11_need ∈ g_w := ⟨g_w_mem (List.mem_of_getElem? (i := 1765) (by decide +kernel)) (by decide +kernel), g_w_mem (List.mem_of_getElem? (i := 1766) (by decide +kernel)) (by decide +kernel)⟩
theorem MYC_X11_herdNameByte : g_MY yX11_herdNameByte cX11_herdNameByte 3 (some .int) 2 := ⟨g_w_mem (List.mem_of_getElem? (i := 1771) (by decide +kernel)) (by decide +kernel), g_w_mem (List.mem_of_getElem? (i := 108) (by decide +kernel)) (by decide +kernel), by decide +kernel, by decide +kernel, by decide +kernel⟩
theorem MIC_X11_herdNameByte : Cond.instanceMethod yX11_herdNameByte ∈ g_w ∧ Cond.selects yX11_herdNameByte.cls yX11_herdNameByte yX11_herdNameByte ∈ g_w := ⟨g_w_mem (List.mem_of_getElem? (i := 1769) (by decide +kernel)) (by decide +kernel), g_w_mem (List.mem_of_getElem? (i := 1770) (by decide +kernel)) (by decide +kernel)⟩
theorem MYC_X11_pastureNameByte : g_MY yX11_pastureNameByte cX11_pastureNameByte 3 (some .int) 2 := ⟨g_w_mem (List.mem_of_getElem? (i := 1779) (by decide +kernel)) (by decide +kernel), g_w_mem (List.mem_of_getElem? (i := 108) (by decide +kernel)) (by decide +kernel), by decide +kernel, by decide +kernel, by decide +kernel⟩
theorem MIC_X11_pastureNameByte : Cond.instanceMethod yX11_pastureNameByte ∈ g_w ∧ Cond.selects yX11_pastureNameByte.cls yX11_pastureNameByte yX11_pastureNameByte ∈ g_w := ⟨g_w_mem (List.mem_of_getElem? (i := 1777) (by decide +kernel)) (by decide +kernel), g_w_mem (List.mem_of_getElem? (i := 1778) (by decide +kernel)) (by decide +kernel)⟩
theorem MYC_X11_findHerd : g_MY yX11_findHerd cX11_findHerd 2 (some .int) 0 := ⟨g_w_mem (List.mem_of_getElem? (i := 1783) (by decide +kernel)) (by decide +kernel), g_w_mem (List.mem_of_getElem? (i := 108) (by decide +kernel)) (by decide +kernel), by decide +kernel, by decide +kernel, by decide +kernel⟩
theorem MIC_X11_findHerd : Cond.instanceMethod yX11_findHerd ∈ g_w ∧ Cond.selects yX11_findHerd.cls yX11_findHerd yX11_findHerd ∈ g_w := ⟨g_w_mem (List.mem_of_getElem? (i := 1781) (by decide +kernel)) (by decide +kernel), g_w_mem (List.mem_of_getElem? (i := 1782) (by decide +kernel)) (by decide +kernel)⟩
theorem MYC_X10_isSafe : g_MY yX10_isSafe cX10_isSafe 1 (some .boolean) 0 := ⟨g_w_mem (List.mem_of_getElem? (i := 571) (by decide +kernel)) (by decide +kernel), g_w_mem (List.mem_of_getElem? (i := 93) (by decide +kernel)) (by decide +kernel), by decide +kernel, by decide +kernel, by decide +kernel⟩
theorem MIC_X10_isSafe : Cond.instanceMethod yX10_isSafe ∈ g_w ∧ Cond.selects yX10_isSafe.cls yX10_isSafe yX10_isSafe ∈ g_w := ⟨g_w_mem (List.mem_of_getElem? (i := 569) (by decide +kernel)) (by decide +kernel), g_w_mem (List.mem_of_getElem? (i := 570) (by decide +kernel)) (by decide +kernel)⟩
theorem MYC_X11_isSafe : g_MY yX11_isSafe cX11_isSafe 1 (some .boolean) 0 := ⟨g_w_mem (List.mem_of_getElem? (i := 1787) (by decide +kernel)) (by decide +kernel), g_w_mem (List.mem_of_getElem? (i := 108) (by decide +kernel)) (by decide +kernel), by decide +kernel, by decide +kernel, by decide +kernel⟩
theorem MIC_X11_isSafe : Cond.instanceMethod yX11_isSafe ∈ g_w ∧ Cond.selects yX11_isSafe.cls yX11_isSafe yX11_isSafe ∈ g_w := ⟨g_w_mem (List.mem_of_getElem? (i := 1785) (by decide +kernel)) (by decide +kernel), g_w_mem (List.mem_of_getElem? (i := 1786) (by decide +kernel)) (by decide +kernel)⟩
theorem MYC_X10_safeOrder : g_MY yX10_safeOrder cX10_safeOrder 2 (some .int) 1 := ⟨g_w_mem (List.mem_of_getElem? (i := 594) (by decide +kernel)) (by decide +kernel), g_w_mem (List.mem_of_getElem? (i := 93) (by decide +kernel)) (by decide +kernel), by decide +kernel, by decide +kernel, by decide +kernel⟩
theorem MIC_X10_safeOrder : Cond.instanceMethod yX10_safeOrder ∈ g_w ∧ Cond.selects yX10_safeOrder.cls yX10_safeOrder yX10_safeOrder ∈ g_w := ⟨g_w_mem (List.mem_of_getElem? (i := 592) (by decide +kernel)) (by decide +kernel), g_w_mem (List.mem_of_getElem? (i := 593) (by decide +kernel)) (by decide +kernel)⟩
theorem MYC_X11_safeOrder : g_MY yX11_safeOrder cX11_safeOrder 2 (some .int) 1 := ⟨g_w_mem (List.mem_of_getElem? (i := 1791) (by decide +kernel)) (by decide +kernel), g_w_mem (List.mem_of_getElem? (i := 108) (by decide +kernel)) (by decide +kernel), by decide +kernel, by decide +kernel, by decide +kernel⟩
theorem MIC_X11_safeOrder : Cond.instanceMethod yX11_safeOrder ∈ g_w ∧ Cond.selects yX11_safeOrder.cls yX11_safeOrder yX11_safeOrder ∈ g_w := ⟨g_w_mem (List.mem_of_getElem? (i := 1789) (by decide +kernel)) (by decide +kernel), g_w_mem (List.mem_of_getElem? (i := 1790) (by decide +kernel)) (by decide +kernel)⟩
theorem MYC_X11_canFinish : g_MY yX11_canFinish cX11_canFinish 2 (some .boolean) 1 := ⟨g_w_mem (List.mem_of_getElem? (i := 1795) (by decide +kernel)) (by decide +kernel), g_w_mem (List.mem_of_getElem? (i := 108) (by decide +kernel)) (by decide +kernel), by decide +kernel, by decide +kernel, by decide +kernel⟩
theorem MIC_X11_canFinish : Cond.instanceMethod yX11_canFinish ∈ g_w ∧ Cond.selects yX11_canFinish.cls yX11_canFinish yX11_canFinish ∈ g_w := ⟨g_w_mem (List.mem_of_getElem? (i := 1793) (by decide +kernel)) (by decide +kernel), g_w_mem (List.mem_of_getElem? (i := 1794) (by decide +kernel)) (by decide +kernel)⟩
theorem MYC_X11_whyNotGranted : g_MY yX11_whyNotGranted cX11_whyNotGranted 4 (some .int) 3 := ⟨g_w_mem (List.mem_of_getElem? (i := 1799) (by decide +kernel)) (by decide +kernel), g_w_mem (List.mem_of_getElem? (i := 108) (by decide +kernel)) (by decide +kernel), by decide +kernel, by decide +kernel, by decide +kernel⟩
theorem MIC_X11_whyNotGranted : Cond.instanceMethod yX11_whyNotGranted ∈ g_w ∧ Cond.selects yX11_whyNotGranted.cls yX11_whyNotGranted yX11_whyNotGranted ∈ g_w := ⟨g_w_mem (List.mem_of_getElem? (i := 1797) (by decide +kernel)) (by decide +kernel), g_w_mem (List.mem_of_getElem? (i := 1798) (by decide +kernel)) (by decide +kernel)⟩
theorem MYC_X11_largestGrant : g_MY yX11_largestGrant cX11_largestGrant 4 (some .int) 2 := ⟨g_w_mem (List.mem_of_getElem? (i := 1807) (by decide +kernel)) (by decide +kernel), g_w_mem (List.mem_of_getElem? (i := 108) (by decide +kernel)) (by decide +kernel), by decide +kernel, by decide +kernel, by decide +kernel⟩
theorem MIC_X11_largestGrant : Cond.instanceMethod yX11_largestGrant ∈ g_w ∧ Cond.selects yX11_largestGrant.cls yX11_largestGrant yX11_largestGrant ∈ g_w := ⟨g_w_mem (List.mem_of_getElem? (i := 1805) (by decide +kernel)) (by decide +kernel), g_w_mem (List.mem_of_getElem? (i := 1806) (by decide +kernel)) (by decide +kernel)⟩
theorem MYC_X11_safeCapacity : g_MY yX11_safeCapacity cX11_safeCapacity 5 (some .int) 1 := ⟨g_w_mem (List.mem_of_getElem? (i := 1811) (by decide +kernel)) (by decide +kernel), g_w_mem (List.mem_of_getElem? (i := 108) (by decide +kernel)) (by decide +kernel), by decide +kernel, by decide +kernel, by decide +kernel⟩
theorem MIC_X11_safeCapacity : Cond.instanceMethod yX11_safeCapacity ∈ g_w ∧ Cond.selects yX11_safeCapacity.cls yX11_safeCapacity yX11_safeCapacity ∈ g_w := ⟨g_w_mem (List.mem_of_getElem? (i := 1809) (by decide +kernel)) (by decide +kernel), g_w_mem (List.mem_of_getElem? (i := 1810) (by decide +kernel)) (by decide +kernel)⟩
theorem MYC_X10_bestToFinish : g_MY yX10_bestToFinish cX10_bestToFinish 1 (some .int) 0 := ⟨g_w_mem (List.mem_of_getElem? (i := 598) (by decide +kernel)) (by decide +kernel), g_w_mem (List.mem_of_getElem? (i := 93) (by decide +kernel)) (by decide +kernel), by decide +kernel, by decide +kernel, by decide +kernel⟩
theorem MIC_X10_bestToFinish : Cond.instanceMethod yX10_bestToFinish ∈ g_w ∧ Cond.selects yX10_bestToFinish.cls yX10_bestToFinish yX10_bestToFinish ∈ g_w := ⟨g_w_mem (List.mem_of_getElem? (i := 596) (by decide +kernel)) (by decide +kernel), g_w_mem (List.mem_of_getElem? (i := 597) (by decide +kernel)) (by decide +kernel)⟩
theorem MYC_X11_bestToFinish : g_MY yX11_bestToFinish cX11_bestToFinish 5 (some .int) 0 := ⟨g_w_mem (List.mem_of_getElem? (i := 1815) (by decide +kernel)) (by decide +kernel), g_w_mem (List.mem_of_getElem? (i := 108) (by decide +kernel)) (by decide +kernel), by decide +kernel, by decide +kernel, by decide +kernel⟩
theorem MIC_X11_bestToFinish : Cond.instanceMethod yX11_bestToFinish ∈ g_w ∧ Cond.selects yX11_bestToFinish.cls yX11_bestToFinish yX11_bestToFinish ∈ g_w := ⟨g_w_mem (List.mem_of_getElem? (i := 1813) (by decide +kernel)) (by decide +kernel), g_w_mem (List.mem_of_getElem? (i := 1814) (by decide +kernel)) (by decide +kernel)⟩
theorem MYC_X10_queueLength : g_MY yX10_queueLength cX10_queueLength 1 (some .int) 0 := ⟨g_w_mem (List.mem_of_getElem? (i := 642) (by decide +kernel)) (by decide +kernel), g_w_mem (List.mem_of_getElem? (i := 93) (by decide +kernel)) (by decide +kernel), by decide +kernel, by decide +kernel, by decide +kernel⟩
theorem MIC_X10_queueLength : Cond.instanceMethod yX10_queueLength ∈ g_w ∧ Cond.selects yX10_queueLength.cls yX10_queueLength yX10_queueLength ∈ g_w := ⟨g_w_mem (List.mem_of_getElem? (i := 640) (by decide +kernel)) (by decide +kernel), g_w_mem (List.mem_of_getElem? (i := 641) (by decide +kernel)) (by decide +kernel)⟩
theorem MYC_X11_queueLength : g_MY yX11_queueLength cX11_queueLength 1 (some .int) 0 := ⟨g_w_mem (List.mem_of_getElem? (i := 1819) (by decide +kernel)) (by decide +kernel), g_w_mem (List.mem_of_getElem? (i := 108) (by decide +kernel)) (by decide +kernel), by decide +kernel, by decide +kernel, by decide +kernel⟩
theorem MIC_X11_queueLength : Cond.instanceMethod yX11_queueLength ∈ g_w ∧ Cond.selects yX11_queueLength.cls yX11_queueLength yX11_queueLength ∈ g_w := ⟨g_w_mem (List.mem_of_getElem? (i := 1817) (by decide +kernel)) (by decide +kernel), g_w_mem (List.mem_of_getElem? (i := 1818) (by decide +kernel)) (by decide +kernel)⟩
theorem MYC_X10_queuedHerd : g_MY yX10_queuedHerd cX10_queuedHerd 2 (some .int) 1 := ⟨g_w_mem (List.mem_of_getElem? (i := 646) (by decide +kernel)) (by decide +kernel), g_w_mem (List.mem_of_getElem? (i := 93) (by decide +kernel)) (by decide +kernel), by decide +kernel, by decide +kernel, by decide +kernel⟩
theorem MIC_X10_queuedHerd : Cond.instanceMethod yX10_queuedHerd ∈ g_w ∧ Cond.selects yX10_queuedHerd.cls yX10_queuedHerd yX10_queuedHerd ∈ g_w := ⟨g_w_mem (List.mem_of_getElem? (i := 644) (by decide +kernel)) (by decide +kernel), g_w_mem (List.mem_of_getElem? (i := 645) (by decide +kernel)) (by decide +kernel)⟩
theorem MYC_X11_queuedHerd : g_MY yX11_queuedHerd cX11_queuedHerd 2 (some .int) 1 := ⟨g_w_mem (List.mem_of_getElem? (i := 1823) (by decide +kernel)) (by decide +kernel), g_w_mem (List.mem_of_getElem? (i := 108) (by decide +kernel)) (by decide +kernel), by decide +kernel, by decide +kernel, by decide +kernel⟩
theorem MIC_X11_queuedHerd : Cond.instanceMethod yX11_queuedHerd ∈ g_w ∧ Cond.selects yX11_queuedHerd.cls yX11_queuedHerd yX11_queuedHerd ∈ g_w := ⟨g_w_mem (List.mem_of_getElem? (i := 1821) (by decide +kernel)) (by decide +kernel), g_w_mem (List.mem_of_getElem? (i := 1822) (by decide +kernel)) (by decide +kernel)⟩
theorem MYC_X11_isWaiting : g_MY yX11_isWaiting cX11_isWaiting 2 (some .boolean) 1 := ⟨g_w_mem (List.mem_of_getElem? (i := 1827) (by decide +kernel)) (by decide +kernel), g_w_mem (List.mem_of_getElem? (i := 108) (by decide +kernel)) (by decide +kernel), by decide +kernel, by decide +kernel, by decide +kernel⟩
theorem MIC_X11_isWaiting : Cond.instanceMethod yX11_isWaiting ∈ g_w ∧ Cond.selects yX11_isWaiting.cls yX11_isWaiting yX11_isWaiting ∈ g_w := ⟨g_w_mem (List.mem_of_getElem? (i := 1825) (by decide +kernel)) (by decide +kernel), g_w_mem (List.mem_of_getElem? (i := 1826) (by decide +kernel)) (by decide +kernel)⟩
theorem MYC_X11_requestedPasture : g_MY yX11_requestedPasture cX11_requestedPasture 2 (some .int) 1 := ⟨g_w_mem (List.mem_of_getElem? (i := 1831) (by decide +kernel)) (by decide +kernel), g_w_mem (List.mem_of_getElem? (i := 108) (by decide +kernel)) (by decide +kernel), by decide +kernel, by decide +kernel, by decide +kernel⟩
theorem MIC_X11_requestedPasture : Cond.instanceMethod yX11_requestedPasture ∈ g_w ∧ Cond.selects yX11_requestedPasture.cls yX11_requestedPasture yX11_requestedPasture ∈ g_w := ⟨g_w_mem (List.mem_of_getElem? (i := 1829) (by decide +kernel)) (by decide +kernel), g_w_mem (List.mem_of_getElem? (i := 1830) (by decide +kernel)) (by decide +kernel)⟩
theorem MYC_X11_requestedAmount : g_MY yX11_requestedAmount cX11_requestedAmount 2 (some .int) 1 := ⟨g_w_mem (List.mem_of_getElem? (i := 1835) (by decide +kernel)) (by decide +kernel), g_w_mem (List.mem_of_getElem? (i := 108) (by decide +kernel)) (by decide +kernel), by decide +kernel, by decide +kernel, by decide +kernel⟩
theorem MIC_X11_requestedAmount : Cond.instanceMethod yX11_requestedAmount ∈ g_w ∧ Cond.selects yX11_requestedAmount.cls yX11_requestedAmount yX11_requestedAmount ∈ g_w := ⟨g_w_mem (List.mem_of_getElem? (i := 1833) (by decide +kernel)) (by decide +kernel), g_w_mem (List.mem_of_getElem? (i := 1834) (by decide +kernel)) (by decide +kernel)⟩
theorem MYC_X11_waitsFor : g_MY yX11_waitsFor cX11_waitsFor 4 (some .boolean) 2 := ⟨g_w_mem (List.mem_of_getElem? (i := 1839) (by decide +kernel)) (by decide +kernel), g_w_mem (List.mem_of_getElem? (i := 108) (by decide +kernel)) (by decide +kernel), by decide +kernel, by decide +kernel, by decide +kernel⟩
theorem MIC_X11_waitsFor : Cond.instanceMethod yX11_waitsFor ∈ g_w ∧ Cond.selects yX11_waitsFor.cls yX11_waitsFor yX11_waitsFor ∈ g_w := ⟨g_w_mem (List.mem_of_getElem? (i := 1837) (by decide +kernel)) (by decide +kernel), g_w_mem (List.mem_of_getElem? (i := 1838) (by decide +kernel)) (by decide +kernel)⟩
theorem MYC_X11_isDeadlocked : g_MY yX11_isDeadlocked cX11_isDeadlocked 2 (some .boolean) 1 := ⟨g_w_mem (List.mem_of_getElem? (i := 1843) (by decide +kernel)) (by decide +kernel), g_w_mem (List.mem_of_getElem? (i := 108) (by decide +kernel)) (by decide +kernel), by decide +kernel, by decide +kernel, by decide +kernel⟩
theorem MIC_X11_isDeadlocked : Cond.instanceMethod yX11_isDeadlocked ∈ g_w ∧ Cond.selects yX11_isDeadlocked.cls yX11_isDeadlocked yX11_isDeadlocked ∈ g_w := ⟨g_w_mem (List.mem_of_getElem? (i := 1841) (by decide +kernel)) (by decide +kernel), g_w_mem (List.mem_of_getElem? (i := 1842) (by decide +kernel)) (by decide +kernel)⟩
theorem MYC_X10_deadlockedCount : g_MY yX10_deadlockedCount cX10_deadlockedCount 1 (some .int) 0 := ⟨g_w_mem (List.mem_of_getElem? (i := 650) (by decide +kernel)) (by decide +kernel), g_w_mem (List.mem_of_getElem? (i := 93) (by decide +kernel)) (by decide +kernel), by decide +kernel, by decide +kernel, by decide +kernel⟩
theorem MIC_X10_deadlockedCount : Cond.instanceMethod yX10_deadlockedCount ∈ g_w ∧ Cond.selects yX10_deadlockedCount.cls yX10_deadlockedCount yX10_deadlockedCount ∈ g_w := ⟨g_w_mem (List.mem_of_getElem? (i := 648) (by decide +kernel)) (by decide +kernel), g_w_mem (List.mem_of_getElem? (i := 649) (by decide +kernel)) (by decide +kernel)⟩
theorem MYC_X11_deadlockedCount : g_MY yX11_deadlockedCount cX11_deadlockedCount 3 (some .int) 0 := ⟨g_w_mem (List.mem_of_getElem? (i := 1851) (by decide +kernel)) (by decide +kernel), g_w_mem (List.mem_of_getElem? (i := 108) (by decide +kernel)) (by decide +kernel), by decide +kernel, by decide +kernel, by decide +kernel⟩
theorem MIC_X11_deadlockedCount : Cond.instanceMethod yX11_deadlockedCount ∈ g_w ∧ Cond.selects yX11_deadlockedCount.cls yX11_deadlockedCount yX11_deadlockedCount ∈ g_w := ⟨g_w_mem (List.mem_of_getElem? (i := 1849) (by decide +kernel)) (by decide +kernel), g_w_mem (List.mem_of_getElem? (i := 1850) (by decide +kernel)) (by decide +kernel)⟩
theorem MYC_X11_debt : g_MY yX11_debt cX11_debt 3 (some .int) 2 := ⟨g_w_mem (List.mem_of_getElem? (i := 1855) (by decide +kernel)) (by decide +kernel), g_w_mem (List.mem_of_getElem? (i := 108) (by decide +kernel)) (by decide +kernel), by decide +kernel, by decide +kernel, by decide +kernel⟩
theorem MIC_X11_debt : Cond.instanceMethod yX11_debt ∈ g_w ∧ Cond.selects yX11_debt.cls yX11_debt yX11_debt ∈ g_w := ⟨g_w_mem (List.mem_of_getElem? (i := 1853) (by decide +kernel)) (by decide +kernel), g_w_mem (List.mem_of_getElem? (i := 1854) (by decide +kernel)) (by decide +kernel)⟩
theorem MYC_X11_totalDebt : g_MY yX11_totalDebt cX11_totalDebt 4 (some .int) 1 := ⟨g_w_mem (List.mem_of_getElem? (i := 1859) (by decide +kernel)) (by decide +kernel), g_w_mem (List.mem_of_getElem? (i := 108) (by decide +kernel)) (by decide +kernel), by decide +kernel, by decide +kernel, by decide +kernel⟩
theorem MIC_X11_totalDebt : Cond.instanceMethod yX11_totalDebt ∈ g_w ∧ Cond.selects yX11_totalDebt.cls yX11_totalDebt yX11_totalDebt ∈ g_w := ⟨g_w_mem (List.mem_of_getElem? (i := 1857) (by decide +kernel)) (by decide +kernel), g_w_mem (List.mem_of_getElem? (i := 1858) (by decide +kernel)) (by decide +kernel)⟩
theorem MYC_X11_totalClaims : g_MY yX11_totalClaims cX11_totalClaims 4 (some .int) 1 := ⟨g_w_mem (List.mem_of_getElem? (i := 1863) (by decide +kernel)) (by decide +kernel), g_w_mem (List.mem_of_getElem? (i := 108) (by decide +kernel)) (by decide +kernel), by decide +kernel, by decide +kernel, by decide +kernel⟩
theorem MIC_X11_totalClaims : Cond.instanceMethod yX11_totalClaims ∈ g_w ∧ Cond.selects yX11_totalClaims.cls yX11_totalClaims yX11_totalClaims ∈ g_w := ⟨g_w_mem (List.mem_of_getElem? (i := 1861) (by decide +kernel)) (by decide +kernel), g_w_mem (List.mem_of_getElem? (i := 1862) (by decide +kernel)) (by decide +kernel)⟩
theorem MYC_X11_closedCycleLength : g_MY yX11_closedCycleLength cX11_closedCycleLength 3 (some .int) 2 := ⟨g_w_mem (List.mem_of_getElem? (i := 1867) (by decide +kernel)) (by decide +kernel), g_w_mem (List.mem_of_getElem? (i := 108) (by decide +kernel)) (by decide +kernel), by decide +kernel, by decide +kernel, by decide +kernel⟩
theorem MIC_X11_closedCycleLength : Cond.instanceMethod yX11_closedCycleLength ∈ g_w ∧ Cond.selects yX11_closedCycleLength.cls yX11_closedCycleLength yX11_closedCycleLength ∈ g_w := ⟨g_w_mem (List.mem_of_getElem? (i := 1865) (by decide +kernel)) (by decide +kernel), g_w_mem (List.mem_of_getElem? (i := 1866) (by decide +kernel)) (by decide +kernel)⟩
theorem MYC_X11_debtDepth : g_MY yX11_debtDepth cX11_debtDepth 2 (some .int) 1 := ⟨g_w_mem (List.mem_of_getElem? (i := 1871) (by decide +kernel)) (by decide +kernel), g_w_mem (List.mem_of_getElem? (i := 108) (by decide +kernel)) (by decide +kernel), by decide +kernel, by decide +kernel, by decide +kernel⟩
theorem MIC_X11_debtDepth : Cond.instanceMethod yX11_debtDepth ∈ g_w ∧ Cond.selects yX11_debtDepth.cls yX11_debtDepth yX11_debtDepth ∈ g_w := ⟨g_w_mem (List.mem_of_getElem? (i := 1869) (by decide +kernel)) (by decide +kernel), g_w_mem (List.mem_of_getElem? (i := 1870) (by decide +kernel)) (by decide +kernel)⟩
theorem MYC_X11_settlementOrder : g_MY yX11_settlementOrder cX11_settlementOrder 5 (some .int) 1 := ⟨g_w_mem (List.mem_of_getElem? (i := 1879) (by decide +kernel)) (by decide +kernel), g_w_mem (List.mem_of_getElem? (i := 108) (by decide +kernel)) (by decide +kernel), by decide +kernel, by decide +kernel, by decide +kernel⟩
theorem MIC_X11_settlementOrder : Cond.instanceMethod yX11_settlementOrder ∈ g_w ∧ Cond.selects yX11_settlementOrder.cls yX11_settlementOrder yX11_settlementOrder ∈ g_w := ⟨g_w_mem (List.mem_of_getElem? (i := 1877) (by decide +kernel)) (by decide +kernel), g_w_mem (List.mem_of_getElem? (i := 1878) (by decide +kernel)) (by decide +kernel)⟩
theorem MYC_X11_transitiveClaims : g_MY yX11_transitiveClaims cX11_transitiveClaims 5 (some .int) 1 := ⟨g_w_mem (List.mem_of_getElem? (i := 1887) (by decide +kernel)) (by decide +kernel), g_w_mem (List.mem_of_getElem? (i := 108) (by decide +kernel)) (by decide +kernel), by decide +kernel, by decide +kernel, by decide +kernel⟩
theorem MIC_X11_transitiveClaims : Cond.instanceMethod yX11_transitiveClaims ∈ g_w ∧ Cond.selects yX11_transitiveClaims.cls yX11_transitiveClaims yX11_transitiveClaims ∈ g_w := ⟨g_w_mem (List.mem_of_getElem? (i := 1885) (by decide +kernel)) (by decide +kernel), g_w_mem (List.mem_of_getElem? (i := 1886) (by decide +kernel)) (by decide +kernel)⟩
theorem MYC_X10_immediateGrants : g_MY yX10_immediateGrants cX10_immediateGrants 1 (some .int) 0 := ⟨g_w_mem (List.mem_of_getElem? (i := 668) (by decide +kernel)) (by decide +kernel), g_w_mem (List.mem_of_getElem? (i := 93) (by decide +kernel)) (by decide +kernel), by decide +kernel, by decide +kernel, by decide +kernel⟩
theorem MIC_X10_immediateGrants : Cond.instanceMethod yX10_immediateGrants ∈ g_w ∧ Cond.selects yX10_immediateGrants.cls yX10_immediateGrants yX10_immediateGrants ∈ g_w := ⟨g_w_mem (List.mem_of_getElem? (i := 666) (by decide +kernel)) (by decide +kernel), g_w_mem (List.mem_of_getElem? (i := 667) (by decide +kernel)) (by decide +kernel)⟩
theorem MYC_X11_immediateGrants : g_MY yX11_immediateGrants cX11_immediateGrants 1 (some .int) 0 := ⟨g_w_mem (List.mem_of_getElem? (i := 1891) (by decide +kernel)) (by decide +kernel), g_w_mem (List.mem_of_getElem? (i := 108) (by decide +kernel)) (by decide +kernel), by decide +kernel, by decide +kernel, by decide +kernel⟩
theorem MIC_X11_immediateGrants : Cond.instanceMethod yX11_immediateGrants ∈ g_w ∧ Cond.selects yX11_immediateGrants.cls yX11_immediateGrants yX11_immediateGrants ∈ g_w := ⟨g_w_mem (List.mem_of_getElem? (i := 1889) (by decide +kernel)) (by decide +kernel), g_w_mem (List.mem_of_getElem? (i := 1890) (by decide +kernel)) (by decide +kernel)⟩
theorem MYC_X10_queuedGrants : g_MY yX10_queuedGrants cX10_queuedGrants 1 (some .int) 0 := ⟨g_w_mem (List.mem_of_getElem? (i := 672) (by decide +kernel)) (by decide +kernel), g_w_mem (List.mem_of_getElem? (i := 93) (by decide +kernel)) (by decide +kernel), by decide +kernel, by decide +kernel, by decide +kernel⟩
theorem MIC_X10_queuedGrants : Cond.instanceMethod yX10_queuedGrants ∈ g_w ∧ Cond.selects yX10_queuedGrants.cls yX10_queuedGrants yX10_queuedGrants ∈ g_w := ⟨g_w_mem (List.mem_of_getElem? (i := 670) (by decide +kernel)) (by decide +kernel), g_w_mem (List.mem_of_getElem? (i := 671) (by decide +kernel)) (by decide +kernel)⟩
theorem MYC_X11_queuedGrants : g_MY yX11_queuedGrants cX11_queuedGrants 1 (some .int) 0 := ⟨g_w_mem (List.mem_of_getElem? (i := 1895) (by decide +kernel)) (by decide +kernel), g_w_mem (List.mem_of_getElem? (i := 108) (by decide +kernel)) (by decide +kernel), by decide +kernel, by decide +kernel, by decide +kernel⟩
theorem MIC_X11_queuedGrants : Cond.instanceMethod yX11_queuedGrants ∈ g_w ∧ Cond.selects yX11_queuedGrants.cls yX11_queuedGrants yX11_queuedGrants ∈ g_w := ⟨g_w_mem (List.mem_of_getElem? (i := 1893) (by decide +kernel)) (by decide +kernel), g_w_mem (List.mem_of_getElem? (i := 1894) (by decide +kernel)) (by decide +kernel)⟩
theorem MYC_X10_queuedRequests : g_MY yX10_queuedRequests cX10_queuedRequests 1 (some .int) 0 := ⟨g_w_mem (List.mem_of_getElem? (i := 676) (by decide +kernel)) (by decide +kernel), g_w_mem (List.mem_of_getElem? (i := 93) (by decide +kernel)) (by decide +kernel), by decide +kernel, by decide +kernel, by decide +kernel⟩
theorem MIC_X10_queuedRequests : Cond.instanceMethod yX10_queuedRequests ∈ g_w ∧ Cond.selects yX10_queuedRequests.cls yX10_queuedRequests yX10_queuedRequests ∈ g_w := ⟨g_w_mem (List.mem_of_getElem? (i := 674) (by decide +kernel)) (by decide +kernel), g_w_mem (List.mem_of_getElem? (i := 675) (by decide +kernel)) (by decide +kernel)⟩
theorem MYC_X11_queuedRequests : g_MY yX11_queuedRequests cX11_queuedRequests 1 (some .int) 0 := ⟨g_w_mem (List.mem_of_getElem? (i := 1899) (by decide +kernel)) (by decide +kernel), g_w_mem (List.mem_of_getElem? (i := 108) (by decide +kernel)) (by decide +kernel), by decide +kernel, by decide +kernel, by decide +kernel⟩
theorem MIC_X11_queuedRequests : Cond.instanceMethod yX11_queuedRequests ∈ g_w ∧ Cond.selects yX11_queuedRequests.cls yX11_queuedRequests yX11_queuedRequests ∈ g_w := ⟨g_w_mem (List.mem_of_getElem? (i := 1897) (by decide +kernel)) (by decide +kernel), g_w_mem (List.mem_of_getElem? (i := 1898) (by decide +kernel)) (by decide +kernel)⟩
theorem MYC_X10_withdrawnRequests : g_MY yX10_withdrawnRequests cX10_withdrawnRequests 1 (some .int) 0 := ⟨g_w_mem (List.mem_of_getElem? (i := 680) (by decide +kernel)) (by decide +kernel), g_w_mem (List.mem_of_getElem? (i := 93) (by decide +kernel)) (by decide +kernel), by decide +kernel, by decide +kernel, by decide +kernel⟩
theorem MIC_X10_withdrawnRequests : Cond.instanceMethod yX10_withdrawnRequests ∈ g_w ∧ Cond.selects yX10_withdrawnRequests.cls yX10_withdrawnRequests yX10_withdrawnRequests ∈ g_w := ⟨g_w_mem (List.mem_of_getElem? (i := 678) (by decide +kernel)) (by decide +kernel), g_w_mem (List.mem_of_getElem? (i := 679) (by decide +kernel)) (by decide +kernel)⟩
theorem MYC_X11_withdrawnRequests : g_MY yX11_withdrawnRequests cX11_withdrawnRequests 1 (some .int) 0 := ⟨g_w_mem (List.mem_of_getElem? (i := 1903) (by decide +kernel)) (by decide +kernel), g_w_mem (List.mem_of_getElem? (i := 108) (by decide +kernel)) (by decide +kernel), by decide +kernel, by decide +kernel, by decide +kernel⟩
theorem MIC_X11_withdrawnRequests : Cond.instanceMethod yX11_withdrawnRequests ∈ g_w ∧ Cond.selects yX11_withdrawnRequests.cls yX11_withdrawnRequests yX11_withdrawnRequests ∈ g_w := ⟨g_w_mem (List.mem_of_getElem? (i := 1901) (by decide +kernel)) (by decide +kernel), g_w_mem (List.mem_of_getElem? (i := 1902) (by decide +kernel)) (by decide +kernel)⟩
theorem MYC_X10_inconsistencies : g_MY yX10_inconsistencies cX10_inconsistencies 1 (some .int) 0 := ⟨g_w_mem (List.mem_of_getElem? (i := 701) (by decide +kernel)) (by decide +kernel), g_w_mem (List.mem_of_getElem? (i := 93) (by decide +kernel)) (by decide +kernel), by decide +kernel, by decide +kernel, by decide +kernel⟩
theorem MIC_X10_inconsistencies : Cond.instanceMethod yX10_inconsistencies ∈ g_w ∧ Cond.selects yX10_inconsistencies.cls yX10_inconsistencies yX10_inconsistencies ∈ g_w := ⟨g_w_mem (List.mem_of_getElem? (i := 699) (by decide +kernel)) (by decide +kernel), g_w_mem (List.mem_of_getElem? (i := 700) (by decide +kernel)) (by decide +kernel)⟩
theorem MYC_X11_inconsistencies : g_MY yX11_inconsistencies cX11_inconsistencies 4 (some .int) 0 := ⟨g_w_mem (List.mem_of_getElem? (i := 1915) (by decide +kernel)) (by decide +kernel), g_w_mem (List.mem_of_getElem? (i := 108) (by decide +kernel)) (by decide +kernel), by decide +kernel, by decide +kernel, by decide +kernel⟩
theorem MIC_X11_inconsistencies : Cond.instanceMethod yX11_inconsistencies ∈ g_w ∧ Cond.selects yX11_inconsistencies.cls yX11_inconsistencies yX11_inconsistencies ∈ g_w := ⟨g_w_mem (List.mem_of_getElem? (i := 1913) (by decide +kernel)) (by decide +kernel), g_w_mem (List.mem_of_getElem? (i := 1914) (by decide +kernel)) (by decide +kernel)⟩
theorem MYC_X11_request : g_MY yX11_request cX11_request 6 (some .boolean) 3 := ⟨g_w_mem (List.mem_of_getElem? (i := 1923) (by decide +kernel)) (by decide +kernel), g_w_mem (List.mem_of_getElem? (i := 108) (by decide +kernel)) (by decide +kernel), by decide +kernel, by decide +kernel, by decide +kernel⟩
theorem MIC_X11_request : Cond.instanceMethod yX11_request ∈ g_w ∧ Cond.selects yX11_request.cls yX11_request yX11_request ∈ g_w := ⟨g_w_mem (List.mem_of_getElem? (i := 1921) (by decide +kernel)) (by decide +kernel), g_w_mem (List.mem_of_getElem? (i := 1922) (by decide +kernel)) (by decide +kernel)⟩
theorem MYC_X11_release : g_MY yX11_release cX11_release 5 (some .int) 3 := ⟨g_w_mem (List.mem_of_getElem? (i := 1927) (by decide +kernel)) (by decide +kernel), g_w_mem (List.mem_of_getElem? (i := 108) (by decide +kernel)) (by decide +kernel), by decide +kernel, by decide +kernel, by decide +kernel⟩
theorem MIC_X11_release : Cond.instanceMethod yX11_release ∈ g_w ∧ Cond.selects yX11_release.cls yX11_release yX11_release ∈ g_w := ⟨g_w_mem (List.mem_of_getElem? (i := 1925) (by decide +kernel)) (by decide +kernel), g_w_mem (List.mem_of_getElem? (i := 1926) (by decide +kernel)) (by decide +kernel)⟩
theorem MYC_X11_finish : g_MY yX11_finish cX11_finish 2 (some .int) 1 := ⟨g_w_mem (List.mem_of_getElem? (i := 1931) (by decide +kernel)) (by decide +kernel), g_w_mem (List.mem_of_getElem? (i := 108) (by decide +kernel)) (by decide +kernel), by decide +kernel, by decide +kernel, by decide +kernel⟩
theorem MIC_X11_finish : Cond.instanceMethod yX11_finish ∈ g_w ∧ Cond.selects yX11_finish.cls yX11_finish yX11_finish ∈ g_w := ⟨g_w_mem (List.mem_of_getElem? (i := 1929) (by decide +kernel)) (by decide +kernel), g_w_mem (List.mem_of_getElem? (i := 1930) (by decide +kernel)) (by decide +kernel)⟩
theorem MYC_X11_cancel : g_MY yX11_cancel cX11_cancel 3 (some .int) 1 := ⟨g_w_mem (List.mem_of_getElem? (i := 1935) (by decide +kernel)) (by decide +kernel), g_w_mem (List.mem_of_getElem? (i := 108) (by decide +kernel)) (by decide +kernel), by decide +kernel, by decide +kernel, by decide +kernel⟩
theorem MIC_X11_cancel : Cond.instanceMethod yX11_cancel ∈ g_w ∧ Cond.selects yX11_cancel.cls yX11_cancel yX11_cancel ∈ g_w := ⟨g_w_mem (List.mem_of_getElem? (i := 1933) (by decide +kernel)) (by decide +kernel), g_w_mem (List.mem_of_getElem? (i := 1934) (by decide +kernel)) (by decide +kernel)⟩
theorem MYC_X11_setCapacity : g_MY yX11_setCapacity cX11_setCapacity 4 (some .int) 2 := ⟨g_w_mem (List.mem_of_getElem? (i := 1939) (by decide +kernel)) (by decide +kernel), g_w_mem (List.mem_of_getElem? (i := 108) (by decide +kernel)) (by decide +kernel), by decide +kernel, by decide +kernel, by decide +kernel⟩
theorem MIC_X11_setCapacity : Cond.instanceMethod yX11_setCapacity ∈ g_w ∧ Cond.selects yX11_setCapacity.cls yX11_setCapacity yX11_setCapacity ∈ g_w := ⟨g_w_mem (List.mem_of_getElem? (i := 1937) (by decide +kernel)) (by decide +kernel), g_w_mem (List.mem_of_getElem? (i := 1938) (by decide +kernel)) (by decide +kernel)⟩
theorem MYC_X11_setMaximum : g_MY yX11_setMaximum cX11_setMaximum 5 (some .int) 3 := ⟨g_w_mem (List.mem_of_getElem? (i := 1943) (by decide +kernel)) (by decide +kernel), g_w_mem (List.mem_of_getElem? (i := 108) (by decide +kernel)) (by decide +kernel), by decide +kernel, by decide +kernel, by decide +kernel⟩
theorem MIC_X11_setMaximum : Cond.instanceMethod yX11_setMaximum ∈ g_w ∧ Cond.selects yX11_setMaximum.cls yX11_setMaximum yX11_setMaximum ∈ g_w := ⟨g_w_mem (List.mem_of_getElem? (i := 1941) (by decide +kernel)) (by decide +kernel), g_w_mem (List.mem_of_getElem? (i := 1942) (by decide +kernel)) (by decide +kernel)⟩
theorem MYC_X11_lend : g_MY yX11_lend cX11_lend 5 (some .int) 3 := ⟨g_w_mem (List.mem_of_getElem? (i := 1951) (by decide +kernel)) (by decide +kernel), g_w_mem (List.mem_of_getElem? (i := 108) (by decide +kernel)) (by decide +kernel), by decide +kernel, by decide +kernel, by decide +kernel⟩
theorem MIC_X11_lend : Cond.instanceMethod yX11_lend ∈ g_w ∧ Cond.selects yX11_lend.cls yX11_lend yX11_lend ∈ g_w := ⟨g_w_mem (List.mem_of_getElem? (i := 1949) (by decide +kernel)) (by decide +kernel), g_w_mem (List.mem_of_getElem? (i := 1950) (by decide +kernel)) (by decide +kernel)⟩
theorem MYC_X11_repay : g_MY yX11_repay cX11_repay 5 (some .int) 3 := ⟨g_w_mem (List.mem_of_getElem? (i := 1955) (by decide +kernel)) (by decide +kernel), g_w_mem (List.mem_of_getElem? (i := 108) (by decide +kernel)) (by decide +kernel), by decide +kernel, by decide +kernel, by decide +kernel⟩
theorem MIC_X11_repay : Cond.instanceMethod yX11_repay ∈ g_w ∧ Cond.selects yX11_repay.cls yX11_repay yX11_repay ∈ g_w := ⟨g_w_mem (List.mem_of_getElem? (i := 1953) (by decide +kernel)) (by decide +kernel), g_w_mem (List.mem_of_getElem? (i := 1954) (by decide +kernel)) (by decide +kernel)⟩
theorem MYC_X11_runScript : g_MY yX11_runScript cX11_runScript 4 (some .int) 0 := ⟨g_w_mem (List.mem_of_getElem? (i := 1565) (by decide +kernel)) (by decide +kernel), g_w_mem (List.mem_of_getElem? (i := 108) (by decide +kernel)) (by decide +kernel), by decide +kernel, by decide +kernel, by decide +kernel⟩
theorem MIC_X11_runScript : Cond.instanceMethod yX11_runScript ∈ g_w ∧ Cond.selects yX11_runScript.cls yX11_runScript yX11_runScript ∈ g_w := ⟨g_w_mem (List.mem_of_getElem? (i := 1563) (by decide +kernel)) (by decide +kernel), g_w_mem (List.mem_of_getElem? (i := 1564) (by decide +kernel)) (by decide +kernel)⟩
theorem MYC_X11_undo : g_MY yX11_undo cX11_undo 1 (some .int) 0 := ⟨g_w_mem (List.mem_of_getElem? (i := 1959) (by decide +kernel)) (by decide +kernel), g_w_mem (List.mem_of_getElem? (i := 108) (by decide +kernel)) (by decide +kernel), by decide +kernel, by decide +kernel, by decide +kernel⟩
theorem MIC_X11_undo : Cond.instanceMethod yX11_undo ∈ g_w ∧ Cond.selects yX11_undo.cls yX11_undo yX11_undo ∈ g_w := ⟨g_w_mem (List.mem_of_getElem? (i := 1957) (by decide +kernel)) (by decide +kernel), g_w_mem (List.mem_of_getElem? (i := 1958) (by decide +kernel)) (by decide +kernel)⟩
theorem MYC_X11_save : g_MY yX11_save cX11_save 2 (some .int) 1 := ⟨g_w_mem (List.mem_of_getElem? (i := 1963) (by decide +kernel)) (by decide +kernel), g_w_mem (List.mem_of_getElem? (i := 108) (by decide +kernel)) (by decide +kernel), by decide +kernel, by decide +kernel, by decide +kernel⟩
theorem MIC_X11_save : Cond.instanceMethod yX11_save ∈ g_w ∧ Cond.selects yX11_save.cls yX11_save yX11_save ∈ g_w := ⟨g_w_mem (List.mem_of_getElem? (i := 1961) (by decide +kernel)) (by decide +kernel), g_w_mem (List.mem_of_getElem? (i := 1962) (by decide +kernel)) (by decide +kernel)⟩
theorem MYC_X11_restore : g_MY yX11_restore cX11_restore 3 (some .int) 1 := ⟨g_w_mem (List.mem_of_getElem? (i := 1967) (by decide +kernel)) (by decide +kernel), g_w_mem (List.mem_of_getElem? (i := 108) (by decide +kernel)) (by decide +kernel), by decide +kernel, by decide +kernel, by decide +kernel⟩
theorem MIC_X11_restore : Cond.instanceMethod yX11_restore ∈ g_w ∧ Cond.selects yX11_restore.cls yX11_restore yX11_restore ∈ g_w := ⟨g_w_mem (List.mem_of_getElem? (i := 1965) (by decide +kernel)) (by decide +kernel), g_w_mem (List.mem_of_getElem? (i := 1966) (by decide +kernel)) (by decide +kernel)⟩
theorem MYC_X10_writeAllocations : g_MY yX10_writeAllocations cX10_writeAllocations 2 (some .int) 0 := ⟨g_w_mem (List.mem_of_getElem? (i := 725) (by decide +kernel)) (by decide +kernel), g_w_mem (List.mem_of_getElem? (i := 93) (by decide +kernel)) (by decide +kernel), by decide +kernel, by decide +kernel, by decide +kernel⟩
theorem MIC_X10_writeAllocations : Cond.instanceMethod yX10_writeAllocations ∈ g_w ∧ Cond.selects yX10_writeAllocations.cls yX10_writeAllocations yX10_writeAllocations ∈ g_w := ⟨g_w_mem (List.mem_of_getElem? (i := 723) (by decide +kernel)) (by decide +kernel), g_w_mem (List.mem_of_getElem? (i := 724) (by decide +kernel)) (by decide +kernel)⟩
theorem MYC_X11_writeAllocations : g_MY yX11_writeAllocations cX11_writeAllocations 4 (some .int) 0 := ⟨g_w_mem (List.mem_of_getElem? (i := 1971) (by decide +kernel)) (by decide +kernel), g_w_mem (List.mem_of_getElem? (i := 108) (by decide +kernel)) (by decide +kernel), by decide +kernel, by decide +kernel, by decide +kernel⟩
theorem MIC_X11_writeAllocations : Cond.instanceMethod yX11_writeAllocations ∈ g_w ∧ Cond.selects yX11_writeAllocations.cls yX11_writeAllocations yX11_writeAllocations ∈ g_w := ⟨g_w_mem (List.mem_of_getElem? (i := 1969) (by decide +kernel)) (by decide +kernel), g_w_mem (List.mem_of_getElem? (i := 1970) (by decide +kernel)) (by decide +kernel)⟩
theorem MYC_X11_outputByte : g_MY yX11_outputByte cX11_outputByte 2 (some .int) 1 := ⟨g_w_mem (List.mem_of_getElem? (i := 1979) (by decide +kernel)) (by decide +kernel), g_w_mem (List.mem_of_getElem? (i := 108) (by decide +kernel)) (by decide +kernel), by decide +kernel, by decide +kernel, by decide +kernel⟩
theorem MIC_X11_outputByte : Cond.instanceMethod yX11_outputByte ∈ g_w ∧ Cond.selects yX11_outputByte.cls yX11_outputByte yX11_outputByte ∈ g_w := ⟨g_w_mem (List.mem_of_getElem? (i := 1977) (by decide +kernel)) (by decide +kernel), g_w_mem (List.mem_of_getElem? (i := 1978) (by decide +kernel)) (by decide +kernel)⟩
set_option maxRecDepth 20000 in
set_option maxHeartbeats 2000000 in
theorem lc_0 {P : GP} {X : GX} {α : Type} {Qf : α → State → Prop} {E : Option α} {ce sl b n m : Nat} {xs : Nat → Int32} {g : GM} {x : GE} {g1 : GM} {x1 : GE} {k : Int32} {h1 : GM} {r1 : Int32} (hC : GC P X RL cL_law 10 room_1) (hF : g_sh P = g_full) (hf : g_on P 179) (hX : va_X b n xs X.2.2.2.2.1 X.2.2.2.2.1.heap) (hbs : b < X.2.2.2.2.1.heap.size) (hbA : ¬ X.2.2.2.2.2.2.2.2.2.2 b) (hn : n ≤ 3072) (hm : m + 6 ≤ n) (hcs : ce + 1 ≤ 601024 ∧ sl + 6 ≤ 7293033) (hL : (f_X10_append g (xs (m + 1)) (xs (m + 2)) (xs (m + 3)) (xs (m + 4)) (xs (m + 5))).bind (lw_F x false ltb_2) = some (g1, x1, k)) (hM1 : (f_X11_append g1 (xs (m + 1)) (xs (m + 2)) (xs (m + 3)) (xs (m + 4)) (xs (m + 5))) = some (h1, r1)) (hT : h1 166 9 = k) (hR : k = 0 → x1.1 0 = r1.toInt64) (kk : GR P X Qf (ce + 1) (sl + 6) E 3182 [some (.ref b), some (gr P 0), some (gr P 166), some (gr P 177), some (gr P 178), some (.int (nI m)), none, none, none, none] [] h1 x1) : GR P X Qf ce sl E 292 [some (.ref b), some (gr P 0), some (gr P 166), some (gr P 177), some (gr P 178), some (.int (nI m)), none, none, none, none] [] g x := by
  have hcs0 : ce + 1 ≤ room_1.cells ∧ sl + 6 ≤ room_1.slots := ⟨by show _ ≤ 601024; omega, by show _ ≤ 7293033; omega⟩
  refine GR_aload_n (pc := 292) hC dL_law_292 rfl rfl ?_
  refine GR_arg (pc := 293) (c := 1) hC hX hbs hbA hn (by omega) rfl rfl (by decide) rfl dL_law_293 dL_law_294 dL_law_296 dL_law_297 dL_law_298 ?_
  refine GR_arg (pc := 299) (c := 2) hC hX hbs hbA hn (by omega) rfl rfl (by decide) rfl dL_law_299 dL_law_300 dL_law_302 dL_law_303 dL_law_304 ?_
  refine GR_arg (pc := 305) (c := 3) hC hX hbs hbA hn (by omega) rfl rfl (by decide) rfl dL_law_305 dL_law_306 dL_law_308 dL_law_309 dL_law_310 ?_
  refine GR_arg (pc := 311) (c := 4) hC hX hbs hbA hn (by omega) rfl rfl (by decide) rfl dL_law_311 dL_law_312 dL_law_314 dL_law_315 dL_law_316 ?_
  refine GR_arg (pc := 317) (c := 5) hC hX hbs hbA hn (by omega) rfl rfl (by decide) rfl dL_law_317 dL_law_318 dL_law_320 dL_law_321 dL_law_322 ?_
  refine GR_aload_n (pc := 323) hC dL_law_323 rfl rfl ?_
  refine GR_callSL (pc := 324) (n := 7) (As := [gr P 0, .int (xs (m + 1)), .int (xs (m + 2)), .int (xs (m + 3)), .int (xs (m + 4)), .int (xs (m + 5)), gr P 177]) (b := (g1, x1, k)) hC (kL_append hF hf) hL ⟨g_w_mem (List.mem_of_getElem? (i := 747) (by decide +kernel)) (by decide +kernel), g_w_mem (List.mem_of_getElem? (i := 92) (by decide +kernel)) (by decide +kernel), g_w_mem (List.mem_of_getElem? (i := 746) (by decide +kernel)) (by decide +kernel), g_w_mem (List.mem_of_getElem? (i := 745) (by decide +kernel)) (by decide +kernel)⟩ ⟨by decide, by decide, by decide +kernel⟩ ⟨rfl, rfl⟩ ⟨by decide, by decide⟩ ⟨hcs.1, hcs.2⟩ rfl rfl (Nat.le_of_ble_eq_true rfl) dL_law_324 ?_
  change GR P X Qf (ce + 1) (sl + 6) E 327 [some (.ref b), some (gr P 0), some (gr P 166), some (gr P 177), some (gr P 178), some (.int (nI m)), none, none, none, none] [.int k] g1 x1
  refine GR_istore (pc := 327) (L' := [some (.ref b), some (gr P 0), some (gr P 166), some (gr P 177), some (gr P 178), some (.int (nI m)), some (.int k), none, none, none]) hC dL_law_327 (by decide) rfl rfl ?_
  refine GR_aload_n (pc := 329) hC dL_law_329 rfl rfl ?_
  refine GR_arg (pc := 330) (c := 1) hC hX hbs hbA hn (by omega) rfl rfl (by decide) rfl dL_law_330 dL_law_331 dL_law_333 dL_law_334 dL_law_335 ?_
  refine GR_arg (pc := 336) (c := 2) hC hX hbs hbA hn (by omega) rfl rfl (by decide) rfl dL_law_336 dL_law_337 dL_law_339 dL_law_340 dL_law_341 ?_
  refine GR_arg (pc := 342) (c := 3) hC hX hbs hbA hn (by omega) rfl rfl (by decide) rfl dL_law_342 dL_law_343 dL_law_345 dL_law_346 dL_law_347 ?_
  refine GR_arg (pc := 348) (c := 4) hC hX hbs hbA hn (by omega) rfl rfl (by decide) rfl dL_law_348 dL_law_349 dL_law_351 dL_law_352 dL_law_353 ?_
  refine GR_arg (pc := 354) (c := 5) hC hX hbs hbA hn (by omega) rfl rfl (by decide) rfl dL_law_354 dL_law_355 dL_law_357 dL_law_358 dL_law_359 ?_
  refine GR_callVK (pc := 360) (As := [.int (xs (m + 1)), .int (xs (m + 2)), .int (xs (m + 3)), .int (xs (m + 4)), .int (xs (m + 5))]) (b := (h1, r1)) hC (k_X11_append (hf.mono (by decide))) hM1 MYC_X11_append MIC_X11_append (g_w_mem (List.mem_of_getElem? (i := 1538) (by decide +kernel)) (by decide +kernel)) (sh_166 (hf.mono (by decide))) rfl rfl ⟨rfl, rfl⟩ ⟨by decide, by decide⟩ hcs0 rfl rfl (Nat.le_of_ble_eq_true rfl) dL_law_360 ?_
  change GR P X Qf (ce + 1) (sl + 6) E 363 [some (.ref b), some (gr P 0), some (gr P 166), some (gr P 177), some (gr P 178), some (.int (nI m)), some (.int k), none, none, none] [.int r1] h1 x1
  refine GR_istore (pc := 363) (L' := [some (.ref b), some (gr P 0), some (gr P 166), some (gr P 177), some (gr P 178), some (.int (nI m)), some (.int k), some (.int r1), none, none]) hC dL_law_363 (by decide) rfl rfl ?_
  refine GR_aload_n (pc := 365) hC dL_law_365 rfl rfl ?_
  refine GR_callVK (pc := 366) (As := []) (E0 := ((f_X11_thrown h1).map (fun r => (h1, r)))) (b := (h1, h1 166 9)) hC (k_X11_thrown (hf.mono (by decide))) rfl MYC_X11_thrown MIC_X11_thrown (g_w_mem (List.mem_of_getElem? (i := 1392) (by decide +kernel)) (by decide +kernel)) (sh_166 (hf.mono (by decide))) rfl rfl ⟨rfl, rfl⟩ ⟨by decide, by decide⟩ hcs0 rfl rfl (Nat.le_of_ble_eq_true rfl) dL_law_366 ?_
  change GR P X Qf (ce + 1) (sl + 6) E 369 [some (.ref b), some (gr P 0), some (gr P 166), some (gr P 177), some (gr P 178), some (.int (nI m)), some (.int k), some (.int r1), none, none] [.int (h1 166 9)] h1 x1
  refine GR_iload (pc := 369) hC dL_law_369 rfl ?_
  refine GR_icmp_eqT (pc := 371) (tgt := 376) hC hT dL_law_371 (by decide) ?_
  refine GR_iload (pc := 376) hC dL_law_376 rfl ?_
  by_cases hk : k = 0
  · refine GR_if_neF (pc := 378) (tgt := 393) hC hk dL_law_378 (by decide) ?_
    refine GR_aload_n (pc := 381) hC dL_law_381 rfl rfl ?_
    refine GR_iconst (pc := 382) (v := 0) hC dL_law_382 rfl ?_
    refine GR_lald (pc := 383) hC hF rfl dL_law_383 ?_
    refine GR_iload (pc := 384) hC dL_law_384 rfl ?_
    refine GR_i2l (pc := 386) hC dL_law_386 ?_
    refine GR_lcmp (pc := 387) hC dL_law_387 ?_
    refine GR_if_eqT (pc := 388) (tgt := 393) hC (by rw [hR hk]; exact g_lcmp_self _) dL_law_388 (by decide) ?_
    refine GR_goto (pc := 393) (tgt := 3182) hC dL_law_393 (by decide) ?_
    exact GR.less kk (g_le_at (And.intro rfl (And.intro rfl (And.intro rfl (And.intro rfl (And.intro rfl (And.intro rfl trivial)))))))
  · refine GR_if_neT (pc := 378) (tgt := 393) hC hk dL_law_378 (by decide) ?_
    refine GR_goto (pc := 393) (tgt := 3182) hC dL_law_393 (by decide) ?_
    exact GR.less kk (g_le_at (And.intro rfl (And.intro rfl (And.intro rfl (And.intro rfl (And.intro rfl (And.intro rfl trivial)))))))
set_option maxRecDepth 20000 in
set_option maxHeartbeats 2000000 in
theorem lc_1 {P : GP} {X : GX} {α : Type} {Qf : α → State → Prop} {E : Option α} {ce sl b n m : Nat} {xs : Nat → Int32} {g : GM} {x : GE} {g1 : GM} {x1 : GE} {k : Int32} {h1 : GM} {r1 : Int32} (hC : GC P X RL cL_law 10 room_1) (hF : g_sh P = g_full) (hf : g_on P 179) (hX : va_X b n xs X.2.2.2.2.1 X.2.2.2.2.1.heap) (hbs : b < X.2.2.2.2.1.heap.size) (hbA : ¬ X.2.2.2.2.2.2.2.2.2.2 b) (hn : n ≤ 3072) (hm : m + 6 ≤ n) (hcs : ce + 1 ≤ 601024 ∧ sl + 6 ≤ 7293033) (hL : (f_X10_truncate g (xs (m + 1))).bind (lw_F x false ltb_1) = some (g1, x1, k)) (hM1 : (f_X11_truncate g1 (xs (m + 1))) = some (h1, r1)) (hT : h1 166 9 = k) (hR : k = 0 → x1.1 0 = r1.toInt64) (kk : GR P X Qf (ce + 1) (sl + 6) E 3182 [some (.ref b), some (gr P 0), some (gr P 166), some (gr P 177), some (gr P 178), some (.int (nI m)), none, none, none, none] [] h1 x1) : GR P X Qf ce sl E 396 [some (.ref b), some (gr P 0), some (gr P 166), some (gr P 177), some (gr P 178), some (.int (nI m)), none, none, none, none] [] g x := by
  have hcs0 : ce + 1 ≤ room_1.cells ∧ sl + 6 ≤ room_1.slots := ⟨by show _ ≤ 601024; omega, by show _ ≤ 7293033; omega⟩
  refine GR_aload_n (pc := 396) hC dL_law_396 rfl rfl ?_
  refine GR_arg (pc := 397) (c := 1) hC hX hbs hbA hn (by omega) rfl rfl (by decide) rfl dL_law_397 dL_law_398 dL_law_400 dL_law_401 dL_law_402 ?_
  refine GR_aload_n (pc := 403) hC dL_law_403 rfl rfl ?_
  refine GR_callSL (pc := 404) (n := 3) (As := [gr P 0, .int (xs (m + 1)), gr P 177]) (b := (g1, x1, k)) hC (kL_truncate hF hf) hL ⟨g_w_mem (List.mem_of_getElem? (i := 827) (by decide +kernel)) (by decide +kernel), g_w_mem (List.mem_of_getElem? (i := 92) (by decide +kernel)) (by decide +kernel), g_w_mem (List.mem_of_getElem? (i := 826) (by decide +kernel)) (by decide +kernel), g_w_mem (List.mem_of_getElem? (i := 825) (by decide +kernel)) (by decide +kernel)⟩ ⟨by decide, by decide, by decide +kernel⟩ ⟨rfl, rfl⟩ ⟨by decide, by decide⟩ ⟨hcs.1, hcs.2⟩ rfl rfl (Nat.le_of_ble_eq_true rfl) dL_law_404 ?_
  change GR P X Qf (ce + 1) (sl + 6) E 407 [some (.ref b), some (gr P 0), some (gr P 166), some (gr P 177), some (gr P 178), some (.int (nI m)), none, none, none, none] [.int k] g1 x1
  refine GR_istore (pc := 407) (L' := [some (.ref b), some (gr P 0), some (gr P 166), some (gr P 177), some (gr P 178), some (.int (nI m)), some (.int k), none, none, none]) hC dL_law_407 (by decide) rfl rfl ?_
  refine GR_aload_n (pc := 409) hC dL_law_409 rfl rfl ?_
  refine GR_arg (pc := 410) (c := 1) hC hX hbs hbA hn (by omega) rfl rfl (by decide) rfl dL_law_410 dL_law_411 dL_law_413 dL_law_414 dL_law_415 ?_
  refine GR_callVK (pc := 416) (As := [.int (xs (m + 1))]) (b := (h1, r1)) hC (k_X11_truncate (hf.mono (by decide))) hM1 MYC_X11_truncate MIC_X11_truncate (g_w_mem (List.mem_of_getElem? (i := 1550) (by decide +kernel)) (by decide +kernel)) (sh_166 (hf.mono (by decide))) rfl rfl ⟨rfl, rfl⟩ ⟨by decide, by decide⟩ hcs0 rfl rfl (Nat.le_of_ble_eq_true rfl) dL_law_416 ?_
  change GR P X Qf (ce + 1) (sl + 6) E 419 [some (.ref b), some (gr P 0), some (gr P 166), some (gr P 177), some (gr P 178), some (.int (nI m)), some (.int k), none, none, none] [.int r1] h1 x1
  refine GR_istore (pc := 419) (L' := [some (.ref b), some (gr P 0), some (gr P 166), some (gr P 177), some (gr P 178), some (.int (nI m)), some (.int k), some (.int r1), none, none]) hC dL_law_419 (by decide) rfl rfl ?_
  refine GR_aload_n (pc := 421) hC dL_law_421 rfl rfl ?_
  refine GR_callVK (pc := 422) (As := []) (E0 := ((f_X11_thrown h1).map (fun r => (h1, r)))) (b := (h1, h1 166 9)) hC (k_X11_thrown (hf.mono (by decide))) rfl MYC_X11_thrown MIC_X11_thrown (g_w_mem (List.mem_of_getElem? (i := 1392) (by decide +kernel)) (by decide +kernel)) (sh_166 (hf.mono (by decide))) rfl rfl ⟨rfl, rfl⟩ ⟨by decide, by decide⟩ hcs0 rfl rfl (Nat.le_of_ble_eq_true rfl) dL_law_422 ?_
  change GR P X Qf (ce + 1) (sl + 6) E 425 [some (.ref b), some (gr P 0), some (gr P 166), some (gr P 177), some (gr P 178), some (.int (nI m)), some (.int k), some (.int r1), none, none] [.int (h1 166 9)] h1 x1
  refine GR_iload (pc := 425) hC dL_law_425 rfl ?_
  refine GR_icmp_eqT (pc := 427) (tgt := 432) hC hT dL_law_427 (by decide) ?_
  refine GR_iload (pc := 432) hC dL_law_432 rfl ?_
  by_cases hk : k = 0
  · refine GR_if_neF (pc := 434) (tgt := 449) hC hk dL_law_434 (by decide) ?_
    refine GR_aload_n (pc := 437) hC dL_law_437 rfl rfl ?_
    refine GR_iconst (pc := 438) (v := 0) hC dL_law_438 rfl ?_
    refine GR_lald (pc := 439) hC hF rfl dL_law_439 ?_
    refine GR_iload (pc := 440) hC dL_law_440 rfl ?_
    refine GR_i2l (pc := 442) hC dL_law_442 ?_
    refine GR_lcmp (pc := 443) hC dL_law_443 ?_
    refine GR_if_eqT (pc := 444) (tgt := 449) hC (by rw [hR hk]; exact g_lcmp_self _) dL_law_444 (by decide) ?_
    refine GR_goto (pc := 449) (tgt := 3182) hC dL_law_449 (by decide) ?_
    exact GR.less kk (g_le_at (And.intro rfl (And.intro rfl (And.intro rfl (And.intro rfl (And.intro rfl (And.intro rfl trivial)))))))
  · refine GR_if_neT (pc := 434) (tgt := 449) hC hk dL_law_434 (by decide) ?_
    refine GR_goto (pc := 449) (tgt := 3182) hC dL_law_449 (by decide) ?_
    exact GR.less kk (g_le_at (And.intro rfl (And.intro rfl (And.intro rfl (And.intro rfl (And.intro rfl (And.intro rfl trivial)))))))
set_option maxRecDepth 20000 in
set_option maxHeartbeats 2000000 in
theorem lc_2 {P : GP} {X : GX} {α : Type} {Qf : α → State → Prop} {E : Option α} {ce sl b n m : Nat} {xs : Nat → Int32} {g : GM} {x : GE} {g1 : GM} {x1 : GE} {k : Int32} {h1 : GM} {r1 : Int32} (hC : GC P X RL cL_law 10 room_1) (hF : g_sh P = g_full) (hf : g_on P 179) (hX : va_X b n xs X.2.2.2.2.1 X.2.2.2.2.1.heap) (hbs : b < X.2.2.2.2.1.heap.size) (hbA : ¬ X.2.2.2.2.2.2.2.2.2.2 b) (hn : n ≤ 3072) (hm : m + 6 ≤ n) (hcs : ce + 1 ≤ 601024 ∧ sl + 6 ≤ 7293033) (hL : (f_X10_load g).bind (lw_F x false ltb_1) = some (g1, x1, k)) (hM1 : (f_X11_load g1) = some (h1, r1)) (hT : h1 166 9 = k) (hR : k = 0 → x1.1 0 = r1.toInt64) (kk : GR P X Qf (ce + 1) (sl + 6) E 3182 [some (.ref b), some (gr P 0), some (gr P 166), some (gr P 177), some (gr P 178), some (.int (nI m)), none, none, none, none] [] h1 x1) : GR P X Qf ce sl E 452 [some (.ref b), some (gr P 0), some (gr P 166), some (gr P 177), some (gr P 178), some (.int (nI m)), none, none, none, none] [] g x := by
  have hcs0 : ce + 1 ≤ room_1.cells ∧ sl + 6 ≤ room_1.slots := ⟨by show _ ≤ 601024; omega, by show _ ≤ 7293033; omega⟩
  refine GR_aload_n (pc := 452) hC dL_law_452 rfl rfl ?_
  refine GR_aload_n (pc := 453) hC dL_law_453 rfl rfl ?_
  refine GR_callSL (pc := 454) (n := 2) (As := [gr P 0, gr P 177]) (b := (g1, x1, k)) hC (kL_load hF hf) hL ⟨g_w_mem (List.mem_of_getElem? (i := 851) (by decide +kernel)) (by decide +kernel), g_w_mem (List.mem_of_getElem? (i := 92) (by decide +kernel)) (by decide +kernel), g_w_mem (List.mem_of_getElem? (i := 850) (by decide +kernel)) (by decide +kernel), g_w_mem (List.mem_of_getElem? (i := 849) (by decide +kernel)) (by decide +kernel)⟩ ⟨by decide, by decide, by decide +kernel⟩ ⟨rfl, rfl⟩ ⟨by decide, by decide⟩ ⟨hcs.1, hcs.2⟩ rfl rfl (Nat.le_of_ble_eq_true rfl) dL_law_454 ?_
  change GR P X Qf (ce + 1) (sl + 6) E 457 [some (.ref b), some (gr P 0), some (gr P 166), some (gr P 177), some (gr P 178), some (.int (nI m)), none, none, none, none] [.int k] g1 x1
  refine GR_istore (pc := 457) (L' := [some (.ref b), some (gr P 0), some (gr P 166), some (gr P 177), some (gr P 178), some (.int (nI m)), some (.int k), none, none, none]) hC dL_law_457 (by decide) rfl rfl ?_
  refine GR_aload_n (pc := 459) hC dL_law_459 rfl rfl ?_
  refine GR_callVK (pc := 460) (As := []) (b := (h1, r1)) hC (k_X11_load (hf.mono (by decide))) hM1 MYC_X11_load MIC_X11_load (g_w_mem (List.mem_of_getElem? (i := 1554) (by decide +kernel)) (by decide +kernel)) (sh_166 (hf.mono (by decide))) rfl rfl ⟨rfl, rfl⟩ ⟨by decide, by decide⟩ hcs0 rfl rfl (Nat.le_of_ble_eq_true rfl) dL_law_460 ?_
  change GR P X Qf (ce + 1) (sl + 6) E 463 [some (.ref b), some (gr P 0), some (gr P 166), some (gr P 177), some (gr P 178), some (.int (nI m)), some (.int k), none, none, none] [.int r1] h1 x1
  refine GR_istore (pc := 463) (L' := [some (.ref b), some (gr P 0), some (gr P 166), some (gr P 177), some (gr P 178), some (.int (nI m)), some (.int k), some (.int r1), none, none]) hC dL_law_463 (by decide) rfl rfl ?_
  refine GR_aload_n (pc := 465) hC dL_law_465 rfl rfl ?_
  refine GR_callVK (pc := 466) (As := []) (E0 := ((f_X11_thrown h1).map (fun r => (h1, r)))) (b := (h1, h1 166 9)) hC (k_X11_thrown (hf.mono (by decide))) rfl MYC_X11_thrown MIC_X11_thrown (g_w_mem (List.mem_of_getElem? (i := 1392) (by decide +kernel)) (by decide +kernel)) (sh_166 (hf.mono (by decide))) rfl rfl ⟨rfl, rfl⟩ ⟨by decide, by decide⟩ hcs0 rfl rfl (Nat.le_of_ble_eq_true rfl) dL_law_466 ?_
  change GR P X Qf (ce + 1) (sl + 6) E 469 [some (.ref b), some (gr P 0), some (gr P 166), some (gr P 177), some (gr P 178), some (.int (nI m)), some (.int k), some (.int r1), none, none] [.int (h1 166 9)] h1 x1
  refine GR_iload (pc := 469) hC dL_law_469 rfl ?_
  refine GR_icmp_eqT (pc := 471) (tgt := 476) hC hT dL_law_471 (by decide) ?_
  refine GR_iload (pc := 476) hC dL_law_476 rfl ?_
  by_cases hk : k = 0
  · refine GR_if_neF (pc := 478) (tgt := 493) hC hk dL_law_478 (by decide) ?_
    refine GR_aload_n (pc := 481) hC dL_law_481 rfl rfl ?_
    refine GR_iconst (pc := 482) (v := 0) hC dL_law_482 rfl ?_
    refine GR_lald (pc := 483) hC hF rfl dL_law_483 ?_
    refine GR_iload (pc := 484) hC dL_law_484 rfl ?_
    refine GR_i2l (pc := 486) hC dL_law_486 ?_
    refine GR_lcmp (pc := 487) hC dL_law_487 ?_
    refine GR_if_eqT (pc := 488) (tgt := 493) hC (by rw [hR hk]; exact g_lcmp_self _) dL_law_488 (by decide) ?_
    refine GR_goto (pc := 493) (tgt := 3182) hC dL_law_493 (by decide) ?_
    exact GR.less kk (g_le_at (And.intro rfl (And.intro rfl (And.intro rfl (And.intro rfl (And.intro rfl (And.intro rfl trivial)))))))
  · refine GR_if_neT (pc := 478) (tgt := 493) hC hk dL_law_478 (by decide) ?_
    refine GR_goto (pc := 493) (tgt := 3182) hC dL_law_493 (by decide) ?_
    exact GR.less kk (g_le_at (And.intro rfl (And.intro rfl (And.intro rfl (And.intro rfl (And.intro rfl (And.intro rfl trivial)))))))
set_option maxRecDepth 20000 in
set_option maxHeartbeats 2000000 in
theorem lc_3 {P : GP} {X : GX} {α : Type} {Qf : α → State → Prop} {E : Option α} {ce sl b n m : Nat} {xs : Nat → Int32} {g : GM} {x : GE}  {h1 : GM} {r1 : Int32} {h2 : GM} {r2 : Int32} (hC : GC P X RL cL_law 10 room_1) (hF : g_sh P = g_full) (hf : g_on P 179) (hX : va_X b n xs X.2.2.2.2.1 X.2.2.2.2.1.heap) (hbs : b < X.2.2.2.2.1.heap.size) (hbA : ¬ X.2.2.2.2.2.2.2.2.2.2 b) (hn : n ≤ 3072) (hm : m + 6 ≤ n) (hcs : ce + 1 ≤ 601024 ∧ sl + 6 ≤ 7293033) (hM1 : ((f_X10_errorCode g).map (fun r => (g, r))) = some (h1, r1)) (hM2 : (f_X11_errorCode h1) = some (h2, r2)) (hR : r1 = r2) (kk : GR P X Qf (ce + 1) (sl + 6) E 3182 [some (.ref b), some (gr P 0), some (gr P 166), some (gr P 177), some (gr P 178), some (.int (nI m)), none, none, none, none] [] h2 x) : GR P X Qf ce sl E 496 [some (.ref b), some (gr P 0), some (gr P 166), some (gr P 177), some (gr P 178), some (.int (nI m)), none, none, none, none] [] g x := by
  have hcs0 : ce ≤ room_1.cells ∧ sl ≤ room_1.slots := ⟨by show _ ≤ 601024; omega, by show _ ≤ 7293033; omega⟩
  refine GR_aload_n (pc := 496) hC dL_law_496 rfl rfl ?_
  refine GR_callVK (pc := 497) (As := []) (b := (h1, r1)) hC (k_X10_errorCode (hf.mono (by decide))) hM1 MYC_X10_errorCode MIC_X10_errorCode (g_w_mem (List.mem_of_getElem? (i := 552) (by decide +kernel)) (by decide +kernel)) (sh_0 (hf.mono (by decide))) rfl rfl ⟨rfl, rfl⟩ ⟨by decide, by decide⟩ hcs0 rfl rfl (Nat.le_of_ble_eq_true rfl) dL_law_497 ?_
  change GR P X Qf (ce) (sl) E 500 [some (.ref b), some (gr P 0), some (gr P 166), some (gr P 177), some (gr P 178), some (.int (nI m)), none, none, none, none] [.int r1] h1 x
  refine GR_aload_n (pc := 500) hC dL_law_500 rfl rfl ?_
  refine GR_callVK (pc := 501) (As := []) (b := (h2, r2)) hC (k_X11_errorCode (hf.mono (by decide))) hM2 MYC_X11_errorCode MIC_X11_errorCode (g_w_mem (List.mem_of_getElem? (i := 1716) (by decide +kernel)) (by decide +kernel)) (sh_166 (hf.mono (by decide))) rfl rfl ⟨rfl, rfl⟩ ⟨by decide, by decide⟩ hcs0 rfl rfl (Nat.le_of_ble_eq_true rfl) dL_law_501 ?_
  change GR P X Qf (ce) (sl) E 504 [some (.ref b), some (gr P 0), some (gr P 166), some (gr P 177), some (gr P 178), some (.int (nI m)), none, none, none, none] [.int r2, .int r1] h2 x
  refine GR_icmp_eqT (pc := 504) (tgt := 3182) hC hR dL_law_504 (by decide) ?_
  exact GR.wide (GR.less (kk) (g_le_at (And.intro rfl (And.intro rfl (And.intro rfl (And.intro rfl (And.intro rfl (And.intro rfl trivial))))))))
set_option maxRecDepth 20000 in
set_option maxHeartbeats 2000000 in
theorem lc_4 {P : GP} {X : GX} {α : Type} {Qf : α → State → Prop} {E : Option α} {ce sl b n m : Nat} {xs : Nat → Int32} {g : GM} {x : GE}  {h1 : GM} {r1 : Int32} {h2 : GM} {r2 : Int32} (hC : GC P X RL cL_law 10 room_1) (hF : g_sh P = g_full) (hf : g_on P 179) (hX : va_X b n xs X.2.2.2.2.1 X.2.2.2.2.1.heap) (hbs : b < X.2.2.2.2.1.heap.size) (hbA : ¬ X.2.2.2.2.2.2.2.2.2.2 b) (hn : n ≤ 3072) (hm : m + 6 ≤ n) (hcs : ce + 1 ≤ 601024 ∧ sl + 6 ≤ 7293033) (hM1 : ((f_X10_errorPosition g).map (fun r => (g, r))) = some (h1, r1)) (hM2 : (f_X11_errorPosition h1) = some (h2, r2)) (hR : r1 = r2) (kk : GR P X Qf (ce + 1) (sl + 6) E 3182 [some (.ref b), some (gr P 0), some (gr P 166), some (gr P 177), some (gr P 178), some (.int (nI m)), none, none, none, none] [] h2 x) : GR P X Qf ce sl E 509 [some (.ref b), some (gr P 0), some (gr P 166), some (gr P 177), some (gr P 178), some (.int (nI m)), none, none, none, none] [] g x := by
  have hcs0 : ce ≤ room_1.cells ∧ sl ≤ room_1.slots := ⟨by show _ ≤ 601024; omega, by show _ ≤ 7293033; omega⟩
  refine GR_aload_n (pc := 509) hC dL_law_509 rfl rfl ?_
  refine GR_callVK (pc := 510) (As := []) (b := (h1, r1)) hC (k_X10_errorPosition (hf.mono (by decide))) hM1 MYC_X10_errorPosition MIC_X10_errorPosition (g_w_mem (List.mem_of_getElem? (i := 556) (by decide +kernel)) (by decide +kernel)) (sh_0 (hf.mono (by decide))) rfl rfl ⟨rfl, rfl⟩ ⟨by decide, by decide⟩ hcs0 rfl rfl (Nat.le_of_ble_eq_true rfl) dL_law_510 ?_
  change GR P X Qf (ce) (sl) E 513 [some (.ref b), some (gr P 0), some (gr P 166), some (gr P 177), some (gr P 178), some (.int (nI m)), none, none, none, none] [.int r1] h1 x
  refine GR_aload_n (pc := 513) hC dL_law_513 rfl rfl ?_
  refine GR_callVK (pc := 514) (As := []) (b := (h2, r2)) hC (k_X11_errorPosition (hf.mono (by decide))) hM2 MYC_X11_errorPosition MIC_X11_errorPosition (g_w_mem (List.mem_of_getElem? (i := 1720) (by decide +kernel)) (by decide +kernel)) (sh_166 (hf.mono (by decide))) rfl rfl ⟨rfl, rfl⟩ ⟨by decide, by decide⟩ hcs0 rfl rfl (Nat.le_of_ble_eq_true rfl) dL_law_514 ?_
  change GR P X Qf (ce) (sl) E 517 [some (.ref b), some (gr P 0), some (gr P 166), some (gr P 177), some (gr P 178), some (.int (nI m)), none, none, none, none] [.int r2, .int r1] h2 x
  refine GR_icmp_eqT (pc := 517) (tgt := 3182) hC hR dL_law_517 (by decide) ?_
  exact GR.wide (GR.less (kk) (g_le_at (And.intro rfl (And.intro rfl (And.intro rfl (And.intro rfl (And.intro rfl (And.intro rfl trivial))))))))
set_option maxRecDepth 20000 in
set_option maxHeartbeats 2000000 in
theorem lc_5 {P : GP} {X : GX} {α : Type} {Qf : α → State → Prop} {E : Option α} {ce sl b n m : Nat} {xs : Nat → Int32} {g : GM} {x : GE}  {h1 : GM} {r1 : Int32} {h2 : GM} {r2 : Int32} (hC : GC P X RL cL_law 10 room_1) (hF : g_sh P = g_full) (hf : g_on P 179) (hX : va_X b n xs X.2.2.2.2.1 X.2.2.2.2.1.heap) (hbs : b < X.2.2.2.2.1.heap.size) (hbA : ¬ X.2.2.2.2.2.2.2.2.2.2 b) (hn : n ≤ 3072) (hm : m + 6 ≤ n) (hcs : ce + 1 ≤ 601024 ∧ sl + 6 ≤ 7293033) (hM1 : ((f_X10_pastureCount g).map (fun r => (g, r))) = some (h1, r1)) (hM2 : (f_X11_pastureCount h1) = some (h2, r2)) (hR : r1 = r2) (kk : GR P X Qf (ce + 1) (sl + 6) E 3182 [some (.ref b), some (gr P 0), some (gr P 166), some (gr P 177), some (gr P 178), some (.int (nI m)), none, none, none, none] [] h2 x) : GR P X Qf ce sl E 522 [some (.ref b), some (gr P 0), some (gr P 166), some (gr P 177), some (gr P 178), some (.int (nI m)), none, none, none, none] [] g x := by
  have hcs0 : ce ≤ room_1.cells ∧ sl ≤ room_1.slots := ⟨by show _ ≤ 601024; omega, by show _ ≤ 7293033; omega⟩
  refine GR_aload_n (pc := 522) hC dL_law_522 rfl rfl ?_
  refine GR_callVK (pc := 523) (As := []) (b := (h1, r1)) hC (k_X10_pastureCount (hf.mono (by decide))) hM1 MYC_X10_pastureCount MIC_X10_pastureCount (g_w_mem (List.mem_of_getElem? (i := 560) (by decide +kernel)) (by decide +kernel)) (sh_0 (hf.mono (by decide))) rfl rfl ⟨rfl, rfl⟩ ⟨by decide, by decide⟩ hcs0 rfl rfl (Nat.le_of_ble_eq_true rfl) dL_law_523 ?_
  change GR P X Qf (ce) (sl) E 526 [some (.ref b), some (gr P 0), some (gr P 166), some (gr P 177), some (gr P 178), some (.int (nI m)), none, none, none, none] [.int r1] h1 x
  refine GR_aload_n (pc := 526) hC dL_law_526 rfl rfl ?_
  refine GR_callVK (pc := 527) (As := []) (b := (h2, r2)) hC (k_X11_pastureCount (hf.mono (by decide))) hM2 MYC_X11_pastureCount MIC_X11_pastureCount (g_w_mem (List.mem_of_getElem? (i := 1724) (by decide +kernel)) (by decide +kernel)) (sh_166 (hf.mono (by decide))) rfl rfl ⟨rfl, rfl⟩ ⟨by decide, by decide⟩ hcs0 rfl rfl (Nat.le_of_ble_eq_true rfl) dL_law_527 ?_
  change GR P X Qf (ce) (sl) E 530 [some (.ref b), some (gr P 0), some (gr P 166), some (gr P 177), some (gr P 178), some (.int (nI m)), none, none, none, none] [.int r2, .int r1] h2 x
  refine GR_icmp_eqT (pc := 530) (tgt := 3182) hC hR dL_law_530 (by decide) ?_
  exact GR.wide (GR.less (kk) (g_le_at (And.intro rfl (And.intro rfl (And.intro rfl (And.intro rfl (And.intro rfl (And.intro rfl trivial))))))))
set_option maxRecDepth 20000 in
set_option maxHeartbeats 2000000 in
theorem lc_6 {P : GP} {X : GX} {α : Type} {Qf : α → State → Prop} {E : Option α} {ce sl b n m : Nat} {xs : Nat → Int32} {g : GM} {x : GE}  {h1 : GM} {r1 : Int32} {h2 : GM} {r2 : Int32} (hC : GC P X RL cL_law 10 room_1) (hF : g_sh P = g_full) (hf : g_on P 179) (hX : va_X b n xs X.2.2.2.2.1 X.2.2.2.2.1.heap) (hbs : b < X.2.2.2.2.1.heap.size) (hbA : ¬ X.2.2.2.2.2.2.2.2.2.2 b) (hn : n ≤ 3072) (hm : m + 6 ≤ n) (hcs : ce + 1 ≤ 601024 ∧ sl + 6 ≤ 7293033) (hM1 : ((f_X10_herdCount g).map (fun r => (g, r))) = some (h1, r1)) (hM2 : (f_X11_herdCount h1) = some (h2, r2)) (hR : r1 = r2) (kk : GR P X Qf (ce + 1) (sl + 6) E 3182 [some (.ref b), some (gr P 0), some (gr P 166), some (gr P 177), some (gr P 178), some (.int (nI m)), none, none, none, none] [] h2 x) : GR P X Qf ce sl E 535 [some (.ref b), some (gr P 0), some (gr P 166), some (gr P 177), some (gr P 178), some (.int (nI m)), none, none, none, none] [] g x := by
  have hcs0 : ce ≤ room_1.cells ∧ sl ≤ room_1.slots := ⟨by show _ ≤ 601024; omega, by show _ ≤ 7293033; omega⟩
  refine GR_aload_n (pc := 535) hC dL_law_535 rfl rfl ?_
  refine GR_callVK (pc := 536) (As := []) (b := (h1, r1)) hC (k_X10_herdCount (hf.mono (by decide))) hM1 MYC_X10_herdCount MIC_X10_herdCount (g_w_mem (List.mem_of_getElem? (i := 564) (by decide +kernel)) (by decide +kernel)) (sh_0 (hf.mono (by decide))) rfl rfl ⟨rfl, rfl⟩ ⟨by decide, by decide⟩ hcs0 rfl rfl (Nat.le_of_ble_eq_true rfl) dL_law_536 ?_
  change GR P X Qf (ce) (sl) E 539 [some (.ref b), some (gr P 0), some (gr P 166), some (gr P 177), some (gr P 178), some (.int (nI m)), none, none, none, none] [.int r1] h1 x
  refine GR_aload_n (pc := 539) hC dL_law_539 rfl rfl ?_
  refine GR_callVK (pc := 540) (As := []) (b := (h2, r2)) hC (k_X11_herdCount (hf.mono (by decide))) hM2 MYC_X11_herdCount MIC_X11_herdCount (g_w_mem (List.mem_of_getElem? (i := 1732) (by decide +kernel)) (by decide +kernel)) (sh_166 (hf.mono (by decide))) rfl rfl ⟨rfl, rfl⟩ ⟨by decide, by decide⟩ hcs0 rfl rfl (Nat.le_of_ble_eq_true rfl) dL_law_540 ?_
  change GR P X Qf (ce) (sl) E 543 [some (.ref b), some (gr P 0), some (gr P 166), some (gr P 177), some (gr P 178), some (.int (nI m)), none, none, none, none] [.int r2, .int r1] h2 x
  refine GR_icmp_eqT (pc := 543) (tgt := 3182) hC hR dL_law_543 (by decide) ?_
  exact GR.wide (GR.less (kk) (g_le_at (And.intro rfl (And.intro rfl (And.intro rfl (And.intro rfl (And.intro rfl (And.intro rfl trivial))))))))
set_option maxRecDepth 20000 in
set_option maxHeartbeats 2000000 in
theorem lc_7 {P : GP} {X : GX} {α : Type} {Qf : α → State → Prop} {E : Option α} {ce sl b n m : Nat} {xs : Nat → Int32} {g : GM} {x : GE} {g1 : GM} {x1 : GE} {k : Int32} {h1 : GM} {r1 : Int32} (hC : GC P X RL cL_law 10 room_1) (hF : g_sh P = g_full) (hf : g_on P 179) (hX : va_X b n xs X.2.2.2.2.1 X.2.2.2.2.1.heap) (hbs : b < X.2.2.2.2.1.heap.size) (hbA : ¬ X.2.2.2.2.2.2.2.2.2.2 b) (hn : n ≤ 3072) (hm : m + 6 ≤ n) (hcs : ce + 1 ≤ 601024 ∧ sl + 6 ≤ 7293033) (hL : (f_X10_capacity g (xs (m + 1))).bind (lw_F x false ltb_0) = some (g1, x1, k)) (hM1 : (f_X11_capacity g1 (xs (m + 1))) = some (h1, r1)) (hT : h1 166 9 = k) (hR : k = 0 → x1.1 0 = r1.toInt64) (kk : GR P X Qf (ce + 1) (sl + 6) E 3182 [some (.ref b), some (gr P 0), some (gr P 166), some (gr P 177), some (gr P 178), some (.int (nI m)), none, none, none, none] [] h1 x1) : GR P X Qf ce sl E 548 [some (.ref b), some (gr P 0), some (gr P 166), some (gr P 177), some (gr P 178), some (.int (nI m)), none, none, none, none] [] g x := by
  have hcs0 : ce + 1 ≤ room_1.cells ∧ sl + 6 ≤ room_1.slots := ⟨by show _ ≤ 601024; omega, by show _ ≤ 7293033; omega⟩
  refine GR_aload_n (pc := 548) hC dL_law_548 rfl rfl ?_
  refine GR_arg (pc := 549) (c := 1) hC hX hbs hbA hn (by omega) rfl rfl (by decide) rfl dL_law_549 dL_law_550 dL_law_552 dL_law_553 dL_law_554 ?_
  refine GR_aload_n (pc := 555) hC dL_law_555 rfl rfl ?_
  refine GR_callSL (pc := 556) (n := 3) (As := [gr P 0, .int (xs (m + 1)), gr P 177]) (b := (g1, x1, k)) hC (kL_capacity hF hf) hL ⟨g_w_mem (List.mem_of_getElem? (i := 860) (by decide +kernel)) (by decide +kernel), g_w_mem (List.mem_of_getElem? (i := 92) (by decide +kernel)) (by decide +kernel), g_w_mem (List.mem_of_getElem? (i := 859) (by decide +kernel)) (by decide +kernel), g_w_mem (List.mem_of_getElem? (i := 858) (by decide +kernel)) (by decide +kernel)⟩ ⟨by decide, by decide, by decide +kernel⟩ ⟨rfl, rfl⟩ ⟨by decide, by decide⟩ ⟨hcs.1, hcs.2⟩ rfl rfl (Nat.le_of_ble_eq_true rfl) dL_law_556 ?_
  change GR P X Qf (ce + 1) (sl + 6) E 559 [some (.ref b), some (gr P 0), some (gr P 166), some (gr P 177), some (gr P 178), some (.int (nI m)), none, none, none, none] [.int k] g1 x1
  refine GR_istore (pc := 559) (L' := [some (.ref b), some (gr P 0), some (gr P 166), some (gr P 177), some (gr P 178), some (.int (nI m)), some (.int k), none, none, none]) hC dL_law_559 (by decide) rfl rfl ?_
  refine GR_aload_n (pc := 561) hC dL_law_561 rfl rfl ?_
  refine GR_arg (pc := 562) (c := 1) hC hX hbs hbA hn (by omega) rfl rfl (by decide) rfl dL_law_562 dL_law_563 dL_law_565 dL_law_566 dL_law_567 ?_
  refine GR_callVK (pc := 568) (As := [.int (xs (m + 1))]) (b := (h1, r1)) hC (k_X11_capacity (hf.mono (by decide))) hM1 MYC_X11_capacity MIC_X11_capacity (g_w_mem (List.mem_of_getElem? (i := 1736) (by decide +kernel)) (by decide +kernel)) (sh_166 (hf.mono (by decide))) rfl rfl ⟨rfl, rfl⟩ ⟨by decide, by decide⟩ hcs0 rfl rfl (Nat.le_of_ble_eq_true rfl) dL_law_568 ?_
  change GR P X Qf (ce + 1) (sl + 6) E 571 [some (.ref b), some (gr P 0), some (gr P 166), some (gr P 177), some (gr P 178), some (.int (nI m)), some (.int k), none, none, none] [.int r1] h1 x1
  refine GR_istore (pc := 571) (L' := [some (.ref b), some (gr P 0), some (gr P 166), some (gr P 177), some (gr P 178), some (.int (nI m)), some (.int k), some (.int r1), none, none]) hC dL_law_571 (by decide) rfl rfl ?_
  refine GR_aload_n (pc := 573) hC dL_law_573 rfl rfl ?_
  refine GR_callVK (pc := 574) (As := []) (E0 := ((f_X11_thrown h1).map (fun r => (h1, r)))) (b := (h1, h1 166 9)) hC (k_X11_thrown (hf.mono (by decide))) rfl MYC_X11_thrown MIC_X11_thrown (g_w_mem (List.mem_of_getElem? (i := 1392) (by decide +kernel)) (by decide +kernel)) (sh_166 (hf.mono (by decide))) rfl rfl ⟨rfl, rfl⟩ ⟨by decide, by decide⟩ hcs0 rfl rfl (Nat.le_of_ble_eq_true rfl) dL_law_574 ?_
  change GR P X Qf (ce + 1) (sl + 6) E 577 [some (.ref b), some (gr P 0), some (gr P 166), some (gr P 177), some (gr P 178), some (.int (nI m)), some (.int k), some (.int r1), none, none] [.int (h1 166 9)] h1 x1
  refine GR_iload (pc := 577) hC dL_law_577 rfl ?_
  refine GR_icmp_eqT (pc := 579) (tgt := 584) hC hT dL_law_579 (by decide) ?_
  refine GR_iload (pc := 584) hC dL_law_584 rfl ?_
  by_cases hk : k = 0
  · refine GR_if_neF (pc := 586) (tgt := 601) hC hk dL_law_586 (by decide) ?_
    refine GR_aload_n (pc := 589) hC dL_law_589 rfl rfl ?_
    refine GR_iconst (pc := 590) (v := 0) hC dL_law_590 rfl ?_
    refine GR_lald (pc := 591) hC hF rfl dL_law_591 ?_
    refine GR_iload (pc := 592) hC dL_law_592 rfl ?_
    refine GR_i2l (pc := 594) hC dL_law_594 ?_
    refine GR_lcmp (pc := 595) hC dL_law_595 ?_
    refine GR_if_eqT (pc := 596) (tgt := 601) hC (by rw [hR hk]; exact g_lcmp_self _) dL_law_596 (by decide) ?_
    refine GR_goto (pc := 601) (tgt := 3182) hC dL_law_601 (by decide) ?_
    exact GR.less kk (g_le_at (And.intro rfl (And.intro rfl (And.intro rfl (And.intro rfl (And.intro rfl (And.intro rfl trivial)))))))
  · refine GR_if_neT (pc := 586) (tgt := 601) hC hk dL_law_586 (by decide) ?_
    refine GR_goto (pc := 601) (tgt := 3182) hC dL_law_601 (by decide) ?_
    exact GR.less kk (g_le_at (And.intro rfl (And.intro rfl (And.intro rfl (And.intro rfl (And.intro rfl (And.intro rfl trivial)))))))
set_option maxRecDepth 20000 in
set_option maxHeartbeats 2000000 in
theorem lc_8 {P : GP} {X : GX} {α : Type} {Qf : α → State → Prop} {E : Option α} {ce sl b n m : Nat} {xs : Nat → Int32} {g : GM} {x : GE} {g1 : GM} {x1 : GE} {k : Int32} {h1 : GM} {r1 : Int32} (hC : GC P X RL cL_law 10 room_1) (hF : g_sh P = g_full) (hf : g_on P 179) (hX : va_X b n xs X.2.2.2.2.1 X.2.2.2.2.1.heap) (hbs : b < X.2.2.2.2.1.heap.size) (hbA : ¬ X.2.2.2.2.2.2.2.2.2.2 b) (hn : n ≤ 3072) (hm : m + 6 ≤ n) (hcs : ce + 1 ≤ 601024 ∧ sl + 6 ≤ 7293033) (hL : (f_X10_available g (xs (m + 1))).bind (lw_F x false ltb_0) = some (g1, x1, k)) (hM1 : (f_X11_available g1 (xs (m + 1))) = some (h1, r1)) (hT : h1 166 9 = k) (hR : k = 0 → x1.1 0 = r1.toInt64) (kk : GR P X Qf (ce + 1) (sl + 6) E 3182 [some (.ref b), some (gr P 0), some (gr P 166), some (gr P 177), some (gr P 178), some (.int (nI m)), none, none, none, none] [] h1 x1) : GR P X Qf ce sl E 604 [some (.ref b), some (gr P 0), some (gr P 166), some (gr P 177), some (gr P 178), some (.int (nI m)), none, none, none, none] [] g x := by
  have hcs0 : ce + 1 ≤ room_1.cells ∧ sl + 6 ≤ room_1.slots := ⟨by show _ ≤ 601024; omega, by show _ ≤ 7293033; omega⟩
  refine GR_aload_n (pc := 604) hC dL_law_604 rfl rfl ?_
  refine GR_arg (pc := 605) (c := 1) hC hX hbs hbA hn (by omega) rfl rfl (by decide) rfl dL_law_605 dL_law_606 dL_law_608 dL_law_609 dL_law_610 ?_
  refine GR_aload_n (pc := 611) hC dL_law_611 rfl rfl ?_
  refine GR_callSL (pc := 612) (n := 3) (As := [gr P 0, .int (xs (m + 1)), gr P 177]) (b := (g1, x1, k)) hC (kL_available hF hf) hL ⟨g_w_mem (List.mem_of_getElem? (i := 896) (by decide +kernel)) (by decide +kernel), g_w_mem (List.mem_of_getElem? (i := 92) (by decide +kernel)) (by decide +kernel), g_w_mem (List.mem_of_getElem? (i := 895) (by decide +kernel)) (by decide +kernel), g_w_mem (List.mem_of_getElem? (i := 894) (by decide +kernel)) (by decide +kernel)⟩ ⟨by decide, by decide, by decide +kernel⟩ ⟨rfl, rfl⟩ ⟨by decide, by decide⟩ ⟨hcs.1, hcs.2⟩ rfl rfl (Nat.le_of_ble_eq_true rfl) dL_law_612 ?_
  change GR P X Qf (ce + 1) (sl + 6) E 615 [some (.ref b), some (gr P 0), some (gr P 166), some (gr P 177), some (gr P 178), some (.int (nI m)), none, none, none, none] [.int k] g1 x1
  refine GR_istore (pc := 615) (L' := [some (.ref b), some (gr P 0), some (gr P 166), some (gr P 177), some (gr P 178), some (.int (nI m)), some (.int k), none, none, none]) hC dL_law_615 (by decide) rfl rfl ?_
  refine GR_aload_n (pc := 617) hC dL_law_617 rfl rfl ?_
  refine GR_arg (pc := 618) (c := 1) hC hX hbs hbA hn (by omega) rfl rfl (by decide) rfl dL_law_618 dL_law_619 dL_law_621 dL_law_622 dL_law_623 ?_
  refine GR_callVK (pc := 624) (As := [.int (xs (m + 1))]) (b := (h1, r1)) hC (k_X11_available (hf.mono (by decide))) hM1 MYC_X11_available MIC_X11_available (g_w_mem (List.mem_of_getElem? (i := 1744) (by decide +kernel)) (by decide +kernel)) (sh_166 (hf.mono (by decide))) rfl rfl ⟨rfl, rfl⟩ ⟨by decide, by decide⟩ hcs0 rfl rfl (Nat.le_of_ble_eq_true rfl) dL_law_624 ?_
  change GR P X Qf (ce + 1) (sl + 6) E 627 [some (.ref b), some (gr P 0), some (gr P 166), some (gr P 177), some (gr P 178), some (.int (nI m)), some (.int k), none, none, none] [.int r1] h1 x1
  refine GR_istore (pc := 627) (L' := [some (.ref b), some (gr P 0), some (gr P 166), some (gr P 177), some (gr P 178), some (.int (nI m)), some (.int k), some (.int r1), none, none]) hC dL_law_627 (by decide) rfl rfl ?_
  refine GR_aload_n (pc := 629) hC dL_law_629 rfl rfl ?_
  refine GR_callVK (pc := 630) (As := []) (E0 := ((f_X11_thrown h1).map (fun r => (h1, r)))) (b := (h1, h1 166 9)) hC (k_X11_thrown (hf.mono (by decide))) rfl MYC_X11_thrown MIC_X11_thrown (g_w_mem (List.mem_of_getElem? (i := 1392) (by decide +kernel)) (by decide +kernel)) (sh_166 (hf.mono (by decide))) rfl rfl ⟨rfl, rfl⟩ ⟨by decide, by decide⟩ hcs0 rfl rfl (Nat.le_of_ble_eq_true rfl) dL_law_630 ?_
  change GR P X Qf (ce + 1) (sl + 6) E 633 [some (.ref b), some (gr P 0), some (gr P 166), some (gr P 177), some (gr P 178), some (.int (nI m)), some (.int k), some (.int r1), none, none] [.int (h1 166 9)] h1 x1
  refine GR_iload (pc := 633) hC dL_law_633 rfl ?_
  refine GR_icmp_eqT (pc := 635) (tgt := 640) hC hT dL_law_635 (by decide) ?_
  refine GR_iload (pc := 640) hC dL_law_640 rfl ?_
  by_cases hk : k = 0
  · refine GR_if_neF (pc := 642) (tgt := 657) hC hk dL_law_642 (by decide) ?_
    refine GR_aload_n (pc := 645) hC dL_law_645 rfl rfl ?_
    refine GR_iconst (pc := 646) (v := 0) hC dL_law_646 rfl ?_
    refine GR_lald (pc := 647) hC hF rfl dL_law_647 ?_
    refine GR_iload (pc := 648) hC dL_law_648 rfl ?_
    refine GR_i2l (pc := 650) hC dL_law_650 ?_
    refine GR_lcmp (pc := 651) hC dL_law_651 ?_
    refine GR_if_eqT (pc := 652) (tgt := 657) hC (by rw [hR hk]; exact g_lcmp_self _) dL_law_652 (by decide) ?_
    refine GR_goto (pc := 657) (tgt := 3182) hC dL_law_657 (by decide) ?_
    exact GR.less kk (g_le_at (And.intro rfl (And.intro rfl (And.intro rfl (And.intro rfl (And.intro rfl (And.intro rfl trivial)))))))
  · refine GR_if_neT (pc := 642) (tgt := 657) hC hk dL_law_642 (by decide) ?_
    refine GR_goto (pc := 657) (tgt := 3182) hC dL_law_657 (by decide) ?_
    exact GR.less kk (g_le_at (And.intro rfl (And.intro rfl (And.intro rfl (And.intro rfl (And.intro rfl (And.intro rfl trivial)))))))
set_option maxRecDepth 20000 in
set_option maxHeartbeats 2000000 in
theorem lc_9 {P : GP} {X : GX} {α : Type} {Qf : α → State → Prop} {E : Option α} {ce sl b n m : Nat} {xs : Nat → Int32} {g : GM} {x : GE} {g1 : GM} {x1 : GE} {k : Int32} {h1 : GM} {r1 : Int32} (hC : GC P X RL cL_law 10 room_1) (hF : g_sh P = g_full) (hf : g_on P 179) (hX : va_X b n xs X.2.2.2.2.1 X.2.2.2.2.1.heap) (hbs : b < X.2.2.2.2.1.heap.size) (hbA : ¬ X.2.2.2.2.2.2.2.2.2.2 b) (hn : n ≤ 3072) (hm : m + 6 ≤ n) (hcs : ce + 1 ≤ 601024 ∧ sl + 6 ≤ 7293033) (hL : (f_X10_maximum g (xs (m + 1)) (xs (m + 2))).bind (lw_F x false ltb_0) = some (g1, x1, k)) (hM1 : (f_X11_maximum g1 (xs (m + 1)) (xs (m + 2))) = some (h1, r1)) (hT : h1 166 9 = k) (hR : k = 0 → x1.1 0 = r1.toInt64) (kk : GR P X Qf (ce + 1) (sl + 6) E 3182 [some (.ref b), some (gr P 0), some (gr P 166), some (gr P 177), some (gr P 178), some (.int (nI m)), none, none, none, none] [] h1 x1) : GR P X Qf ce sl E 660 [some (.ref b), some (gr P 0), some (gr P 166), some (gr P 177), some (gr P 178), some (.int (nI m)), none, none, none, none] [] g x := by
  have hcs0 : ce + 1 ≤ room_1.cells ∧ sl + 6 ≤ room_1.slots := ⟨by show _ ≤ 601024; omega, by show _ ≤ 7293033; omega⟩
  refine GR_aload_n (pc := 660) hC dL_law_660 rfl rfl ?_
  refine GR_arg (pc := 661) (c := 1) hC hX hbs hbA hn (by omega) rfl rfl (by decide) rfl dL_law_661 dL_law_662 dL_law_664 dL_law_665 dL_law_666 ?_
  refine GR_arg (pc := 667) (c := 2) hC hX hbs hbA hn (by omega) rfl rfl (by decide) rfl dL_law_667 dL_law_668 dL_law_670 dL_law_671 dL_law_672 ?_
  refine GR_aload_n (pc := 673) hC dL_law_673 rfl rfl ?_
  refine GR_callSL (pc := 674) (n := 4) (As := [gr P 0, .int (xs (m + 1)), .int (xs (m + 2)), gr P 177]) (b := (g1, x1, k)) hC (kL_maximum hF hf) hL ⟨g_w_mem (List.mem_of_getElem? (i := 911) (by decide +kernel)) (by decide +kernel), g_w_mem (List.mem_of_getElem? (i := 92) (by decide +kernel)) (by decide +kernel), g_w_mem (List.mem_of_getElem? (i := 910) (by decide +kernel)) (by decide +kernel), g_w_mem (List.mem_of_getElem? (i := 909) (by decide +kernel)) (by decide +kernel)⟩ ⟨by decide, by decide, by decide +kernel⟩ ⟨rfl, rfl⟩ ⟨by decide, by decide⟩ ⟨hcs.1, hcs.2⟩ rfl rfl (Nat.le_of_ble_eq_true rfl) dL_law_674 ?_
  change GR P X Qf (ce + 1) (sl + 6) E 677 [some (.ref b), some (gr P 0), some (gr P 166), some (gr P 177), some (gr P 178), some (.int (nI m)), none, none, none, none] [.int k] g1 x1
  refine GR_istore (pc := 677) (L' := [some (.ref b), some (gr P 0), some (gr P 166), some (gr P 177), some (gr P 178), some (.int (nI m)), some (.int k), none, none, none]) hC dL_law_677 (by decide) rfl rfl ?_
  refine GR_aload_n (pc := 679) hC dL_law_679 rfl rfl ?_
  refine GR_arg (pc := 680) (c := 1) hC hX hbs hbA hn (by omega) rfl rfl (by decide) rfl dL_law_680 dL_law_681 dL_law_683 dL_law_684 dL_law_685 ?_
  refine GR_arg (pc := 686) (c := 2) hC hX hbs hbA hn (by omega) rfl rfl (by decide) rfl dL_law_686 dL_law_687 dL_law_689 dL_law_690 dL_law_691 ?_
  refine GR_callVK (pc := 692) (As := [.int (xs (m + 1)), .int (xs (m + 2))]) (b := (h1, r1)) hC (k_X11_maximum (hf.mono (by decide))) hM1 MYC_X11_maximum MIC_X11_maximum (g_w_mem (List.mem_of_getElem? (i := 1748) (by decide +kernel)) (by decide +kernel)) (sh_166 (hf.mono (by decide))) rfl rfl ⟨rfl, rfl⟩ ⟨by decide, by decide⟩ hcs0 rfl rfl (Nat.le_of_ble_eq_true rfl) dL_law_692 ?_
  change GR P X Qf (ce + 1) (sl + 6) E 695 [some (.ref b), some (gr P 0), some (gr P 166), some (gr P 177), some (gr P 178), some (.int (nI m)), some (.int k), none, none, none] [.int r1] h1 x1
  refine GR_istore (pc := 695) (L' := [some (.ref b), some (gr P 0), some (gr P 166), some (gr P 177), some (gr P 178), some (.int (nI m)), some (.int k), some (.int r1), none, none]) hC dL_law_695 (by decide) rfl rfl ?_
  refine GR_aload_n (pc := 697) hC dL_law_697 rfl rfl ?_
  refine GR_callVK (pc := 698) (As := []) (E0 := ((f_X11_thrown h1).map (fun r => (h1, r)))) (b := (h1, h1 166 9)) hC (k_X11_thrown (hf.mono (by decide))) rfl MYC_X11_thrown MIC_X11_thrown (g_w_mem (List.mem_of_getElem? (i := 1392) (by decide +kernel)) (by decide +kernel)) (sh_166 (hf.mono (by decide))) rfl rfl ⟨rfl, rfl⟩ ⟨by decide, by decide⟩ hcs0 rfl rfl (Nat.le_of_ble_eq_true rfl) dL_law_698 ?_
  change GR P X Qf (ce + 1) (sl + 6) E 701 [some (.ref b), some (gr P 0), some (gr P 166), some (gr P 177), some (gr P 178), some (.int (nI m)), some (.int k), some (.int r1), none, none] [.int (h1 166 9)] h1 x1
  refine GR_iload (pc := 701) hC dL_law_701 rfl ?_
  refine GR_icmp_eqT (pc := 703) (tgt := 708) hC hT dL_law_703 (by decide) ?_
  refine GR_iload (pc := 708) hC dL_law_708 rfl ?_
  by_cases hk : k = 0
  · refine GR_if_neF (pc := 710) (tgt := 725) hC hk dL_law_710 (by decide) ?_
    refine GR_aload_n (pc := 713) hC dL_law_713 rfl rfl ?_
    refine GR_iconst (pc := 714) (v := 0) hC dL_law_714 rfl ?_
    refine GR_lald (pc := 715) hC hF rfl dL_law_715 ?_
    refine GR_iload (pc := 716) hC dL_law_716 rfl ?_
    refine GR_i2l (pc := 718) hC dL_law_718 ?_
    refine GR_lcmp (pc := 719) hC dL_law_719 ?_
    refine GR_if_eqT (pc := 720) (tgt := 725) hC (by rw [hR hk]; exact g_lcmp_self _) dL_law_720 (by decide) ?_
    refine GR_goto (pc := 725) (tgt := 3182) hC dL_law_725 (by decide) ?_
    exact GR.less kk (g_le_at (And.intro rfl (And.intro rfl (And.intro rfl (And.intro rfl (And.intro rfl (And.intro rfl trivial)))))))
  · refine GR_if_neT (pc := 710) (tgt := 725) hC hk dL_law_710 (by decide) ?_
    refine GR_goto (pc := 725) (tgt := 3182) hC dL_law_725 (by decide) ?_
    exact GR.less kk (g_le_at (And.intro rfl (And.intro rfl (And.intro rfl (And.intro rfl (And.intro rfl (And.intro rfl trivial)))))))
set_option maxRecDepth 20000 in
set_option maxHeartbeats 2000000 in
theorem lc_10 {P : GP} {X : GX} {α : Type} {Qf : α → State → Prop} {E : Option α} {ce sl b n m : Nat} {xs : Nat → Int32} {g : GM} {x : GE} {g1 : GM} {x1 : GE} {k : Int32} {h1 : GM} {r1 : Int32} (hC : GC P X RL cL_law 10 room_1) (hF : g_sh P = g_full) (hf : g_on P 179) (hX : va_X b n xs X.2.2.2.2.1 X.2.2.2.2.1.heap) (hbs : b < X.2.2.2.2.1.heap.size) (hbA : ¬ X.2.2.2.2.2.2.2.2.2.2 b) (hn : n ≤ 3072) (hm : m + 6 ≤ n) (hcs : ce + 1 ≤ 601024 ∧ sl + 6 ≤ 7293033) (hL : (f_X10_allocation g (xs (m + 1)) (xs (m + 2))).bind (lw_F x false ltb_0) = some (g1, x1, k)) (hM1 : (f_X11_allocation g1 (xs (m + 1)) (xs (m + 2))) = some (h1, r1)) (hT : h1 166 9 = k) (hR : k = 0 → x1.1 0 = r1.toInt64) (kk : GR P X Qf (ce + 1) (sl + 6) E 3182 [some (.ref b), some (gr P 0), some (gr P 166), some (gr P 177), some (gr P 178), some (.int (nI m)), none, none, none, none] [] h1 x1) : GR P X Qf ce sl E 728 [some (.ref b), some (gr P 0), some (gr P 166), some (gr P 177), some (gr P 178), some (.int (nI m)), none, none, none, none] [] g x := by
  have hcs0 : ce + 1 ≤ room_1.cells ∧ sl + 6 ≤ room_1.slots := ⟨by show _ ≤ 601024; omega, by show _ ≤ 7293033; omega⟩
  refine GR_aload_n (pc := 728) hC dL_law_728 rfl rfl ?_
  refine GR_arg (pc := 729) (c := 1) hC hX hbs hbA hn (by omega) rfl rfl (by decide) rfl dL_law_729 dL_law_730 dL_law_732 dL_law_733 dL_law_734 ?_
  refine GR_arg (pc := 735) (c := 2) hC hX hbs hbA hn (by omega) rfl rfl (by decide) rfl dL_law_735 dL_law_736 dL_law_738 dL_law_739 dL_law_740 ?_
  refine GR_aload_n (pc := 741) hC dL_law_741 rfl rfl ?_
  refine GR_callSL (pc := 742) (n := 4) (As := [gr P 0, .int (xs (m + 1)), .int (xs (m + 2)), gr P 177]) (b := (g1, x1, k)) hC (kL_allocation hF hf) hL ⟨g_w_mem (List.mem_of_getElem? (i := 921) (by decide +kernel)) (by decide +kernel), g_w_mem (List.mem_of_getElem? (i := 92) (by decide +kernel)) (by decide +kernel), g_w_mem (List.mem_of_getElem? (i := 920) (by decide +kernel)) (by decide +kernel), g_w_mem (List.mem_of_getElem? (i := 919) (by decide +kernel)) (by decide +kernel)⟩ ⟨by decide, by decide, by decide +kernel⟩ ⟨rfl, rfl⟩ ⟨by decide, by decide⟩ ⟨hcs.1, hcs.2⟩ rfl rfl (Nat.le_of_ble_eq_true rfl) dL_law_742 ?_
  change GR P X Qf (ce + 1) (sl + 6) E 745 [some (.ref b), some (gr P 0), some (gr P 166), some (gr P 177), some (gr P 178), some (.int (nI m)), none, none, none, none] [.int k] g1 x1
  refine GR_istore (pc := 745) (L' := [some (.ref b), some (gr P 0), some (gr P 166), some (gr P 177), some (gr P 178), some (.int (nI m)), some (.int k), none, none, none]) hC dL_law_745 (by decide) rfl rfl ?_
  refine GR_aload_n (pc := 747) hC dL_law_747 rfl rfl ?_
  refine GR_arg (pc := 748) (c := 1) hC hX hbs hbA hn (by omega) rfl rfl (by decide) rfl dL_law_748 dL_law_749 dL_law_751 dL_law_752 dL_law_753 ?_
  refine GR_arg (pc := 754) (c := 2) hC hX hbs hbA hn (by omega) rfl rfl (by decide) rfl dL_law_754 dL_law_755 dL_law_757 dL_law_758 dL_law_759 ?_
  refine GR_callVK (pc := 760) (As := [.int (xs (m + 1)), .int (xs (m + 2))]) (b := (h1, r1)) hC (k_X11_allocation (hf.mono (by decide))) hM1 MYC_X11_allocation MIC_X11_allocation (g_w_mem (List.mem_of_getElem? (i := 1760) (by decide +kernel)) (by decide +kernel)) (sh_166 (hf.mono (by decide))) rfl rfl ⟨rfl, rfl⟩ ⟨by decide, by decide⟩ hcs0 rfl rfl (Nat.le_of_ble_eq_true rfl) dL_law_760 ?_
  change GR P X Qf (ce + 1) (sl + 6) E 763 [some (.ref b), some (gr P 0), some (gr P 166), some (gr P 177), some (gr P 178), some (.int (nI m)), some (.int k), none, none, none] [.int r1] h1 x1
  refine GR_istore (pc := 763) (L' := [some (.ref b), some (gr P 0), some (gr P 166), some (gr P 177), some (gr P 178), some (.int (nI m)), some (.int k), some (.int r1), none, none]) hC dL_law_763 (by decide) rfl rfl ?_
  refine GR_aload_n (pc := 765) hC dL_law_765 rfl rfl ?_
  refine GR_callVK (pc := 766) (As := []) (E0 := ((f_X11_thrown h1).map (fun r => (h1, r)))) (b := (h1, h1 166 9)) hC (k_X11_thrown (hf.mono (by decide))) rfl MYC_X11_thrown MIC_X11_thrown (g_w_mem (List.mem_of_getElem? (i := 1392) (by decide +kernel)) (by decide +kernel)) (sh_166 (hf.mono (by decide))) rfl rfl ⟨rfl, rfl⟩ ⟨by decide, by decide⟩ hcs0 rfl rfl (Nat.le_of_ble_eq_true rfl) dL_law_766 ?_
  change GR P X Qf (ce + 1) (sl + 6) E 769 [some (.ref b), some (gr P 0), some (gr P 166), some (gr P 177), some (gr P 178), some (.int (nI m)), some (.int k), some (.int r1), none, none] [.int (h1 166 9)] h1 x1
  refine GR_iload (pc := 769) hC dL_law_769 rfl ?_
  refine GR_icmp_eqT (pc := 771) (tgt := 776) hC hT dL_law_771 (by decide) ?_
  refine GR_iload (pc := 776) hC dL_law_776 rfl ?_
  by_cases hk : k = 0
  · refine GR_if_neF (pc := 778) (tgt := 793) hC hk dL_law_778 (by decide) ?_
    refine GR_aload_n (pc := 781) hC dL_law_781 rfl rfl ?_
    refine GR_iconst (pc := 782) (v := 0) hC dL_law_782 rfl ?_
    refine GR_lald (pc := 783) hC hF rfl dL_law_783 ?_
    refine GR_iload (pc := 784) hC dL_law_784 rfl ?_
    refine GR_i2l (pc := 786) hC dL_law_786 ?_
    refine GR_lcmp (pc := 787) hC dL_law_787 ?_
    refine GR_if_eqT (pc := 788) (tgt := 793) hC (by rw [hR hk]; exact g_lcmp_self _) dL_law_788 (by decide) ?_
    refine GR_goto (pc := 793) (tgt := 3182) hC dL_law_793 (by decide) ?_
    exact GR.less kk (g_le_at (And.intro rfl (And.intro rfl (And.intro rfl (And.intro rfl (And.intro rfl (And.intro rfl trivial)))))))
  · refine GR_if_neT (pc := 778) (tgt := 793) hC hk dL_law_778 (by decide) ?_
    refine GR_goto (pc := 793) (tgt := 3182) hC dL_law_793 (by decide) ?_
    exact GR.less kk (g_le_at (And.intro rfl (And.intro rfl (And.intro rfl (And.intro rfl (And.intro rfl (And.intro rfl trivial)))))))
set_option maxRecDepth 20000 in
set_option maxHeartbeats 2000000 in
theorem lc_11 {P : GP} {X : GX} {α : Type} {Qf : α → State → Prop} {E : Option α} {ce sl b n m : Nat} {xs : Nat → Int32} {g : GM} {x : GE} {g1 : GM} {x1 : GE} {k : Int32} {h1 : GM} {r1 : Int32} (hC : GC P X RL cL_law 10 room_1) (hF : g_sh P = g_full) (hf : g_on P 179) (hX : va_X b n xs X.2.2.2.2.1 X.2.2.2.2.1.heap) (hbs : b < X.2.2.2.2.1.heap.size) (hbA : ¬ X.2.2.2.2.2.2.2.2.2.2 b) (hn : n ≤ 3072) (hm : m + 6 ≤ n) (hcs : ce + 1 ≤ 601024 ∧ sl + 6 ≤ 7293033) (hL : (f_X10_need g (xs (m + 1)) (xs (m + 2))).bind (lw_F x false ltb_0) = some (g1, x1, k)) (hM1 : (f_X11_need g1 (xs (m + 1)) (xs (m + 2))) = some (h1, r1)) (hT : h1 166 9 = k) (hR : k = 0 → x1.1 0 = r1.toInt64) (kk : GR P X Qf (ce + 1) (sl + 6) E 3182 [some (.ref b), some (gr P 0), some (gr P 166), some (gr P 177), some (gr P 178), some (.int (nI m)), none, none, none, none] [] h1 x1) : GR P X Qf ce sl E 796 [some (.ref b), some (gr P 0), some (gr P 166), some (gr P 177), some (gr P 178), some (.int (nI m)), none, none, none, none] [] g x := by
  have hcs0 : ce + 1 ≤ room_1.cells ∧ sl + 6 ≤ room_1.slots := ⟨by show _ ≤ 601024; omega, by show _ ≤ 7293033; omega⟩
  refine GR_aload_n (pc := 796) hC dL_law_796 rfl rfl ?_
  refine GR_arg (pc := 797) (c := 1) hC hX hbs hbA hn (by omega) rfl rfl (by decide) rfl dL_law_797 dL_law_798 dL_law_800 dL_law_801 dL_law_802 ?_
  refine GR_arg (pc := 803) (c := 2) hC hX hbs hbA hn (by omega) rfl rfl (by decide) rfl dL_law_803 dL_law_804 dL_law_806 dL_law_807 dL_law_808 ?_
  refine GR_aload_n (pc := 809) hC dL_law_809 rfl rfl ?_
  refine GR_callSL (pc := 810) (n := 4) (As := [gr P 0, .int (xs (m + 1)), .int (xs (m + 2)), gr P 177]) (b := (g1, x1, k)) hC (kL_need hF hf) hL ⟨g_w_mem (List.mem_of_getElem? (i := 928) (by decide +kernel)) (by decide +kernel), g_w_mem (List.mem_of_getElem? (i := 92) (by decide +kernel)) (by decide +kernel), g_w_mem (List.mem_of_getElem? (i := 927) (by decide +kernel)) (by decide +kernel), g_w_mem (List.mem_of_getElem? (i := 926) (by decide +kernel)) (by decide +kernel)⟩ ⟨by decide, by decide, by decide +kernel⟩ ⟨rfl, rfl⟩ ⟨by decide, by decide⟩ ⟨hcs.1, hcs.2⟩ rfl rfl (Nat.le_of_ble_eq_true rfl) dL_law_810 ?_
  change GR P X Qf (ce + 1) (sl + 6) E 813 [some (.ref b), some (gr P 0), some (gr P 166), some (gr P 177), some (gr P 178), some (.int (nI m)), none, none, none, none] [.int k] g1 x1
  refine GR_istore (pc := 813) (L' := [some (.ref b), some (gr P 0), some (gr P 166), some (gr P 177), some (gr P 178), some (.int (nI m)), some (.int k), none, none, none]) hC dL_law_813 (by decide) rfl rfl ?_
  refine GR_aload_n (pc := 815) hC dL_law_815 rfl rfl ?_
  refine GR_arg (pc := 816) (c := 1) hC hX hbs hbA hn (by omega) rfl rfl (by decide) rfl dL_law_816 dL_law_817 dL_law_819 dL_law_820 dL_law_821 ?_
  refine GR_arg (pc := 822) (c := 2) hC hX hbs hbA hn (by omega) rfl rfl (by decide) rfl dL_law_822 dL_law_823 dL_law_825 dL_law_826 dL_law_827 ?_
  refine GR_callVK (pc := 828) (As := [.int (xs (m + 1)), .int (xs (m + 2))]) (b := (h1, r1)) hC (k_X11_need (hf.mono (by decide))) hM1 MYC_X11_need MIC_X11_need (g_w_mem (List.mem_of_getElem? (i := 1764) (by decide +kernel)) (by decide +kernel)) (sh_166 (hf.mono (by decide))) rfl rfl ⟨rfl, rfl⟩ ⟨by decide, by decide⟩ hcs0 rfl rfl (Nat.le_of_ble_eq_true rfl) dL_law_828 ?_
  change GR P X Qf (ce + 1) (sl + 6) E 831 [some (.ref b), some (gr P 0), some (gr P 166), some (gr P 177), some (gr P 178), some (.int (nI m)), some (.int k), none, none, none] [.int r1] h1 x1
  refine GR_istore (pc := 831) (L' := [some (.ref b), some (gr P 0), some (gr P 166), some (gr P 177), some (gr P 178), some (.int (nI m)), some (.int k), some (.int r1), none, none]) hC dL_law_831 (by decide) rfl rfl ?_
  refine GR_aload_n (pc := 833) hC dL_law_833 rfl rfl ?_
  refine GR_callVK (pc := 834) (As := []) (E0 := ((f_X11_thrown h1).map (fun r => (h1, r)))) (b := (h1, h1 166 9)) hC (k_X11_thrown (hf.mono (by decide))) rfl MYC_X11_thrown MIC_X11_thrown (g_w_mem (List.mem_of_getElem? (i := 1392) (by decide +kernel)) (by decide +kernel)) (sh_166 (hf.mono (by decide))) rfl rfl ⟨rfl, rfl⟩ ⟨by decide, by decide⟩ hcs0 rfl rfl (Nat.le_of_ble_eq_true rfl) dL_law_834 ?_
  change GR P X Qf (ce + 1) (sl + 6) E 837 [some (.ref b), some (gr P 0), some (gr P 166), some (gr P 177), some (gr P 178), some (.int (nI m)), some (.int k), some (.int r1), none, none] [.int (h1 166 9)] h1 x1
  refine GR_iload (pc := 837) hC dL_law_837 rfl ?_
  refine GR_icmp_eqT (pc := 839) (tgt := 844) hC hT dL_law_839 (by decide) ?_
  refine GR_iload (pc := 844) hC dL_law_844 rfl ?_
  by_cases hk : k = 0
  · refine GR_if_neF (pc := 846) (tgt := 861) hC hk dL_law_846 (by decide) ?_
    refine GR_aload_n (pc := 849) hC dL_law_849 rfl rfl ?_
    refine GR_iconst (pc := 850) (v := 0) hC dL_law_850 rfl ?_
    refine GR_lald (pc := 851) hC hF rfl dL_law_851 ?_
    refine GR_iload (pc := 852) hC dL_law_852 rfl ?_
    refine GR_i2l (pc := 854) hC dL_law_854 ?_
    refine GR_lcmp (pc := 855) hC dL_law_855 ?_
    refine GR_if_eqT (pc := 856) (tgt := 861) hC (by rw [hR hk]; exact g_lcmp_self _) dL_law_856 (by decide) ?_
    refine GR_goto (pc := 861) (tgt := 3182) hC dL_law_861 (by decide) ?_
    exact GR.less kk (g_le_at (And.intro rfl (And.intro rfl (And.intro rfl (And.intro rfl (And.intro rfl (And.intro rfl trivial)))))))
  · refine GR_if_neT (pc := 846) (tgt := 861) hC hk dL_law_846 (by decide) ?_
    refine GR_goto (pc := 861) (tgt := 3182) hC dL_law_861 (by decide) ?_
    exact GR.less kk (g_le_at (And.intro rfl (And.intro rfl (And.intro rfl (And.intro rfl (And.intro rfl (And.intro rfl trivial)))))))
set_option maxRecDepth 20000 in
set_option maxHeartbeats 2000000 in
theorem lc_12 {P : GP} {X : GX} {α : Type} {Qf : α → State → Prop} {E : Option α} {ce sl b n m : Nat} {xs : Nat → Int32} {g : GM} {x : GE} {g1 : GM} {x1 : GE} {k : Int32} {h1 : GM} {r1 : Int32} (hC : GC P X RL cL_law 10 room_1) (hF : g_sh P = g_full) (hf : g_on P 179) (hX : va_X b n xs X.2.2.2.2.1 X.2.2.2.2.1.heap) (hbs : b < X.2.2.2.2.1.heap.size) (hbA : ¬ X.2.2.2.2.2.2.2.2.2.2 b) (hn : n ≤ 3072) (hm : m + 6 ≤ n) (hcs : ce + 1 ≤ 601024 ∧ sl + 6 ≤ 7293033) (hL : (f_X10_herdNameByte g (xs (m + 1)) (xs (m + 2))).bind (lw_F x false ltb_0) = some (g1, x1, k)) (hM1 : (f_X11_herdNameByte g1 (xs (m + 1)) (xs (m + 2))) = some (h1, r1)) (hT : h1 166 9 = k) (hR : k = 0 → x1.1 0 = r1.toInt64) (kk : GR P X Qf (ce + 1) (sl + 6) E 3182 [some (.ref b), some (gr P 0), some (gr P 166), some (gr P 177), some (gr P 178), some (.int (nI m)), none, none, none, none] [] h1 x1) : GR P X Qf ce sl E 864 [some (.ref b), some (gr P 0), some (gr P 166), some (gr P 177), some (gr P 178), some (.int (nI m)), none, none, none, none] [] g x := by
  have hcs0 : ce + 1 ≤ room_1.cells ∧ sl + 6 ≤ room_1.slots := ⟨by show _ ≤ 601024; omega, by show _ ≤ 7293033; omega⟩
  refine GR_aload_n (pc := 864) hC dL_law_864 rfl rfl ?_
  refine GR_arg (pc := 865) (c := 1) hC hX hbs hbA hn (by omega) rfl rfl (by decide) rfl dL_law_865 dL_law_866 dL_law_868 dL_law_869 dL_law_870 ?_
  refine GR_arg (pc := 871) (c := 2) hC hX hbs hbA hn (by omega) rfl rfl (by decide) rfl dL_law_871 dL_law_872 dL_law_874 dL_law_875 dL_law_876 ?_
  refine GR_aload_n (pc := 877) hC dL_law_877 rfl rfl ?_
  refine GR_callSL (pc := 878) (n := 4) (As := [gr P 0, .int (xs (m + 1)), .int (xs (m + 2)), gr P 177]) (b := (g1, x1, k)) hC (kL_herdNameByte hF hf) hL ⟨g_w_mem (List.mem_of_getElem? (i := 936) (by decide +kernel)) (by decide +kernel), g_w_mem (List.mem_of_getElem? (i := 92) (by decide +kernel)) (by decide +kernel), g_w_mem (List.mem_of_getElem? (i := 935) (by decide +kernel)) (by decide +kernel), g_w_mem (List.mem_of_getElem? (i := 934) (by decide +kernel)) (by decide +kernel)⟩ ⟨by decide, by decide, by decide +kernel⟩ ⟨rfl, rfl⟩ ⟨by decide, by decide⟩ ⟨hcs.1, hcs.2⟩ rfl rfl (Nat.le_of_ble_eq_true rfl) dL_law_878 ?_
  change GR P X Qf (ce + 1) (sl + 6) E 881 [some (.ref b), some (gr P 0), some (gr P 166), some (gr P 177), some (gr P 178), some (.int (nI m)), none, none, none, none] [.int k] g1 x1
  refine GR_istore (pc := 881) (L' := [some (.ref b), some (gr P 0), some (gr P 166), some (gr P 177), some (gr P 178), some (.int (nI m)), some (.int k), none, none, none]) hC dL_law_881 (by decide) rfl rfl ?_
  refine GR_aload_n (pc := 883) hC dL_law_883 rfl rfl ?_
  refine GR_arg (pc := 884) (c := 1) hC hX hbs hbA hn (by omega) rfl rfl (by decide) rfl dL_law_884 dL_law_885 dL_law_887 dL_law_888 dL_law_889 ?_
  refine GR_arg (pc := 890) (c := 2) hC hX hbs hbA hn (by omega) rfl rfl (by decide) rfl dL_law_890 dL_law_891 dL_law_893 dL_law_894 dL_law_895 ?_
  refine GR_callVK (pc := 896) (As := [.int (xs (m + 1)), .int (xs (m + 2))]) (b := (h1, r1)) hC (k_X11_herdNameByte (hf.mono (by decide))) hM1 MYC_X11_herdNameByte MIC_X11_herdNameByte (g_w_mem (List.mem_of_getElem? (i := 1768) (by decide +kernel)) (by decide +kernel)) (sh_166 (hf.mono (by decide))) rfl rfl ⟨rfl, rfl⟩ ⟨by decide, by decide⟩ hcs0 rfl rfl (Nat.le_of_ble_eq_true rfl) dL_law_896 ?_
  change GR P X Qf (ce + 1) (sl + 6) E 899 [some (.ref b), some (gr P 0), some (gr P 166), some (gr P 177), some (gr P 178), some (.int (nI m)), some (.int k), none, none, none] [.int r1] h1 x1
  refine GR_istore (pc := 899) (L' := [some (.ref b), some (gr P 0), some (gr P 166), some (gr P 177), some (gr P 178), some (.int (nI m)), some (.int k), some (.int r1), none, none]) hC dL_law_899 (by decide) rfl rfl ?_
  refine GR_aload_n (pc := 901) hC dL_law_901 rfl rfl ?_
  refine GR_callVK (pc := 902) (As := []) (E0 := ((f_X11_thrown h1).map (fun r => (h1, r)))) (b := (h1, h1 166 9)) hC (k_X11_thrown (hf.mono (by decide))) rfl MYC_X11_thrown MIC_X11_thrown (g_w_mem (List.mem_of_getElem? (i := 1392) (by decide +kernel)) (by decide +kernel)) (sh_166 (hf.mono (by decide))) rfl rfl ⟨rfl, rfl⟩ ⟨by decide, by decide⟩ hcs0 rfl rfl (Nat.le_of_ble_eq_true rfl) dL_law_902 ?_
  change GR P X Qf (ce + 1) (sl + 6) E 905 [some (.ref b), some (gr P 0), some (gr P 166), some (gr P 177), some (gr P 178), some (.int (nI m)), some (.int k), some (.int r1), none, none] [.int (h1 166 9)] h1 x1
  refine GR_iload (pc := 905) hC dL_law_905 rfl ?_
  refine GR_icmp_eqT (pc := 907) (tgt := 912) hC hT dL_law_907 (by decide) ?_
  refine GR_iload (pc := 912) hC dL_law_912 rfl ?_
  by_cases hk : k = 0
  · refine GR_if_neF (pc := 914) (tgt := 929) hC hk dL_law_914 (by decide) ?_
    refine GR_aload_n (pc := 917) hC dL_law_917 rfl rfl ?_
    refine GR_iconst (pc := 918) (v := 0) hC dL_law_918 rfl ?_
    refine GR_lald (pc := 919) hC hF rfl dL_law_919 ?_
    refine GR_iload (pc := 920) hC dL_law_920 rfl ?_
    refine GR_i2l (pc := 922) hC dL_law_922 ?_
    refine GR_lcmp (pc := 923) hC dL_law_923 ?_
    refine GR_if_eqT (pc := 924) (tgt := 929) hC (by rw [hR hk]; exact g_lcmp_self _) dL_law_924 (by decide) ?_
    refine GR_goto (pc := 929) (tgt := 3182) hC dL_law_929 (by decide) ?_
    exact GR.less kk (g_le_at (And.intro rfl (And.intro rfl (And.intro rfl (And.intro rfl (And.intro rfl (And.intro rfl trivial)))))))
  · refine GR_if_neT (pc := 914) (tgt := 929) hC hk dL_law_914 (by decide) ?_
    refine GR_goto (pc := 929) (tgt := 3182) hC dL_law_929 (by decide) ?_
    exact GR.less kk (g_le_at (And.intro rfl (And.intro rfl (And.intro rfl (And.intro rfl (And.intro rfl (And.intro rfl trivial)))))))
set_option maxRecDepth 20000 in
set_option maxHeartbeats 2000000 in
theorem lc_13 {P : GP} {X : GX} {α : Type} {Qf : α → State → Prop} {E : Option α} {ce sl b n m : Nat} {xs : Nat → Int32} {g : GM} {x : GE} {g1 : GM} {x1 : GE} {k : Int32} {h1 : GM} {r1 : Int32} (hC : GC P X RL cL_law 10 room_1) (hF : g_sh P = g_full) (hf : g_on P 179) (hX : va_X b n xs X.2.2.2.2.1 X.2.2.2.2.1.heap) (hbs : b < X.2.2.2.2.1.heap.size) (hbA : ¬ X.2.2.2.2.2.2.2.2.2.2 b) (hn : n ≤ 3072) (hm : m + 6 ≤ n) (hcs : ce + 1 ≤ 601024 ∧ sl + 6 ≤ 7293033) (hL : (f_X10_pastureNameByte g (xs (m + 1)) (xs (m + 2))).bind (lw_F x false ltb_0) = some (g1, x1, k)) (hM1 : (f_X11_pastureNameByte g1 (xs (m + 1)) (xs (m + 2))) = some (h1, r1)) (hT : h1 166 9 = k) (hR : k = 0 → x1.1 0 = r1.toInt64) (kk : GR P X Qf (ce + 1) (sl + 6) E 3182 [some (.ref b), some (gr P 0), some (gr P 166), some (gr P 177), some (gr P 178), some (.int (nI m)), none, none, none, none] [] h1 x1) : GR P X Qf ce sl E 932 [some (.ref b), some (gr P 0), some (gr P 166), some (gr P 177), some (gr P 178), some (.int (nI m)), none, none, none, none] [] g x := by
  have hcs0 : ce + 1 ≤ room_1.cells ∧ sl + 6 ≤ room_1.slots := ⟨by show _ ≤ 601024; omega, by show _ ≤ 7293033; omega⟩
  refine GR_aload_n (pc := 932) hC dL_law_932 rfl rfl ?_
  refine GR_arg (pc := 933) (c := 1) hC hX hbs hbA hn (by omega) rfl rfl (by decide) rfl dL_law_933 dL_law_934 dL_law_936 dL_law_937 dL_law_938 ?_
  refine GR_arg (pc := 939) (c := 2) hC hX hbs hbA hn (by omega) rfl rfl (by decide) rfl dL_law_939 dL_law_940 dL_law_942 dL_law_943 dL_law_944 ?_
  refine GR_aload_n (pc := 945) hC dL_law_945 rfl rfl ?_
  refine GR_callSL (pc := 946) (n := 4) (As := [gr P 0, .int (xs (m + 1)), .int (xs (m + 2)), gr P 177]) (b := (g1, x1, k)) hC (kL_pastureNameByte hF hf) hL ⟨g_w_mem (List.mem_of_getElem? (i := 946) (by decide +kernel)) (by decide +kernel), g_w_mem (List.mem_of_getElem? (i := 92) (by decide +kernel)) (by decide +kernel), g_w_mem (List.mem_of_getElem? (i := 945) (by decide +kernel)) (by decide +kernel), g_w_mem (List.mem_of_getElem? (i := 944) (by decide +kernel)) (by decide +kernel)⟩ ⟨by decide, by decide, by decide +kernel⟩ ⟨rfl, rfl⟩ ⟨by decide, by decide⟩ ⟨hcs.1, hcs.2⟩ rfl rfl (Nat.le_of_ble_eq_true rfl) dL_law_946 ?_
  change GR P X Qf (ce + 1) (sl + 6) E 949 [some (.ref b), some (gr P 0), some (gr P 166), some (gr P 177), some (gr P 178), some (.int (nI m)), none, none, none, none] [.int k] g1 x1
  refine GR_istore (pc := 949) (L' := [some (.ref b), some (gr P 0), some (gr P 166), some (gr P 177), some (gr P 178), some (.int (nI m)), some (.int k), none, none, none]) hC dL_law_949 (by decide) rfl rfl ?_
  refine GR_aload_n (pc := 951) hC dL_law_951 rfl rfl ?_
  refine GR_arg (pc := 952) (c := 1) hC hX hbs hbA hn (by omega) rfl rfl (by decide) rfl dL_law_952 dL_law_953 dL_law_955 dL_law_956 dL_law_957 ?_
  refine GR_arg (pc := 958) (c := 2) hC hX hbs hbA hn (by omega) rfl rfl (by decide) rfl dL_law_958 dL_law_959 dL_law_961 dL_law_962 dL_law_963 ?_
  refine GR_callVK (pc := 964) (As := [.int (xs (m + 1)), .int (xs (m + 2))]) (b := (h1, r1)) hC (k_X11_pastureNameByte (hf.mono (by decide))) hM1 MYC_X11_pastureNameByte MIC_X11_pastureNameByte (g_w_mem (List.mem_of_getElem? (i := 1776) (by decide +kernel)) (by decide +kernel)) (sh_166 (hf.mono (by decide))) rfl rfl ⟨rfl, rfl⟩ ⟨by decide, by decide⟩ hcs0 rfl rfl (Nat.le_of_ble_eq_true rfl) dL_law_964 ?_
  change GR P X Qf (ce + 1) (sl + 6) E 967 [some (.ref b), some (gr P 0), some (gr P 166), some (gr P 177), some (gr P 178), some (.int (nI m)), some (.int k), none, none, none] [.int r1] h1 x1
  refine GR_istore (pc := 967) (L' := [some (.ref b), some (gr P 0), some (gr P 166), some (gr P 177), some (gr P 178), some (.int (nI m)), some (.int k), some (.int r1), none, none]) hC dL_law_967 (by decide) rfl rfl ?_
  refine GR_aload_n (pc := 969) hC dL_law_969 rfl rfl ?_
  refine GR_callVK (pc := 970) (As := []) (E0 := ((f_X11_thrown h1).map (fun r => (h1, r)))) (b := (h1, h1 166 9)) hC (k_X11_thrown (hf.mono (by decide))) rfl MYC_X11_thrown MIC_X11_thrown (g_w_mem (List.mem_of_getElem? (i := 1392) (by decide +kernel)) (by decide +kernel)) (sh_166 (hf.mono (by decide))) rfl rfl ⟨rfl, rfl⟩ ⟨by decide, by decide⟩ hcs0 rfl rfl (Nat.le_of_ble_eq_true rfl) dL_law_970 ?_
  change GR P X Qf (ce + 1) (sl + 6) E 973 [some (.ref b), some (gr P 0), some (gr P 166), some (gr P 177), some (gr P 178), some (.int (nI m)), some (.int k), some (.int r1), none, none] [.int (h1 166 9)] h1 x1
  refine GR_iload (pc := 973) hC dL_law_973 rfl ?_
  refine GR_icmp_eqT (pc := 975) (tgt := 980) hC hT dL_law_975 (by decide) ?_
  refine GR_iload (pc := 980) hC dL_law_980 rfl ?_
  by_cases hk : k = 0
  · refine GR_if_neF (pc := 982) (tgt := 997) hC hk dL_law_982 (by decide) ?_
    refine GR_aload_n (pc := 985) hC dL_law_985 rfl rfl ?_
    refine GR_iconst (pc := 986) (v := 0) hC dL_law_986 rfl ?_
    refine GR_lald (pc := 987) hC hF rfl dL_law_987 ?_
    refine GR_iload (pc := 988) hC dL_law_988 rfl ?_
    refine GR_i2l (pc := 990) hC dL_law_990 ?_
    refine GR_lcmp (pc := 991) hC dL_law_991 ?_
    refine GR_if_eqT (pc := 992) (tgt := 997) hC (by rw [hR hk]; exact g_lcmp_self _) dL_law_992 (by decide) ?_
    refine GR_goto (pc := 997) (tgt := 3182) hC dL_law_997 (by decide) ?_
    exact GR.less kk (g_le_at (And.intro rfl (And.intro rfl (And.intro rfl (And.intro rfl (And.intro rfl (And.intro rfl trivial)))))))
  · refine GR_if_neT (pc := 982) (tgt := 997) hC hk dL_law_982 (by decide) ?_
    refine GR_goto (pc := 997) (tgt := 3182) hC dL_law_997 (by decide) ?_
    exact GR.less kk (g_le_at (And.intro rfl (And.intro rfl (And.intro rfl (And.intro rfl (And.intro rfl (And.intro rfl trivial)))))))
set_option maxRecDepth 20000 in
set_option maxHeartbeats 2000000 in
theorem lc_14 {P : GP} {X : GX} {α : Type} {Qf : α → State → Prop} {E : Option α} {ce sl b n m : Nat} {xs : Nat → Int32} {g : GM} {x : GE} {g1 : GM} {x1 : GE} {k : Int32} {h1 : GM} {r1 : Int32} (hC : GC P X RL cL_law 10 room_1) (hF : g_sh P = g_full) (hf : g_on P 179) (hX : va_X b n xs X.2.2.2.2.1 X.2.2.2.2.1.heap) (hbs : b < X.2.2.2.2.1.heap.size) (hbA : ¬ X.2.2.2.2.2.2.2.2.2.2 b) (hn : n ≤ 3072) (hm : m + 6 ≤ n) (hcs : ce + 1 ≤ 601024 ∧ sl + 6 ≤ 7293033) (hL : (f_X10_findHerd g).bind (lw_F x false ltb_3) = some (g1, x1, k)) (hM1 : (f_X11_findHerd g1) = some (h1, r1)) (hT : h1 166 9 = k) (hR : k = 0 → x1.1 0 = r1.toInt64) (kk : GR P X Qf (ce + 1) (sl + 6) E 3182 [some (.ref b), some (gr P 0), some (gr P 166), some (gr P 177), some (gr P 178), some (.int (nI m)), none, none, none, none] [] h1 x1) : GR P X Qf ce sl E 1000 [some (.ref b), some (gr P 0), some (gr P 166), some (gr P 177), some (gr P 178), some (.int (nI m)), none, none, none, none] [] g x := by
  have hcs0 : ce + 1 ≤ room_1.cells ∧ sl + 6 ≤ room_1.slots := ⟨by show _ ≤ 601024; omega, by show _ ≤ 7293033; omega⟩
  refine GR_aload_n (pc := 1000) hC dL_law_1000 rfl rfl ?_
  refine GR_aload_n (pc := 1001) hC dL_law_1001 rfl rfl ?_
  refine GR_callSL (pc := 1002) (n := 2) (As := [gr P 0, gr P 177]) (b := (g1, x1, k)) hC (kL_findHerd hF hf) hL ⟨g_w_mem (List.mem_of_getElem? (i := 953) (by decide +kernel)) (by decide +kernel), g_w_mem (List.mem_of_getElem? (i := 92) (by decide +kernel)) (by decide +kernel), g_w_mem (List.mem_of_getElem? (i := 952) (by decide +kernel)) (by decide +kernel), g_w_mem (List.mem_of_getElem? (i := 951) (by decide +kernel)) (by decide +kernel)⟩ ⟨by decide, by decide, by decide +kernel⟩ ⟨rfl, rfl⟩ ⟨by decide, by decide⟩ ⟨hcs.1, hcs.2⟩ rfl rfl (Nat.le_of_ble_eq_true rfl) dL_law_1002 ?_
  change GR P X Qf (ce + 1) (sl + 6) E 1005 [some (.ref b), some (gr P 0), some (gr P 166), some (gr P 177), some (gr P 178), some (.int (nI m)), none, none, none, none] [.int k] g1 x1
  refine GR_istore (pc := 1005) (L' := [some (.ref b), some (gr P 0), some (gr P 166), some (gr P 177), some (gr P 178), some (.int (nI m)), some (.int k), none, none, none]) hC dL_law_1005 (by decide) rfl rfl ?_
  refine GR_aload_n (pc := 1007) hC dL_law_1007 rfl rfl ?_
  refine GR_callVK (pc := 1008) (As := []) (b := (h1, r1)) hC (k_X11_findHerd (hf.mono (by decide))) hM1 MYC_X11_findHerd MIC_X11_findHerd (g_w_mem (List.mem_of_getElem? (i := 1780) (by decide +kernel)) (by decide +kernel)) (sh_166 (hf.mono (by decide))) rfl rfl ⟨rfl, rfl⟩ ⟨by decide, by decide⟩ hcs0 rfl rfl (Nat.le_of_ble_eq_true rfl) dL_law_1008 ?_
  change GR P X Qf (ce + 1) (sl + 6) E 1011 [some (.ref b), some (gr P 0), some (gr P 166), some (gr P 177), some (gr P 178), some (.int (nI m)), some (.int k), none, none, none] [.int r1] h1 x1
  refine GR_istore (pc := 1011) (L' := [some (.ref b), some (gr P 0), some (gr P 166), some (gr P 177), some (gr P 178), some (.int (nI m)), some (.int k), some (.int r1), none, none]) hC dL_law_1011 (by decide) rfl rfl ?_
  refine GR_aload_n (pc := 1013) hC dL_law_1013 rfl rfl ?_
  refine GR_callVK (pc := 1014) (As := []) (E0 := ((f_X11_thrown h1).map (fun r => (h1, r)))) (b := (h1, h1 166 9)) hC (k_X11_thrown (hf.mono (by decide))) rfl MYC_X11_thrown MIC_X11_thrown (g_w_mem (List.mem_of_getElem? (i := 1392) (by decide +kernel)) (by decide +kernel)) (sh_166 (hf.mono (by decide))) rfl rfl ⟨rfl, rfl⟩ ⟨by decide, by decide⟩ hcs0 rfl rfl (Nat.le_of_ble_eq_true rfl) dL_law_1014 ?_
  change GR P X Qf (ce + 1) (sl + 6) E 1017 [some (.ref b), some (gr P 0), some (gr P 166), some (gr P 177), some (gr P 178), some (.int (nI m)), some (.int k), some (.int r1), none, none] [.int (h1 166 9)] h1 x1
  refine GR_iload (pc := 1017) hC dL_law_1017 rfl ?_
  refine GR_icmp_eqT (pc := 1019) (tgt := 1024) hC hT dL_law_1019 (by decide) ?_
  refine GR_iload (pc := 1024) hC dL_law_1024 rfl ?_
  by_cases hk : k = 0
  · refine GR_if_neF (pc := 1026) (tgt := 1041) hC hk dL_law_1026 (by decide) ?_
    refine GR_aload_n (pc := 1029) hC dL_law_1029 rfl rfl ?_
    refine GR_iconst (pc := 1030) (v := 0) hC dL_law_1030 rfl ?_
    refine GR_lald (pc := 1031) hC hF rfl dL_law_1031 ?_
    refine GR_iload (pc := 1032) hC dL_law_1032 rfl ?_
    refine GR_i2l (pc := 1034) hC dL_law_1034 ?_
    refine GR_lcmp (pc := 1035) hC dL_law_1035 ?_
    refine GR_if_eqT (pc := 1036) (tgt := 1041) hC (by rw [hR hk]; exact g_lcmp_self _) dL_law_1036 (by decide) ?_
    refine GR_goto (pc := 1041) (tgt := 3182) hC dL_law_1041 (by decide) ?_
    exact GR.less kk (g_le_at (And.intro rfl (And.intro rfl (And.intro rfl (And.intro rfl (And.intro rfl (And.intro rfl trivial)))))))
  · refine GR_if_neT (pc := 1026) (tgt := 1041) hC hk dL_law_1026 (by decide) ?_
    refine GR_goto (pc := 1041) (tgt := 3182) hC dL_law_1041 (by decide) ?_
    exact GR.less kk (g_le_at (And.intro rfl (And.intro rfl (And.intro rfl (And.intro rfl (And.intro rfl (And.intro rfl trivial)))))))
set_option maxRecDepth 20000 in
set_option maxHeartbeats 2000000 in
theorem lc_15 {P : GP} {X : GX} {α : Type} {Qf : α → State → Prop} {E : Option α} {ce sl b n m : Nat} {xs : Nat → Int32} {g : GM} {x : GE}  {h1 : GM} {r1 : Int32} {h2 : GM} {r2 : Int32} (hC : GC P X RL cL_law 10 room_1) (hF : g_sh P = g_full) (hf : g_on P 179) (hX : va_X b n xs X.2.2.2.2.1 X.2.2.2.2.1.heap) (hbs : b < X.2.2.2.2.1.heap.size) (hbA : ¬ X.2.2.2.2.2.2.2.2.2.2 b) (hn : n ≤ 3072) (hm : m + 6 ≤ n) (hcs : ce + 1 ≤ 601024 ∧ sl + 6 ≤ 7293033) (hM1 : (f_X10_isSafe g) = some (h1, r1)) (hM2 : (f_X11_isSafe h1) = some (h2, r2)) (hR : r1 = r2) (kk : GR P X Qf (ce + 1) (sl + 6) E 3182 [some (.ref b), some (gr P 0), some (gr P 166), some (gr P 177), some (gr P 178), some (.int (nI m)), none, none, none, none] [] h2 x) : GR P X Qf ce sl E 1044 [some (.ref b), some (gr P 0), some (gr P 166), some (gr P 177), some (gr P 178), some (.int (nI m)), none, none, none, none] [] g x := by
  have hcs0 : ce ≤ room_1.cells ∧ sl ≤ room_1.slots := ⟨by show _ ≤ 601024; omega, by show _ ≤ 7293033; omega⟩
  refine GR_aload_n (pc := 1044) hC dL_law_1044 rfl rfl ?_
  refine GR_callVK (pc := 1045) (As := []) (b := (h1, r1)) hC (k_X10_isSafe (hf.mono (by decide))) hM1 MYC_X10_isSafe MIC_X10_isSafe (g_w_mem (List.mem_of_getElem? (i := 568) (by decide +kernel)) (by decide +kernel)) (sh_0 (hf.mono (by decide))) rfl rfl ⟨rfl, rfl⟩ ⟨by decide, by decide⟩ hcs0 rfl rfl (Nat.le_of_ble_eq_true rfl) dL_law_1045 ?_
  change GR P X Qf (ce) (sl) E 1048 [some (.ref b), some (gr P 0), some (gr P 166), some (gr P 177), some (gr P 178), some (.int (nI m)), none, none, none, none] [.int r1] h1 x
  refine GR_aload_n (pc := 1048) hC dL_law_1048 rfl rfl ?_
  refine GR_callVK (pc := 1049) (As := []) (b := (h2, r2)) hC (k_X11_isSafe (hf.mono (by decide))) hM2 MYC_X11_isSafe MIC_X11_isSafe (g_w_mem (List.mem_of_getElem? (i := 1784) (by decide +kernel)) (by decide +kernel)) (sh_166 (hf.mono (by decide))) rfl rfl ⟨rfl, rfl⟩ ⟨by decide, by decide⟩ hcs0 rfl rfl (Nat.le_of_ble_eq_true rfl) dL_law_1049 ?_
  change GR P X Qf (ce) (sl) E 1052 [some (.ref b), some (gr P 0), some (gr P 166), some (gr P 177), some (gr P 178), some (.int (nI m)), none, none, none, none] [.int r2, .int r1] h2 x
  refine GR_icmp_eqT (pc := 1052) (tgt := 3182) hC hR dL_law_1052 (by decide) ?_
  exact GR.wide (GR.less (kk) (g_le_at (And.intro rfl (And.intro rfl (And.intro rfl (And.intro rfl (And.intro rfl (And.intro rfl trivial))))))))
set_option maxRecDepth 20000 in
set_option maxHeartbeats 2000000 in
theorem lc_16 {P : GP} {X : GX} {α : Type} {Qf : α → State → Prop} {E : Option α} {ce sl b n m : Nat} {xs : Nat → Int32} {g : GM} {x : GE}  {h1 : GM} {r1 : Int32} {h2 : GM} {r2 : Int32} (hC : GC P X RL cL_law 10 room_1) (hF : g_sh P = g_full) (hf : g_on P 179) (hX : va_X b n xs X.2.2.2.2.1 X.2.2.2.2.1.heap) (hbs : b < X.2.2.2.2.1.heap.size) (hbA : ¬ X.2.2.2.2.2.2.2.2.2.2 b) (hn : n ≤ 3072) (hm : m + 6 ≤ n) (hcs : ce + 1 ≤ 601024 ∧ sl + 6 ≤ 7293033) (hM1 : (f_X10_safeOrder g (xs (m + 1))) = some (h1, r1)) (hM2 : (f_X11_safeOrder h1 (xs (m + 1))) = some (h2, r2)) (hR : r1 = r2) (kk : GR P X Qf (ce + 1) (sl + 6) E 3182 [some (.ref b), some (gr P 0), some (gr P 166), some (gr P 177), some (gr P 178), some (.int (nI m)), none, none, none, none] [] h2 x) : GR P X Qf ce sl E 1057 [some (.ref b), some (gr P 0), some (gr P 166), some (gr P 177), some (gr P 178), some (.int (nI m)), none, none, none, none] [] g x := by
  have hcs0 : ce ≤ room_1.cells ∧ sl ≤ room_1.slots := ⟨by show _ ≤ 601024; omega, by show _ ≤ 7293033; omega⟩
  refine GR_aload_n (pc := 1057) hC dL_law_1057 rfl rfl ?_
  refine GR_arg (pc := 1058) (c := 1) hC hX hbs hbA hn (by omega) rfl rfl (by decide) rfl dL_law_1058 dL_law_1059 dL_law_1061 dL_law_1062 dL_law_1063 ?_
  refine GR_callVK (pc := 1064) (As := [.int (xs (m + 1))]) (b := (h1, r1)) hC (k_X10_safeOrder (hf.mono (by decide))) hM1 MYC_X10_safeOrder MIC_X10_safeOrder (g_w_mem (List.mem_of_getElem? (i := 591) (by decide +kernel)) (by decide +kernel)) (sh_0 (hf.mono (by decide))) rfl rfl ⟨rfl, rfl⟩ ⟨by decide, by decide⟩ hcs0 rfl rfl (Nat.le_of_ble_eq_true rfl) dL_law_1064 ?_
  change GR P X Qf (ce) (sl) E 1067 [some (.ref b), some (gr P 0), some (gr P 166), some (gr P 177), some (gr P 178), some (.int (nI m)), none, none, none, none] [.int r1] h1 x
  refine GR_aload_n (pc := 1067) hC dL_law_1067 rfl rfl ?_
  refine GR_arg (pc := 1068) (c := 1) hC hX hbs hbA hn (by omega) rfl rfl (by decide) rfl dL_law_1068 dL_law_1069 dL_law_1071 dL_law_1072 dL_law_1073 ?_
  refine GR_callVK (pc := 1074) (As := [.int (xs (m + 1))]) (b := (h2, r2)) hC (k_X11_safeOrder (hf.mono (by decide))) hM2 MYC_X11_safeOrder MIC_X11_safeOrder (g_w_mem (List.mem_of_getElem? (i := 1788) (by decide +kernel)) (by decide +kernel)) (sh_166 (hf.mono (by decide))) rfl rfl ⟨rfl, rfl⟩ ⟨by decide, by decide⟩ hcs0 rfl rfl (Nat.le_of_ble_eq_true rfl) dL_law_1074 ?_
  change GR P X Qf (ce) (sl) E 1077 [some (.ref b), some (gr P 0), some (gr P 166), some (gr P 177), some (gr P 178), some (.int (nI m)), none, none, none, none] [.int r2, .int r1] h2 x
  refine GR_icmp_eqT (pc := 1077) (tgt := 3182) hC hR dL_law_1077 (by decide) ?_
  exact GR.wide (GR.less (kk) (g_le_at (And.intro rfl (And.intro rfl (And.intro rfl (And.intro rfl (And.intro rfl (And.intro rfl trivial))))))))
set_option maxRecDepth 20000 in
set_option maxHeartbeats 2000000 in
theorem lc_17 {P : GP} {X : GX} {α : Type} {Qf : α → State → Prop} {E : Option α} {ce sl b n m : Nat} {xs : Nat → Int32} {g : GM} {x : GE} {g1 : GM} {x1 : GE} {k : Int32} {h1 : GM} {r1 : Int32} (hC : GC P X RL cL_law 10 room_1) (hF : g_sh P = g_full) (hf : g_on P 179) (hX : va_X b n xs X.2.2.2.2.1 X.2.2.2.2.1.heap) (hbs : b < X.2.2.2.2.1.heap.size) (hbA : ¬ X.2.2.2.2.2.2.2.2.2.2 b) (hn : n ≤ 3072) (hm : m + 6 ≤ n) (hcs : ce + 1 ≤ 601024 ∧ sl + 6 ≤ 7293033) (hL : (f_X10_canFinish g (xs (m + 1))).bind (lw_F x true ltb_0) = some (g1, x1, k)) (hM1 : (f_X11_canFinish g1 (xs (m + 1))) = some (h1, r1)) (hT : h1 166 9 = k) (hR : k = 0 → x1.1 0 = (if r1 = 0 then 0 else 1)) (kk : GR P X Qf (ce + 1) (sl + 6) E 3182 [some (.ref b), some (gr P 0), some (gr P 166), some (gr P 177), some (gr P 178), some (.int (nI m)), none, none, none, none] [] h1 x1) : GR P X Qf ce sl E 1082 [some (.ref b), some (gr P 0), some (gr P 166), some (gr P 177), some (gr P 178), some (.int (nI m)), none, none, none, none] [] g x := by
  have hcs0 : ce + 1 ≤ room_1.cells ∧ sl + 6 ≤ room_1.slots := ⟨by show _ ≤ 601024; omega, by show _ ≤ 7293033; omega⟩
  refine GR_aload_n (pc := 1082) hC dL_law_1082 rfl rfl ?_
  refine GR_arg (pc := 1083) (c := 1) hC hX hbs hbA hn (by omega) rfl rfl (by decide) rfl dL_law_1083 dL_law_1084 dL_law_1086 dL_law_1087 dL_law_1088 ?_
  refine GR_aload_n (pc := 1089) hC dL_law_1089 rfl rfl ?_
  refine GR_callSL (pc := 1090) (n := 3) (As := [gr P 0, .int (xs (m + 1)), gr P 177]) (b := (g1, x1, k)) hC (kL_canFinish hF hf) hL ⟨g_w_mem (List.mem_of_getElem? (i := 978) (by decide +kernel)) (by decide +kernel), g_w_mem (List.mem_of_getElem? (i := 92) (by decide +kernel)) (by decide +kernel), g_w_mem (List.mem_of_getElem? (i := 977) (by decide +kernel)) (by decide +kernel), g_w_mem (List.mem_of_getElem? (i := 976) (by decide +kernel)) (by decide +kernel)⟩ ⟨by decide, by decide, by decide +kernel⟩ ⟨rfl, rfl⟩ ⟨by decide, by decide⟩ ⟨hcs.1, hcs.2⟩ rfl rfl (Nat.le_of_ble_eq_true rfl) dL_law_1090 ?_
  change GR P X Qf (ce + 1) (sl + 6) E 1093 [some (.ref b), some (gr P 0), some (gr P 166), some (gr P 177), some (gr P 178), some (.int (nI m)), none, none, none, none] [.int k] g1 x1
  refine GR_istore (pc := 1093) (L' := [some (.ref b), some (gr P 0), some (gr P 166), some (gr P 177), some (gr P 178), some (.int (nI m)), some (.int k), none, none, none]) hC dL_law_1093 (by decide) rfl rfl ?_
  refine GR_aload_n (pc := 1095) hC dL_law_1095 rfl rfl ?_
  refine GR_arg (pc := 1096) (c := 1) hC hX hbs hbA hn (by omega) rfl rfl (by decide) rfl dL_law_1096 dL_law_1097 dL_law_1099 dL_law_1100 dL_law_1101 ?_
  refine GR_callVK (pc := 1102) (As := [.int (xs (m + 1))]) (b := (h1, r1)) hC (k_X11_canFinish (hf.mono (by decide))) hM1 MYC_X11_canFinish MIC_X11_canFinish (g_w_mem (List.mem_of_getElem? (i := 1792) (by decide +kernel)) (by decide +kernel)) (sh_166 (hf.mono (by decide))) rfl rfl ⟨rfl, rfl⟩ ⟨by decide, by decide⟩ hcs0 rfl rfl (Nat.le_of_ble_eq_true rfl) dL_law_1102 ?_
  change GR P X Qf (ce + 1) (sl + 6) E 1105 [some (.ref b), some (gr P 0), some (gr P 166), some (gr P 177), some (gr P 178), some (.int (nI m)), some (.int k), none, none, none] [.int r1] h1 x1
  refine GR_istore (pc := 1105) (L' := [some (.ref b), some (gr P 0), some (gr P 166), some (gr P 177), some (gr P 178), some (.int (nI m)), some (.int k), some (.int r1), none, none]) hC dL_law_1105 (by decide) rfl rfl ?_
  refine GR_aload_n (pc := 1107) hC dL_law_1107 rfl rfl ?_
  refine GR_callVK (pc := 1108) (As := []) (E0 := ((f_X11_thrown h1).map (fun r => (h1, r)))) (b := (h1, h1 166 9)) hC (k_X11_thrown (hf.mono (by decide))) rfl MYC_X11_thrown MIC_X11_thrown (g_w_mem (List.mem_of_getElem? (i := 1392) (by decide +kernel)) (by decide +kernel)) (sh_166 (hf.mono (by decide))) rfl rfl ⟨rfl, rfl⟩ ⟨by decide, by decide⟩ hcs0 rfl rfl (Nat.le_of_ble_eq_true rfl) dL_law_1108 ?_
  change GR P X Qf (ce + 1) (sl + 6) E 1111 [some (.ref b), some (gr P 0), some (gr P 166), some (gr P 177), some (gr P 178), some (.int (nI m)), some (.int k), some (.int r1), none, none] [.int (h1 166 9)] h1 x1
  refine GR_iload (pc := 1111) hC dL_law_1111 rfl ?_
  refine GR_icmp_eqT (pc := 1113) (tgt := 1118) hC hT dL_law_1113 (by decide) ?_
  refine GR_iload (pc := 1118) hC dL_law_1118 rfl ?_
  by_cases hk : k = 0
  · refine GR_if_neF (pc := 1120) (tgt := 1142) hC hk dL_law_1120 (by decide) ?_
    refine GR_aload_n (pc := 1123) hC dL_law_1123 rfl rfl ?_
    refine GR_iconst (pc := 1124) (v := 0) hC dL_law_1124 rfl ?_
    refine GR_lald (pc := 1125) hC hF rfl dL_law_1125 ?_
    refine GR_iload (pc := 1126) hC dL_law_1126 rfl ?_
    by_cases hr : r1 = 0
    · refine GR_if_eqT (pc := 1128) (tgt := 1135) hC hr dL_law_1128 (by decide) ?_
      refine GR_lconst (pc := 1135) (v := 0) hC dL_law_1135 rfl ?_
      refine GR_lcmp (pc := 1136) hC dL_law_1136 ?_
      refine GR_if_eqT (pc := 1137) (tgt := 1142) hC (by rw [hR hk, if_pos hr]; exact g_lcmp_self _) dL_law_1137 (by decide) ?_
      refine GR_goto (pc := 1142) (tgt := 3182) hC dL_law_1142 (by decide) ?_
      exact GR.less kk (g_le_at (And.intro rfl (And.intro rfl (And.intro rfl (And.intro rfl (And.intro rfl (And.intro rfl trivial)))))))
    · refine GR_if_eqF (pc := 1128) (tgt := 1135) hC hr dL_law_1128 (by decide) ?_
      refine GR_lconst (pc := 1131) (v := 1) hC dL_law_1131 rfl ?_
      refine GR_goto (pc := 1132) (tgt := 1136) hC dL_law_1132 (by decide) ?_
      refine GR_lcmp (pc := 1136) hC dL_law_1136 ?_
      refine GR_if_eqT (pc := 1137) (tgt := 1142) hC (by rw [hR hk, if_neg hr]; exact g_lcmp_self _) dL_law_1137 (by decide) ?_
      refine GR_goto (pc := 1142) (tgt := 3182) hC dL_law_1142 (by decide) ?_
      exact GR.less kk (g_le_at (And.intro rfl (And.intro rfl (And.intro rfl (And.intro rfl (And.intro rfl (And.intro rfl trivial)))))))
  · refine GR_if_neT (pc := 1120) (tgt := 1142) hC hk dL_law_1120 (by decide) ?_
    refine GR_goto (pc := 1142) (tgt := 3182) hC dL_law_1142 (by decide) ?_
    exact GR.less kk (g_le_at (And.intro rfl (And.intro rfl (And.intro rfl (And.intro rfl (And.intro rfl (And.intro rfl trivial)))))))
set_option maxRecDepth 20000 in
set_option maxHeartbeats 2000000 in
theorem lc_18 {P : GP} {X : GX} {α : Type} {Qf : α → State → Prop} {E : Option α} {ce sl b n m : Nat} {xs : Nat → Int32} {g : GM} {x : GE} {g1 : GM} {x1 : GE} {k : Int32} {h1 : GM} {r1 : Int32} (hC : GC P X RL cL_law 10 room_1) (hF : g_sh P = g_full) (hf : g_on P 179) (hX : va_X b n xs X.2.2.2.2.1 X.2.2.2.2.1.heap) (hbs : b < X.2.2.2.2.1.heap.size) (hbA : ¬ X.2.2.2.2.2.2.2.2.2.2 b) (hn : n ≤ 3072) (hm : m + 6 ≤ n) (hcs : ce + 1 ≤ 601024 ∧ sl + 6 ≤ 7293033) (hL : (f_X10_whyNotGranted g (xs (m + 1)) (xs (m + 2)) (xs (m + 3))).bind (lw_F x false ltb_01) = some (g1, x1, k)) (hM1 : (f_X11_whyNotGranted g1 (xs (m + 1)) (xs (m + 2)) (xs (m + 3))) = some (h1, r1)) (hT : h1 166 9 = k) (hR : k = 0 → x1.1 0 = r1.toInt64) (kk : GR P X Qf (ce + 1) (sl + 6) E 3182 [some (.ref b), some (gr P 0), some (gr P 166), some (gr P 177), some (gr P 178), some (.int (nI m)), none, none, none, none] [] h1 x1) : GR P X Qf ce sl E 1145 [some (.ref b), some (gr P 0), some (gr P 166), some (gr P 177), some (gr P 178), some (.int (nI m)), none, none, none, none] [] g x := by
  have hcs0 : ce + 1 ≤ room_1.cells ∧ sl + 6 ≤ room_1.slots := ⟨by show _ ≤ 601024; omega, by show _ ≤ 7293033; omega⟩
  refine GR_aload_n (pc := 1145) hC dL_law_1145 rfl rfl ?_
  refine GR_arg (pc := 1146) (c := 1) hC hX hbs hbA hn (by omega) rfl rfl (by decide) rfl dL_law_1146 dL_law_1147 dL_law_1149 dL_law_1150 dL_law_1151 ?_
  refine GR_arg (pc := 1152) (c := 2) hC hX hbs hbA hn (by omega) rfl rfl (by decide) rfl dL_law_1152 dL_law_1153 dL_law_1155 dL_law_1156 dL_law_1157 ?_
  refine GR_arg (pc := 1158) (c := 3) hC hX hbs hbA hn (by omega) rfl rfl (by decide) rfl dL_law_1158 dL_law_1159 dL_law_1161 dL_law_1162 dL_law_1163 ?_
  refine GR_aload_n (pc := 1164) hC dL_law_1164 rfl rfl ?_
  refine GR_callSL (pc := 1165) (n := 5) (As := [gr P 0, .int (xs (m + 1)), .int (xs (m + 2)), .int (xs (m + 3)), gr P 177]) (b := (g1, x1, k)) hC (kL_whyNotGranted hF hf) hL ⟨g_w_mem (List.mem_of_getElem? (i := 992) (by decide +kernel)) (by decide +kernel), g_w_mem (List.mem_of_getElem? (i := 92) (by decide +kernel)) (by decide +kernel), g_w_mem (List.mem_of_getElem? (i := 991) (by decide +kernel)) (by decide +kernel), g_w_mem (List.mem_of_getElem? (i := 990) (by decide +kernel)) (by decide +kernel)⟩ ⟨by decide, by decide, by decide +kernel⟩ ⟨rfl, rfl⟩ ⟨by decide, by decide⟩ ⟨hcs.1, hcs.2⟩ rfl rfl (Nat.le_of_ble_eq_true rfl) dL_law_1165 ?_
  change GR P X Qf (ce + 1) (sl + 6) E 1168 [some (.ref b), some (gr P 0), some (gr P 166), some (gr P 177), some (gr P 178), some (.int (nI m)), none, none, none, none] [.int k] g1 x1
  refine GR_istore (pc := 1168) (L' := [some (.ref b), some (gr P 0), some (gr P 166), some (gr P 177), some (gr P 178), some (.int (nI m)), some (.int k), none, none, none]) hC dL_law_1168 (by decide) rfl rfl ?_
  refine GR_aload_n (pc := 1170) hC dL_law_1170 rfl rfl ?_
  refine GR_arg (pc := 1171) (c := 1) hC hX hbs hbA hn (by omega) rfl rfl (by decide) rfl dL_law_1171 dL_law_1172 dL_law_1174 dL_law_1175 dL_law_1176 ?_
  refine GR_arg (pc := 1177) (c := 2) hC hX hbs hbA hn (by omega) rfl rfl (by decide) rfl dL_law_1177 dL_law_1178 dL_law_1180 dL_law_1181 dL_law_1182 ?_
  refine GR_arg (pc := 1183) (c := 3) hC hX hbs hbA hn (by omega) rfl rfl (by decide) rfl dL_law_1183 dL_law_1184 dL_law_1186 dL_law_1187 dL_law_1188 ?_
  refine GR_callVK (pc := 1189) (As := [.int (xs (m + 1)), .int (xs (m + 2)), .int (xs (m + 3))]) (b := (h1, r1)) hC (k_X11_whyNotGranted (hf.mono (by decide))) hM1 MYC_X11_whyNotGranted MIC_X11_whyNotGranted (g_w_mem (List.mem_of_getElem? (i := 1796) (by decide +kernel)) (by decide +kernel)) (sh_166 (hf.mono (by decide))) rfl rfl ⟨rfl, rfl⟩ ⟨by decide, by decide⟩ hcs0 rfl rfl (Nat.le_of_ble_eq_true rfl) dL_law_1189 ?_
  change GR P X Qf (ce + 1) (sl + 6) E 1192 [some (.ref b), some (gr P 0), some (gr P 166), some (gr P 177), some (gr P 178), some (.int (nI m)), some (.int k), none, none, none] [.int r1] h1 x1
  refine GR_istore (pc := 1192) (L' := [some (.ref b), some (gr P 0), some (gr P 166), some (gr P 177), some (gr P 178), some (.int (nI m)), some (.int k), some (.int r1), none, none]) hC dL_law_1192 (by decide) rfl rfl ?_
  refine GR_aload_n (pc := 1194) hC dL_law_1194 rfl rfl ?_
  refine GR_callVK (pc := 1195) (As := []) (E0 := ((f_X11_thrown h1).map (fun r => (h1, r)))) (b := (h1, h1 166 9)) hC (k_X11_thrown (hf.mono (by decide))) rfl MYC_X11_thrown MIC_X11_thrown (g_w_mem (List.mem_of_getElem? (i := 1392) (by decide +kernel)) (by decide +kernel)) (sh_166 (hf.mono (by decide))) rfl rfl ⟨rfl, rfl⟩ ⟨by decide, by decide⟩ hcs0 rfl rfl (Nat.le_of_ble_eq_true rfl) dL_law_1195 ?_
  change GR P X Qf (ce + 1) (sl + 6) E 1198 [some (.ref b), some (gr P 0), some (gr P 166), some (gr P 177), some (gr P 178), some (.int (nI m)), some (.int k), some (.int r1), none, none] [.int (h1 166 9)] h1 x1
  refine GR_iload (pc := 1198) hC dL_law_1198 rfl ?_
  refine GR_icmp_eqT (pc := 1200) (tgt := 1205) hC hT dL_law_1200 (by decide) ?_
  refine GR_iload (pc := 1205) hC dL_law_1205 rfl ?_
  by_cases hk : k = 0
  · refine GR_if_neF (pc := 1207) (tgt := 1222) hC hk dL_law_1207 (by decide) ?_
    refine GR_aload_n (pc := 1210) hC dL_law_1210 rfl rfl ?_
    refine GR_iconst (pc := 1211) (v := 0) hC dL_law_1211 rfl ?_
    refine GR_lald (pc := 1212) hC hF rfl dL_law_1212 ?_
    refine GR_iload (pc := 1213) hC dL_law_1213 rfl ?_
    refine GR_i2l (pc := 1215) hC dL_law_1215 ?_
    refine GR_lcmp (pc := 1216) hC dL_law_1216 ?_
    refine GR_if_eqT (pc := 1217) (tgt := 1222) hC (by rw [hR hk]; exact g_lcmp_self _) dL_law_1217 (by decide) ?_
    refine GR_goto (pc := 1222) (tgt := 3182) hC dL_law_1222 (by decide) ?_
    exact GR.less kk (g_le_at (And.intro rfl (And.intro rfl (And.intro rfl (And.intro rfl (And.intro rfl (And.intro rfl trivial)))))))
  · refine GR_if_neT (pc := 1207) (tgt := 1222) hC hk dL_law_1207 (by decide) ?_
    refine GR_goto (pc := 1222) (tgt := 3182) hC dL_law_1222 (by decide) ?_
    exact GR.less kk (g_le_at (And.intro rfl (And.intro rfl (And.intro rfl (And.intro rfl (And.intro rfl (And.intro rfl trivial)))))))
set_option maxRecDepth 20000 in
set_option maxHeartbeats 2000000 in
theorem lc_19 {P : GP} {X : GX} {α : Type} {Qf : α → State → Prop} {E : Option α} {ce sl b n m : Nat} {xs : Nat → Int32} {g : GM} {x : GE} {g1 : GM} {x1 : GE} {k : Int32} {h1 : GM} {r1 : Int32} (hC : GC P X RL cL_law 10 room_1) (hF : g_sh P = g_full) (hf : g_on P 179) (hX : va_X b n xs X.2.2.2.2.1 X.2.2.2.2.1.heap) (hbs : b < X.2.2.2.2.1.heap.size) (hbA : ¬ X.2.2.2.2.2.2.2.2.2.2 b) (hn : n ≤ 3072) (hm : m + 6 ≤ n) (hcs : ce + 1 ≤ 601024 ∧ sl + 6 ≤ 7293033) (hL : (f_X10_largestGrant g (xs (m + 1)) (xs (m + 2))).bind (lw_F x false ltb_0) = some (g1, x1, k)) (hM1 : (f_X11_largestGrant g1 (xs (m + 1)) (xs (m + 2))) = some (h1, r1)) (hT : h1 166 9 = k) (hR : k = 0 → x1.1 0 = r1.toInt64) (kk : GR P X Qf (ce + 1) (sl + 6) E 3182 [some (.ref b), some (gr P 0), some (gr P 166), some (gr P 177), some (gr P 178), some (.int (nI m)), none, none, none, none] [] h1 x1) : GR P X Qf ce sl E 1225 [some (.ref b), some (gr P 0), some (gr P 166), some (gr P 177), some (gr P 178), some (.int (nI m)), none, none, none, none] [] g x := by
  have hcs0 : ce + 1 ≤ room_1.cells ∧ sl + 6 ≤ room_1.slots := ⟨by show _ ≤ 601024; omega, by show _ ≤ 7293033; omega⟩
  refine GR_aload_n (pc := 1225) hC dL_law_1225 rfl rfl ?_
  refine GR_arg (pc := 1226) (c := 1) hC hX hbs hbA hn (by omega) rfl rfl (by decide) rfl dL_law_1226 dL_law_1227 dL_law_1229 dL_law_1230 dL_law_1231 ?_
  refine GR_arg (pc := 1232) (c := 2) hC hX hbs hbA hn (by omega) rfl rfl (by decide) rfl dL_law_1232 dL_law_1233 dL_law_1235 dL_law_1236 dL_law_1237 ?_
  refine GR_aload_n (pc := 1238) hC dL_law_1238 rfl rfl ?_
  refine GR_callSL (pc := 1239) (n := 4) (As := [gr P 0, .int (xs (m + 1)), .int (xs (m + 2)), gr P 177]) (b := (g1, x1, k)) hC (kL_largestGrant hF hf) hL ⟨g_w_mem (List.mem_of_getElem? (i := 1008) (by decide +kernel)) (by decide +kernel), g_w_mem (List.mem_of_getElem? (i := 92) (by decide +kernel)) (by decide +kernel), g_w_mem (List.mem_of_getElem? (i := 1007) (by decide +kernel)) (by decide +kernel), g_w_mem (List.mem_of_getElem? (i := 1006) (by decide +kernel)) (by decide +kernel)⟩ ⟨by decide, by decide, by decide +kernel⟩ ⟨rfl, rfl⟩ ⟨by decide, by decide⟩ ⟨hcs.1, hcs.2⟩ rfl rfl (Nat.le_of_ble_eq_true rfl) dL_law_1239 ?_
  change GR P X Qf (ce + 1) (sl + 6) E 1242 [some (.ref b), some (gr P 0), some (gr P 166), some (gr P 177), some (gr P 178), some (.int (nI m)), none, none, none, none] [.int k] g1 x1
  refine GR_istore (pc := 1242) (L' := [some (.ref b), some (gr P 0), some (gr P 166), some (gr P 177), some (gr P 178), some (.int (nI m)), some (.int k), none, none, none]) hC dL_law_1242 (by decide) rfl rfl ?_
  refine GR_aload_n (pc := 1244) hC dL_law_1244 rfl rfl ?_
  refine GR_arg (pc := 1245) (c := 1) hC hX hbs hbA hn (by omega) rfl rfl (by decide) rfl dL_law_1245 dL_law_1246 dL_law_1248 dL_law_1249 dL_law_1250 ?_
  refine GR_arg (pc := 1251) (c := 2) hC hX hbs hbA hn (by omega) rfl rfl (by decide) rfl dL_law_1251 dL_law_1252 dL_law_1254 dL_law_1255 dL_law_1256 ?_
  refine GR_callVK (pc := 1257) (As := [.int (xs (m + 1)), .int (xs (m + 2))]) (b := (h1, r1)) hC (k_X11_largestGrant (hf.mono (by decide))) hM1 MYC_X11_largestGrant MIC_X11_largestGrant (g_w_mem (List.mem_of_getElem? (i := 1804) (by decide +kernel)) (by decide +kernel)) (sh_166 (hf.mono (by decide))) rfl rfl ⟨rfl, rfl⟩ ⟨by decide, by decide⟩ hcs0 rfl rfl (Nat.le_of_ble_eq_true rfl) dL_law_1257 ?_
  change GR P X Qf (ce + 1) (sl + 6) E 1260 [some (.ref b), some (gr P 0), some (gr P 166), some (gr P 177), some (gr P 178), some (.int (nI m)), some (.int k), none, none, none] [.int r1] h1 x1
  refine GR_istore (pc := 1260) (L' := [some (.ref b), some (gr P 0), some (gr P 166), some (gr P 177), some (gr P 178), some (.int (nI m)), some (.int k), some (.int r1), none, none]) hC dL_law_1260 (by decide) rfl rfl ?_
  refine GR_aload_n (pc := 1262) hC dL_law_1262 rfl rfl ?_
  refine GR_callVK (pc := 1263) (As := []) (E0 := ((f_X11_thrown h1).map (fun r => (h1, r)))) (b := (h1, h1 166 9)) hC (k_X11_thrown (hf.mono (by decide))) rfl MYC_X11_thrown MIC_X11_thrown (g_w_mem (List.mem_of_getElem? (i := 1392) (by decide +kernel)) (by decide +kernel)) (sh_166 (hf.mono (by decide))) rfl rfl ⟨rfl, rfl⟩ ⟨by decide, by decide⟩ hcs0 rfl rfl (Nat.le_of_ble_eq_true rfl) dL_law_1263 ?_
  change GR P X Qf (ce + 1) (sl + 6) E 1266 [some (.ref b), some (gr P 0), some (gr P 166), some (gr P 177), some (gr P 178), some (.int (nI m)), some (.int k), some (.int r1), none, none] [.int (h1 166 9)] h1 x1
  refine GR_iload (pc := 1266) hC dL_law_1266 rfl ?_
  refine GR_icmp_eqT (pc := 1268) (tgt := 1273) hC hT dL_law_1268 (by decide) ?_
  refine GR_iload (pc := 1273) hC dL_law_1273 rfl ?_
  by_cases hk : k = 0
  · refine GR_if_neF (pc := 1275) (tgt := 1290) hC hk dL_law_1275 (by decide) ?_
    refine GR_aload_n (pc := 1278) hC dL_law_1278 rfl rfl ?_
    refine GR_iconst (pc := 1279) (v := 0) hC dL_law_1279 rfl ?_
    refine GR_lald (pc := 1280) hC hF rfl dL_law_1280 ?_
    refine GR_iload (pc := 1281) hC dL_law_1281 rfl ?_
    refine GR_i2l (pc := 1283) hC dL_law_1283 ?_
    refine GR_lcmp (pc := 1284) hC dL_law_1284 ?_
    refine GR_if_eqT (pc := 1285) (tgt := 1290) hC (by rw [hR hk]; exact g_lcmp_self _) dL_law_1285 (by decide) ?_
    refine GR_goto (pc := 1290) (tgt := 3182) hC dL_law_1290 (by decide) ?_
    exact GR.less kk (g_le_at (And.intro rfl (And.intro rfl (And.intro rfl (And.intro rfl (And.intro rfl (And.intro rfl trivial)))))))
  · refine GR_if_neT (pc := 1275) (tgt := 1290) hC hk dL_law_1275 (by decide) ?_
    refine GR_goto (pc := 1290) (tgt := 3182) hC dL_law_1290 (by decide) ?_
    exact GR.less kk (g_le_at (And.intro rfl (And.intro rfl (And.intro rfl (And.intro rfl (And.intro rfl (And.intro rfl trivial)))))))
set_option maxRecDepth 20000 in
set_option maxHeartbeats 2000000 in
theorem lc_20 {P : GP} {X : GX} {α : Type} {Qf : α → State → Prop} {E : Option α} {ce sl b n m : Nat} {xs : Nat → Int32} {g : GM} {x : GE} {g1 : GM} {x1 : GE} {k : Int32} {h1 : GM} {r1 : Int32} (hC : GC P X RL cL_law 10 room_1) (hF : g_sh P = g_full) (hf : g_on P 179) (hX : va_X b n xs X.2.2.2.2.1 X.2.2.2.2.1.heap) (hbs : b < X.2.2.2.2.1.heap.size) (hbA : ¬ X.2.2.2.2.2.2.2.2.2.2 b) (hn : n ≤ 3072) (hm : m + 6 ≤ n) (hcs : ce + 1 ≤ 601024 ∧ sl + 6 ≤ 7293033) (hL : (f_X10_safeCapacity g (xs (m + 1))).bind (lw_F x false ltb_0) = some (g1, x1, k)) (hM1 : (f_X11_safeCapacity g1 (xs (m + 1))) = some (h1, r1)) (hT : h1 166 9 = k) (hR : k = 0 → x1.1 0 = r1.toInt64) (kk : GR P X Qf (ce + 1) (sl + 6) E 3182 [some (.ref b), some (gr P 0), some (gr P 166), some (gr P 177), some (gr P 178), some (.int (nI m)), none, none, none, none] [] h1 x1) : GR P X Qf ce sl E 1293 [some (.ref b), some (gr P 0), some (gr P 166), some (gr P 177), some (gr P 178), some (.int (nI m)), none, none, none, none] [] g x := by
  have hcs0 : ce + 1 ≤ room_1.cells ∧ sl + 6 ≤ room_1.slots := ⟨by show _ ≤ 601024; omega, by show _ ≤ 7293033; omega⟩
  refine GR_aload_n (pc := 1293) hC dL_law_1293 rfl rfl ?_
  refine GR_arg (pc := 1294) (c := 1) hC hX hbs hbA hn (by omega) rfl rfl (by decide) rfl dL_law_1294 dL_law_1295 dL_law_1297 dL_law_1298 dL_law_1299 ?_
  refine GR_aload_n (pc := 1300) hC dL_law_1300 rfl rfl ?_
  refine GR_callSL (pc := 1301) (n := 3) (As := [gr P 0, .int (xs (m + 1)), gr P 177]) (b := (g1, x1, k)) hC (kL_safeCapacity hF hf) hL ⟨g_w_mem (List.mem_of_getElem? (i := 1026) (by decide +kernel)) (by decide +kernel), g_w_mem (List.mem_of_getElem? (i := 92) (by decide +kernel)) (by decide +kernel), g_w_mem (List.mem_of_getElem? (i := 1025) (by decide +kernel)) (by decide +kernel), g_w_mem (List.mem_of_getElem? (i := 1024) (by decide +kernel)) (by decide +kernel)⟩ ⟨by decide, by decide, by decide +kernel⟩ ⟨rfl, rfl⟩ ⟨by decide, by decide⟩ ⟨hcs.1, hcs.2⟩ rfl rfl (Nat.le_of_ble_eq_true rfl) dL_law_1301 ?_
  change GR P X Qf (ce + 1) (sl + 6) E 1304 [some (.ref b), some (gr P 0), some (gr P 166), some (gr P 177), some (gr P 178), some (.int (nI m)), none, none, none, none] [.int k] g1 x1
  refine GR_istore (pc := 1304) (L' := [some (.ref b), some (gr P 0), some (gr P 166), some (gr P 177), some (gr P 178), some (.int (nI m)), some (.int k), none, none, none]) hC dL_law_1304 (by decide) rfl rfl ?_
  refine GR_aload_n (pc := 1306) hC dL_law_1306 rfl rfl ?_
  refine GR_arg (pc := 1307) (c := 1) hC hX hbs hbA hn (by omega) rfl rfl (by decide) rfl dL_law_1307 dL_law_1308 dL_law_1310 dL_law_1311 dL_law_1312 ?_
  refine GR_callVK (pc := 1313) (As := [.int (xs (m + 1))]) (b := (h1, r1)) hC (k_X11_safeCapacity (hf.mono (by decide))) hM1 MYC_X11_safeCapacity MIC_X11_safeCapacity (g_w_mem (List.mem_of_getElem? (i := 1808) (by decide +kernel)) (by decide +kernel)) (sh_166 (hf.mono (by decide))) rfl rfl ⟨rfl, rfl⟩ ⟨by decide, by decide⟩ hcs0 rfl rfl (Nat.le_of_ble_eq_true rfl) dL_law_1313 ?_
  change GR P X Qf (ce + 1) (sl + 6) E 1316 [some (.ref b), some (gr P 0), some (gr P 166), some (gr P 177), some (gr P 178), some (.int (nI m)), some (.int k), none, none, none] [.int r1] h1 x1
  refine GR_istore (pc := 1316) (L' := [some (.ref b), some (gr P 0), some (gr P 166), some (gr P 177), some (gr P 178), some (.int (nI m)), some (.int k), some (.int r1), none, none]) hC dL_law_1316 (by decide) rfl rfl ?_
  refine GR_aload_n (pc := 1318) hC dL_law_1318 rfl rfl ?_
  refine GR_callVK (pc := 1319) (As := []) (E0 := ((f_X11_thrown h1).map (fun r => (h1, r)))) (b := (h1, h1 166 9)) hC (k_X11_thrown (hf.mono (by decide))) rfl MYC_X11_thrown MIC_X11_thrown (g_w_mem (List.mem_of_getElem? (i := 1392) (by decide +kernel)) (by decide +kernel)) (sh_166 (hf.mono (by decide))) rfl rfl ⟨rfl, rfl⟩ ⟨by decide, by decide⟩ hcs0 rfl rfl (Nat.le_of_ble_eq_true rfl) dL_law_1319 ?_
  change GR P X Qf (ce + 1) (sl + 6) E 1322 [some (.ref b), some (gr P 0), some (gr P 166), some (gr P 177), some (gr P 178), some (.int (nI m)), some (.int k), some (.int r1), none, none] [.int (h1 166 9)] h1 x1
  refine GR_iload (pc := 1322) hC dL_law_1322 rfl ?_
  refine GR_icmp_eqT (pc := 1324) (tgt := 1329) hC hT dL_law_1324 (by decide) ?_
  refine GR_iload (pc := 1329) hC dL_law_1329 rfl ?_
  by_cases hk : k = 0
  · refine GR_if_neF (pc := 1331) (tgt := 1346) hC hk dL_law_1331 (by decide) ?_
    refine GR_aload_n (pc := 1334) hC dL_law_1334 rfl rfl ?_
    refine GR_iconst (pc := 1335) (v := 0) hC dL_law_1335 rfl ?_
    refine GR_lald (pc := 1336) hC hF rfl dL_law_1336 ?_
    refine GR_iload (pc := 1337) hC dL_law_1337 rfl ?_
    refine GR_i2l (pc := 1339) hC dL_law_1339 ?_
    refine GR_lcmp (pc := 1340) hC dL_law_1340 ?_
    refine GR_if_eqT (pc := 1341) (tgt := 1346) hC (by rw [hR hk]; exact g_lcmp_self _) dL_law_1341 (by decide) ?_
    refine GR_goto (pc := 1346) (tgt := 3182) hC dL_law_1346 (by decide) ?_
    exact GR.less kk (g_le_at (And.intro rfl (And.intro rfl (And.intro rfl (And.intro rfl (And.intro rfl (And.intro rfl trivial)))))))
  · refine GR_if_neT (pc := 1331) (tgt := 1346) hC hk dL_law_1331 (by decide) ?_
    refine GR_goto (pc := 1346) (tgt := 3182) hC dL_law_1346 (by decide) ?_
    exact GR.less kk (g_le_at (And.intro rfl (And.intro rfl (And.intro rfl (And.intro rfl (And.intro rfl (And.intro rfl trivial)))))))
set_option maxRecDepth 20000 in
set_option maxHeartbeats 2000000 in
theorem lc_21 {P : GP} {X : GX} {α : Type} {Qf : α → State → Prop} {E : Option α} {ce sl b n m : Nat} {xs : Nat → Int32} {g : GM} {x : GE}  {h1 : GM} {r1 : Int32} {h2 : GM} {r2 : Int32} (hC : GC P X RL cL_law 10 room_1) (hF : g_sh P = g_full) (hf : g_on P 179) (hX : va_X b n xs X.2.2.2.2.1 X.2.2.2.2.1.heap) (hbs : b < X.2.2.2.2.1.heap.size) (hbA : ¬ X.2.2.2.2.2.2.2.2.2.2 b) (hn : n ≤ 3072) (hm : m + 6 ≤ n) (hcs : ce + 1 ≤ 601024 ∧ sl + 6 ≤ 7293033) (hM1 : (f_X10_bestToFinish g) = some (h1, r1)) (hM2 : (f_X11_bestToFinish h1) = some (h2, r2)) (hR : r1 = r2) (kk : GR P X Qf (ce + 1) (sl + 6) E 3182 [some (.ref b), some (gr P 0), some (gr P 166), some (gr P 177), some (gr P 178), some (.int (nI m)), none, none, none, none] [] h2 x) : GR P X Qf ce sl E 1349 [some (.ref b), some (gr P 0), some (gr P 166), some (gr P 177), some (gr P 178), some (.int (nI m)), none, none, none, none] [] g x := by
  have hcs0 : ce ≤ room_1.cells ∧ sl ≤ room_1.slots := ⟨by show _ ≤ 601024; omega, by show _ ≤ 7293033; omega⟩
  refine GR_aload_n (pc := 1349) hC dL_law_1349 rfl rfl ?_
  refine GR_callVK (pc := 1350) (As := []) (b := (h1, r1)) hC (k_X10_bestToFinish (hf.mono (by decide))) hM1 MYC_X10_bestToFinish MIC_X10_bestToFinish (g_w_mem (List.mem_of_getElem? (i := 595) (by decide +kernel)) (by decide +kernel)) (sh_0 (hf.mono (by decide))) rfl rfl ⟨rfl, rfl⟩ ⟨by decide, by decide⟩ hcs0 rfl rfl (Nat.le_of_ble_eq_true rfl) dL_law_1350 ?_
  change GR P X Qf (ce) (sl) E 1353 [some (.ref b), some (gr P 0), some (gr P 166), some (gr P 177), some (gr P 178), some (.int (nI m)), none, none, none, none] [.int r1] h1 x
  refine GR_aload_n (pc := 1353) hC dL_law_1353 rfl rfl ?_
  refine GR_callVK (pc := 1354) (As := []) (b := (h2, r2)) hC (k_X11_bestToFinish (hf.mono (by decide))) hM2 MYC_X11_bestToFinish MIC_X11_bestToFinish (g_w_mem (List.mem_of_getElem? (i := 1812) (by decide +kernel)) (by decide +kernel)) (sh_166 (hf.mono (by decide))) rfl rfl ⟨rfl, rfl⟩ ⟨by decide, by decide⟩ hcs0 rfl rfl (Nat.le_of_ble_eq_true rfl) dL_law_1354 ?_
  change GR P X Qf (ce) (sl) E 1357 [some (.ref b), some (gr P 0), some (gr P 166), some (gr P 177), some (gr P 178), some (.int (nI m)), none, none, none, none] [.int r2, .int r1] h2 x
  refine GR_icmp_eqT (pc := 1357) (tgt := 3182) hC hR dL_law_1357 (by decide) ?_
  exact GR.wide (GR.less (kk) (g_le_at (And.intro rfl (And.intro rfl (And.intro rfl (And.intro rfl (And.intro rfl (And.intro rfl trivial))))))))
set_option maxRecDepth 20000 in
set_option maxHeartbeats 2000000 in
theorem lc_22 {P : GP} {X : GX} {α : Type} {Qf : α → State → Prop} {E : Option α} {ce sl b n m : Nat} {xs : Nat → Int32} {g : GM} {x : GE}  {h1 : GM} {r1 : Int32} {h2 : GM} {r2 : Int32} (hC : GC P X RL cL_law 10 room_1) (hF : g_sh P = g_full) (hf : g_on P 179) (hX : va_X b n xs X.2.2.2.2.1 X.2.2.2.2.1.heap) (hbs : b < X.2.2.2.2.1.heap.size) (hbA : ¬ X.2.2.2.2.2.2.2.2.2.2 b) (hn : n ≤ 3072) (hm : m + 6 ≤ n) (hcs : ce + 1 ≤ 601024 ∧ sl + 6 ≤ 7293033) (hM1 : ((f_X10_queueLength g).map (fun r => (g, r))) = some (h1, r1)) (hM2 : (f_X11_queueLength h1) = some (h2, r2)) (hR : r1 = r2) (kk : GR P X Qf (ce + 1) (sl + 6) E 3182 [some (.ref b), some (gr P 0), some (gr P 166), some (gr P 177), some (gr P 178), some (.int (nI m)), none, none, none, none] [] h2 x) : GR P X Qf ce sl E 1362 [some (.ref b), some (gr P 0), some (gr P 166), some (gr P 177), some (gr P 178), some (.int (nI m)), none, none, none, none] [] g x := by
  have hcs0 : ce ≤ room_1.cells ∧ sl ≤ room_1.slots := ⟨by show _ ≤ 601024; omega, by show _ ≤ 7293033; omega⟩
  refine GR_aload_n (pc := 1362) hC dL_law_1362 rfl rfl ?_
  refine GR_callVK (pc := 1363) (As := []) (b := (h1, r1)) hC (k_X10_queueLength (hf.mono (by decide))) hM1 MYC_X10_queueLength MIC_X10_queueLength (g_w_mem (List.mem_of_getElem? (i := 639) (by decide +kernel)) (by decide +kernel)) (sh_0 (hf.mono (by decide))) rfl rfl ⟨rfl, rfl⟩ ⟨by decide, by decide⟩ hcs0 rfl rfl (Nat.le_of_ble_eq_true rfl) dL_law_1363 ?_
  change GR P X Qf (ce) (sl) E 1366 [some (.ref b), some (gr P 0), some (gr P 166), some (gr P 177), some (gr P 178), some (.int (nI m)), none, none, none, none] [.int r1] h1 x
  refine GR_aload_n (pc := 1366) hC dL_law_1366 rfl rfl ?_
  refine GR_callVK (pc := 1367) (As := []) (b := (h2, r2)) hC (k_X11_queueLength (hf.mono (by decide))) hM2 MYC_X11_queueLength MIC_X11_queueLength (g_w_mem (List.mem_of_getElem? (i := 1816) (by decide +kernel)) (by decide +kernel)) (sh_166 (hf.mono (by decide))) rfl rfl ⟨rfl, rfl⟩ ⟨by decide, by decide⟩ hcs0 rfl rfl (Nat.le_of_ble_eq_true rfl) dL_law_1367 ?_
  change GR P X Qf (ce) (sl) E 1370 [some (.ref b), some (gr P 0), some (gr P 166), some (gr P 177), some (gr P 178), some (.int (nI m)), none, none, none, none] [.int r2, .int r1] h2 x
  refine GR_icmp_eqT (pc := 1370) (tgt := 3182) hC hR dL_law_1370 (by decide) ?_
  exact GR.wide (GR.less (kk) (g_le_at (And.intro rfl (And.intro rfl (And.intro rfl (And.intro rfl (And.intro rfl (And.intro rfl trivial))))))))
set_option maxRecDepth 20000 in
set_option maxHeartbeats 2000000 in
theorem lc_23 {P : GP} {X : GX} {α : Type} {Qf : α → State → Prop} {E : Option α} {ce sl b n m : Nat} {xs : Nat → Int32} {g : GM} {x : GE}  {h1 : GM} {r1 : Int32} {h2 : GM} {r2 : Int32} (hC : GC P X RL cL_law 10 room_1) (hF : g_sh P = g_full) (hf : g_on P 179) (hX : va_X b n xs X.2.2.2.2.1 X.2.2.2.2.1.heap) (hbs : b < X.2.2.2.2.1.heap.size) (hbA : ¬ X.2.2.2.2.2.2.2.2.2.2 b) (hn : n ≤ 3072) (hm : m + 6 ≤ n) (hcs : ce + 1 ≤ 601024 ∧ sl + 6 ≤ 7293033) (hM1 : ((f_X10_queuedHerd g (xs (m + 1))).map (fun r => (g, r))) = some (h1, r1)) (hM2 : (f_X11_queuedHerd h1 (xs (m + 1))) = some (h2, r2)) (hR : r1 = r2) (kk : GR P X Qf (ce + 1) (sl + 6) E 3182 [some (.ref b), some (gr P 0), some (gr P 166), some (gr P 177), some (gr P 178), some (.int (nI m)), none, none, none, none] [] h2 x) : GR P X Qf ce sl E 1375 [some (.ref b), some (gr P 0), some (gr P 166), some (gr P 177), some (gr P 178), some (.int (nI m)), none, none, none, none] [] g x := by
  have hcs0 : ce ≤ room_1.cells ∧ sl ≤ room_1.slots := ⟨by show _ ≤ 601024; omega, by show _ ≤ 7293033; omega⟩
  refine GR_aload_n (pc := 1375) hC dL_law_1375 rfl rfl ?_
  refine GR_arg (pc := 1376) (c := 1) hC hX hbs hbA hn (by omega) rfl rfl (by decide) rfl dL_law_1376 dL_law_1377 dL_law_1379 dL_law_1380 dL_law_1381 ?_
  refine GR_callVK (pc := 1382) (As := [.int (xs (m + 1))]) (b := (h1, r1)) hC (k_X10_queuedHerd (hf.mono (by decide))) hM1 MYC_X10_queuedHerd MIC_X10_queuedHerd (g_w_mem (List.mem_of_getElem? (i := 643) (by decide +kernel)) (by decide +kernel)) (sh_0 (hf.mono (by decide))) rfl rfl ⟨rfl, rfl⟩ ⟨by decide, by decide⟩ hcs0 rfl rfl (Nat.le_of_ble_eq_true rfl) dL_law_1382 ?_
  change GR P X Qf (ce) (sl) E 1385 [some (.ref b), some (gr P 0), some (gr P 166), some (gr P 177), some (gr P 178), some (.int (nI m)), none, none, none, none] [.int r1] h1 x
  refine GR_aload_n (pc := 1385) hC dL_law_1385 rfl rfl ?_
  refine GR_arg (pc := 1386) (c := 1) hC hX hbs hbA hn (by omega) rfl rfl (by decide) rfl dL_law_1386 dL_law_1387 dL_law_1389 dL_law_1390 dL_law_1391 ?_
  refine GR_callVK (pc := 1392) (As := [.int (xs (m + 1))]) (b := (h2, r2)) hC (k_X11_queuedHerd (hf.mono (by decide))) hM2 MYC_X11_queuedHerd MIC_X11_queuedHerd (g_w_mem (List.mem_of_getElem? (i := 1820) (by decide +kernel)) (by decide +kernel)) (sh_166 (hf.mono (by decide))) rfl rfl ⟨rfl, rfl⟩ ⟨by decide, by decide⟩ hcs0 rfl rfl (Nat.le_of_ble_eq_true rfl) dL_law_1392 ?_
  change GR P X Qf (ce) (sl) E 1395 [some (.ref b), some (gr P 0), some (gr P 166), some (gr P 177), some (gr P 178), some (.int (nI m)), none, none, none, none] [.int r2, .int r1] h2 x
  refine GR_icmp_eqT (pc := 1395) (tgt := 3182) hC hR dL_law_1395 (by decide) ?_
  exact GR.wide (GR.less (kk) (g_le_at (And.intro rfl (And.intro rfl (And.intro rfl (And.intro rfl (And.intro rfl (And.intro rfl trivial))))))))
set_option maxRecDepth 20000 in
set_option maxHeartbeats 2000000 in
theorem lc_24 {P : GP} {X : GX} {α : Type} {Qf : α → State → Prop} {E : Option α} {ce sl b n m : Nat} {xs : Nat → Int32} {g : GM} {x : GE} {g1 : GM} {x1 : GE} {k : Int32} {h1 : GM} {r1 : Int32} (hC : GC P X RL cL_law 10 room_1) (hF : g_sh P = g_full) (hf : g_on P 179) (hX : va_X b n xs X.2.2.2.2.1 X.2.2.2.2.1.heap) (hbs : b < X.2.2.2.2.1.heap.size) (hbA : ¬ X.2.2.2.2.2.2.2.2.2.2 b) (hn : n ≤ 3072) (hm : m + 6 ≤ n) (hcs : ce + 1 ≤ 601024 ∧ sl + 6 ≤ 7293033) (hL : (f_X10_isWaiting g (xs (m + 1))).bind (lw_F x true ltb_0) = some (g1, x1, k)) (hM1 : (f_X11_isWaiting g1 (xs (m + 1))) = some (h1, r1)) (hT : h1 166 9 = k) (hR : k = 0 → x1.1 0 = (if r1 = 0 then 0 else 1)) (kk : GR P X Qf (ce + 1) (sl + 6) E 3182 [some (.ref b), some (gr P 0), some (gr P 166), some (gr P 177), some (gr P 178), some (.int (nI m)), none, none, none, none] [] h1 x1) : GR P X Qf ce sl E 1400 [some (.ref b), some (gr P 0), some (gr P 166), some (gr P 177), some (gr P 178), some (.int (nI m)), none, none, none, none] [] g x := by
  have hcs0 : ce + 1 ≤ room_1.cells ∧ sl + 6 ≤ room_1.slots := ⟨by show _ ≤ 601024; omega, by show _ ≤ 7293033; omega⟩
  refine GR_aload_n (pc := 1400) hC dL_law_1400 rfl rfl ?_
  refine GR_arg (pc := 1401) (c := 1) hC hX hbs hbA hn (by omega) rfl rfl (by decide) rfl dL_law_1401 dL_law_1402 dL_law_1404 dL_law_1405 dL_law_1406 ?_
  refine GR_aload_n (pc := 1407) hC dL_law_1407 rfl rfl ?_
  refine GR_callSL (pc := 1408) (n := 3) (As := [gr P 0, .int (xs (m + 1)), gr P 177]) (b := (g1, x1, k)) hC (kL_isWaiting hF hf) hL ⟨g_w_mem (List.mem_of_getElem? (i := 1038) (by decide +kernel)) (by decide +kernel), g_w_mem (List.mem_of_getElem? (i := 92) (by decide +kernel)) (by decide +kernel), g_w_mem (List.mem_of_getElem? (i := 1037) (by decide +kernel)) (by decide +kernel), g_w_mem (List.mem_of_getElem? (i := 1036) (by decide +kernel)) (by decide +kernel)⟩ ⟨by decide, by decide, by decide +kernel⟩ ⟨rfl, rfl⟩ ⟨by decide, by decide⟩ ⟨hcs.1, hcs.2⟩ rfl rfl (Nat.le_of_ble_eq_true rfl) dL_law_1408 ?_
  change GR P X Qf (ce + 1) (sl + 6) E 1411 [some (.ref b), some (gr P 0), some (gr P 166), some (gr P 177), some (gr P 178), some (.int (nI m)), none, none, none, none] [.int k] g1 x1
  refine GR_istore (pc := 1411) (L' := [some (.ref b), some (gr P 0), some (gr P 166), some (gr P 177), some (gr P 178), some (.int (nI m)), some (.int k), none, none, none]) hC dL_law_1411 (by decide) rfl rfl ?_
  refine GR_aload_n (pc := 1413) hC dL_law_1413 rfl rfl ?_
  refine GR_arg (pc := 1414) (c := 1) hC hX hbs hbA hn (by omega) rfl rfl (by decide) rfl dL_law_1414 dL_law_1415 dL_law_1417 dL_law_1418 dL_law_1419 ?_
  refine GR_callVK (pc := 1420) (As := [.int (xs (m + 1))]) (b := (h1, r1)) hC (k_X11_isWaiting (hf.mono (by decide))) hM1 MYC_X11_isWaiting MIC_X11_isWaiting (g_w_mem (List.mem_of_getElem? (i := 1824) (by decide +kernel)) (by decide +kernel)) (sh_166 (hf.mono (by decide))) rfl rfl ⟨rfl, rfl⟩ ⟨by decide, by decide⟩ hcs0 rfl rfl (Nat.le_of_ble_eq_true rfl) dL_law_1420 ?_
  change GR P X Qf (ce + 1) (sl + 6) E 1423 [some (.ref b), some (gr P 0), some (gr P 166), some (gr P 177), some (gr P 178), some (.int (nI m)), some (.int k), none, none, none] [.int r1] h1 x1
  refine GR_istore (pc := 1423) (L' := [some (.ref b), some (gr P 0), some (gr P 166), some (gr P 177), some (gr P 178), some (.int (nI m)), some (.int k), some (.int r1), none, none]) hC dL_law_1423 (by decide) rfl rfl ?_
  refine GR_aload_n (pc := 1425) hC dL_law_1425 rfl rfl ?_
  refine GR_callVK (pc := 1426) (As := []) (E0 := ((f_X11_thrown h1).map (fun r => (h1, r)))) (b := (h1, h1 166 9)) hC (k_X11_thrown (hf.mono (by decide))) rfl MYC_X11_thrown MIC_X11_thrown (g_w_mem (List.mem_of_getElem? (i := 1392) (by decide +kernel)) (by decide +kernel)) (sh_166 (hf.mono (by decide))) rfl rfl ⟨rfl, rfl⟩ ⟨by decide, by decide⟩ hcs0 rfl rfl (Nat.le_of_ble_eq_true rfl) dL_law_1426 ?_
  change GR P X Qf (ce + 1) (sl + 6) E 1429 [some (.ref b), some (gr P 0), some (gr P 166), some (gr P 177), some (gr P 178), some (.int (nI m)), some (.int k), some (.int r1), none, none] [.int (h1 166 9)] h1 x1
  refine GR_iload (pc := 1429) hC dL_law_1429 rfl ?_
  refine GR_icmp_eqT (pc := 1431) (tgt := 1436) hC hT dL_law_1431 (by decide) ?_
  refine GR_iload (pc := 1436) hC dL_law_1436 rfl ?_
  by_cases hk : k = 0
  · refine GR_if_neF (pc := 1438) (tgt := 1460) hC hk dL_law_1438 (by decide) ?_
    refine GR_aload_n (pc := 1441) hC dL_law_1441 rfl rfl ?_
    refine GR_iconst (pc := 1442) (v := 0) hC dL_law_1442 rfl ?_
    refine GR_lald (pc := 1443) hC hF rfl dL_law_1443 ?_
    refine GR_iload (pc := 1444) hC dL_law_1444 rfl ?_
    by_cases hr : r1 = 0
    · refine GR_if_eqT (pc := 1446) (tgt := 1453) hC hr dL_law_1446 (by decide) ?_
      refine GR_lconst (pc := 1453) (v := 0) hC dL_law_1453 rfl ?_
      refine GR_lcmp (pc := 1454) hC dL_law_1454 ?_
      refine GR_if_eqT (pc := 1455) (tgt := 1460) hC (by rw [hR hk, if_pos hr]; exact g_lcmp_self _) dL_law_1455 (by decide) ?_
      refine GR_goto (pc := 1460) (tgt := 3182) hC dL_law_1460 (by decide) ?_
      exact GR.less kk (g_le_at (And.intro rfl (And.intro rfl (And.intro rfl (And.intro rfl (And.intro rfl (And.intro rfl trivial)))))))
    · refine GR_if_eqF (pc := 1446) (tgt := 1453) hC hr dL_law_1446 (by decide) ?_
      refine GR_lconst (pc := 1449) (v := 1) hC dL_law_1449 rfl ?_
      refine GR_goto (pc := 1450) (tgt := 1454) hC dL_law_1450 (by decide) ?_
      refine GR_lcmp (pc := 1454) hC dL_law_1454 ?_
      refine GR_if_eqT (pc := 1455) (tgt := 1460) hC (by rw [hR hk, if_neg hr]; exact g_lcmp_self _) dL_law_1455 (by decide) ?_
      refine GR_goto (pc := 1460) (tgt := 3182) hC dL_law_1460 (by decide) ?_
      exact GR.less kk (g_le_at (And.intro rfl (And.intro rfl (And.intro rfl (And.intro rfl (And.intro rfl (And.intro rfl trivial)))))))
  · refine GR_if_neT (pc := 1438) (tgt := 1460) hC hk dL_law_1438 (by decide) ?_
    refine GR_goto (pc := 1460) (tgt := 3182) hC dL_law_1460 (by decide) ?_
    exact GR.less kk (g_le_at (And.intro rfl (And.intro rfl (And.intro rfl (And.intro rfl (And.intro rfl (And.intro rfl trivial)))))))
set_option maxRecDepth 20000 in
set_option maxHeartbeats 2000000 in
theorem lc_25 {P : GP} {X : GX} {α : Type} {Qf : α → State → Prop} {E : Option α} {ce sl b n m : Nat} {xs : Nat → Int32} {g : GM} {x : GE} {g1 : GM} {x1 : GE} {k : Int32} {h1 : GM} {r1 : Int32} (hC : GC P X RL cL_law 10 room_1) (hF : g_sh P = g_full) (hf : g_on P 179) (hX : va_X b n xs X.2.2.2.2.1 X.2.2.2.2.1.heap) (hbs : b < X.2.2.2.2.1.heap.size) (hbA : ¬ X.2.2.2.2.2.2.2.2.2.2 b) (hn : n ≤ 3072) (hm : m + 6 ≤ n) (hcs : ce + 1 ≤ 601024 ∧ sl + 6 ≤ 7293033) (hL : (f_X10_requestedPasture g (xs (m + 1))).bind (lw_F x false ltb_0) = some (g1, x1, k)) (hM1 : (f_X11_requestedPasture g1 (xs (m + 1))) = some (h1, r1)) (hT : h1 166 9 = k) (hR : k = 0 → x1.1 0 = r1.toInt64) (kk : GR P X Qf (ce + 1) (sl + 6) E 3182 [some (.ref b), some (gr P 0), some (gr P 166), some (gr P 177), some (gr P 178), some (.int (nI m)), none, none, none, none] [] h1 x1) : GR P X Qf ce sl E 1463 [some (.ref b), some (gr P 0), some (gr P 166), some (gr P 177), some (gr P 178), some (.int (nI m)), none, none, none, none] [] g x := by
  have hcs0 : ce + 1 ≤ room_1.cells ∧ sl + 6 ≤ room_1.slots := ⟨by show _ ≤ 601024; omega, by show _ ≤ 7293033; omega⟩
  refine GR_aload_n (pc := 1463) hC dL_law_1463 rfl rfl ?_
  refine GR_arg (pc := 1464) (c := 1) hC hX hbs hbA hn (by omega) rfl rfl (by decide) rfl dL_law_1464 dL_law_1465 dL_law_1467 dL_law_1468 dL_law_1469 ?_
  refine GR_aload_n (pc := 1470) hC dL_law_1470 rfl rfl ?_
  refine GR_callSL (pc := 1471) (n := 3) (As := [gr P 0, .int (xs (m + 1)), gr P 177]) (b := (g1, x1, k)) hC (kL_requestedPasture hF hf) hL ⟨g_w_mem (List.mem_of_getElem? (i := 1045) (by decide +kernel)) (by decide +kernel), g_w_mem (List.mem_of_getElem? (i := 92) (by decide +kernel)) (by decide +kernel), g_w_mem (List.mem_of_getElem? (i := 1044) (by decide +kernel)) (by decide +kernel), g_w_mem (List.mem_of_getElem? (i := 1043) (by decide +kernel)) (by decide +kernel)⟩ ⟨by decide, by decide, by decide +kernel⟩ ⟨rfl, rfl⟩ ⟨by decide, by decide⟩ ⟨hcs.1, hcs.2⟩ rfl rfl (Nat.le_of_ble_eq_true rfl) dL_law_1471 ?_
  change GR P X Qf (ce + 1) (sl + 6) E 1474 [some (.ref b), some (gr P 0), some (gr P 166), some (gr P 177), some (gr P 178), some (.int (nI m)), none, none, none, none] [.int k] g1 x1
  refine GR_istore (pc := 1474) (L' := [some (.ref b), some (gr P 0), some (gr P 166), some (gr P 177), some (gr P 178), some (.int (nI m)), some (.int k), none, none, none]) hC dL_law_1474 (by decide) rfl rfl ?_
  refine GR_aload_n (pc := 1476) hC dL_law_1476 rfl rfl ?_
  refine GR_arg (pc := 1477) (c := 1) hC hX hbs hbA hn (by omega) rfl rfl (by decide) rfl dL_law_1477 dL_law_1478 dL_law_1480 dL_law_1481 dL_law_1482 ?_
  refine GR_callVK (pc := 1483) (As := [.int (xs (m + 1))]) (b := (h1, r1)) hC (k_X11_requestedPasture (hf.mono (by decide))) hM1 MYC_X11_requestedPasture MIC_X11_requestedPasture (g_w_mem (List.mem_of_getElem? (i := 1828) (by decide +kernel)) (by decide +kernel)) (sh_166 (hf.mono (by decide))) rfl rfl ⟨rfl, rfl⟩ ⟨by decide, by decide⟩ hcs0 rfl rfl (Nat.le_of_ble_eq_true rfl) dL_law_1483 ?_
  change GR P X Qf (ce + 1) (sl + 6) E 1486 [some (.ref b), some (gr P 0), some (gr P 166), some (gr P 177), some (gr P 178), some (.int (nI m)), some (.int k), none, none, none] [.int r1] h1 x1
  refine GR_istore (pc := 1486) (L' := [some (.ref b), some (gr P 0), some (gr P 166), some (gr P 177), some (gr P 178), some (.int (nI m)), some (.int k), some (.int r1), none, none]) hC dL_law_1486 (by decide) rfl rfl ?_
  refine GR_aload_n (pc := 1488) hC dL_law_1488 rfl rfl ?_
  refine GR_callVK (pc := 1489) (As := []) (E0 := ((f_X11_thrown h1).map (fun r => (h1, r)))) (b := (h1, h1 166 9)) hC (k_X11_thrown (hf.mono (by decide))) rfl MYC_X11_thrown MIC_X11_thrown (g_w_mem (List.mem_of_getElem? (i := 1392) (by decide +kernel)) (by decide +kernel)) (sh_166 (hf.mono (by decide))) rfl rfl ⟨rfl, rfl⟩ ⟨by decide, by decide⟩ hcs0 rfl rfl (Nat.le_of_ble_eq_true rfl) dL_law_1489 ?_
  change GR P X Qf (ce + 1) (sl + 6) E 1492 [some (.ref b), some (gr P 0), some (gr P 166), some (gr P 177), some (gr P 178), some (.int (nI m)), some (.int k), some (.int r1), none, none] [.int (h1 166 9)] h1 x1
  refine GR_iload (pc := 1492) hC dL_law_1492 rfl ?_
  refine GR_icmp_eqT (pc := 1494) (tgt := 1499) hC hT dL_law_1494 (by decide) ?_
  refine GR_iload (pc := 1499) hC dL_law_1499 rfl ?_
  by_cases hk : k = 0
  · refine GR_if_neF (pc := 1501) (tgt := 1516) hC hk dL_law_1501 (by decide) ?_
    refine GR_aload_n (pc := 1504) hC dL_law_1504 rfl rfl ?_
    refine GR_iconst (pc := 1505) (v := 0) hC dL_law_1505 rfl ?_
    refine GR_lald (pc := 1506) hC hF rfl dL_law_1506 ?_
    refine GR_iload (pc := 1507) hC dL_law_1507 rfl ?_
    refine GR_i2l (pc := 1509) hC dL_law_1509 ?_
    refine GR_lcmp (pc := 1510) hC dL_law_1510 ?_
    refine GR_if_eqT (pc := 1511) (tgt := 1516) hC (by rw [hR hk]; exact g_lcmp_self _) dL_law_1511 (by decide) ?_
    refine GR_goto (pc := 1516) (tgt := 3182) hC dL_law_1516 (by decide) ?_
    exact GR.less kk (g_le_at (And.intro rfl (And.intro rfl (And.intro rfl (And.intro rfl (And.intro rfl (And.intro rfl trivial)))))))
  · refine GR_if_neT (pc := 1501) (tgt := 1516) hC hk dL_law_1501 (by decide) ?_
    refine GR_goto (pc := 1516) (tgt := 3182) hC dL_law_1516 (by decide) ?_
    exact GR.less kk (g_le_at (And.intro rfl (And.intro rfl (And.intro rfl (And.intro rfl (And.intro rfl (And.intro rfl trivial)))))))
set_option maxRecDepth 20000 in
set_option maxHeartbeats 2000000 in
theorem lc_26 {P : GP} {X : GX} {α : Type} {Qf : α → State → Prop} {E : Option α} {ce sl b n m : Nat} {xs : Nat → Int32} {g : GM} {x : GE} {g1 : GM} {x1 : GE} {k : Int32} {h1 : GM} {r1 : Int32} (hC : GC P X RL cL_law 10 room_1) (hF : g_sh P = g_full) (hf : g_on P 179) (hX : va_X b n xs X.2.2.2.2.1 X.2.2.2.2.1.heap) (hbs : b < X.2.2.2.2.1.heap.size) (hbA : ¬ X.2.2.2.2.2.2.2.2.2.2 b) (hn : n ≤ 3072) (hm : m + 6 ≤ n) (hcs : ce + 1 ≤ 601024 ∧ sl + 6 ≤ 7293033) (hL : (f_X10_requestedAmount g (xs (m + 1))).bind (lw_F x false ltb_0) = some (g1, x1, k)) (hM1 : (f_X11_requestedAmount g1 (xs (m + 1))) = some (h1, r1)) (hT : h1 166 9 = k) (hR : k = 0 → x1.1 0 = r1.toInt64) (kk : GR P X Qf (ce + 1) (sl + 6) E 3182 [some (.ref b), some (gr P 0), some (gr P 166), some (gr P 177), some (gr P 178), some (.int (nI m)), none, none, none, none] [] h1 x1) : GR P X Qf ce sl E 1519 [some (.ref b), some (gr P 0), some (gr P 166), some (gr P 177), some (gr P 178), some (.int (nI m)), none, none, none, none] [] g x := by
  have hcs0 : ce + 1 ≤ room_1.cells ∧ sl + 6 ≤ room_1.slots := ⟨by show _ ≤ 601024; omega, by show _ ≤ 7293033; omega⟩
  refine GR_aload_n (pc := 1519) hC dL_law_1519 rfl rfl ?_
  refine GR_arg (pc := 1520) (c := 1) hC hX hbs hbA hn (by omega) rfl rfl (by decide) rfl dL_law_1520 dL_law_1521 dL_law_1523 dL_law_1524 dL_law_1525 ?_
  refine GR_aload_n (pc := 1526) hC dL_law_1526 rfl rfl ?_
  refine GR_callSL (pc := 1527) (n := 3) (As := [gr P 0, .int (xs (m + 1)), gr P 177]) (b := (g1, x1, k)) hC (kL_requestedAmount hF hf) hL ⟨g_w_mem (List.mem_of_getElem? (i := 1052) (by decide +kernel)) (by decide +kernel), g_w_mem (List.mem_of_getElem? (i := 92) (by decide +kernel)) (by decide +kernel), g_w_mem (List.mem_of_getElem? (i := 1051) (by decide +kernel)) (by decide +kernel), g_w_mem (List.mem_of_getElem? (i := 1050) (by decide +kernel)) (by decide +kernel)⟩ ⟨by decide, by decide, by decide +kernel⟩ ⟨rfl, rfl⟩ ⟨by decide, by decide⟩ ⟨hcs.1, hcs.2⟩ rfl rfl (Nat.le_of_ble_eq_true rfl) dL_law_1527 ?_
  change GR P X Qf (ce + 1) (sl + 6) E 1530 [some (.ref b), some (gr P 0), some (gr P 166), some (gr P 177), some (gr P 178), some (.int (nI m)), none, none, none, none] [.int k] g1 x1
  refine GR_istore (pc := 1530) (L' := [some (.ref b), some (gr P 0), some (gr P 166), some (gr P 177), some (gr P 178), some (.int (nI m)), some (.int k), none, none, none]) hC dL_law_1530 (by decide) rfl rfl ?_
  refine GR_aload_n (pc := 1532) hC dL_law_1532 rfl rfl ?_
  refine GR_arg (pc := 1533) (c := 1) hC hX hbs hbA hn (by omega) rfl rfl (by decide) rfl dL_law_1533 dL_law_1534 dL_law_1536 dL_law_1537 dL_law_1538 ?_
  refine GR_callVK (pc := 1539) (As := [.int (xs (m + 1))]) (b := (h1, r1)) hC (k_X11_requestedAmount (hf.mono (by decide))) hM1 MYC_X11_requestedAmount MIC_X11_requestedAmount (g_w_mem (List.mem_of_getElem? (i := 1832) (by decide +kernel)) (by decide +kernel)) (sh_166 (hf.mono (by decide))) rfl rfl ⟨rfl, rfl⟩ ⟨by decide, by decide⟩ hcs0 rfl rfl (Nat.le_of_ble_eq_true rfl) dL_law_1539 ?_
  change GR P X Qf (ce + 1) (sl + 6) E 1542 [some (.ref b), some (gr P 0), some (gr P 166), some (gr P 177), some (gr P 178), some (.int (nI m)), some (.int k), none, none, none] [.int r1] h1 x1
  refine GR_istore (pc := 1542) (L' := [some (.ref b), some (gr P 0), some (gr P 166), some (gr P 177), some (gr P 178), some (.int (nI m)), some (.int k), some (.int r1), none, none]) hC dL_law_1542 (by decide) rfl rfl ?_
  refine GR_aload_n (pc := 1544) hC dL_law_1544 rfl rfl ?_
  refine GR_callVK (pc := 1545) (As := []) (E0 := ((f_X11_thrown h1).map (fun r => (h1, r)))) (b := (h1, h1 166 9)) hC (k_X11_thrown (hf.mono (by decide))) rfl MYC_X11_thrown MIC_X11_thrown (g_w_mem (List.mem_of_getElem? (i := 1392) (by decide +kernel)) (by decide +kernel)) (sh_166 (hf.mono (by decide))) rfl rfl ⟨rfl, rfl⟩ ⟨by decide, by decide⟩ hcs0 rfl rfl (Nat.le_of_ble_eq_true rfl) dL_law_1545 ?_
  change GR P X Qf (ce + 1) (sl + 6) E 1548 [some (.ref b), some (gr P 0), some (gr P 166), some (gr P 177), some (gr P 178), some (.int (nI m)), some (.int k), some (.int r1), none, none] [.int (h1 166 9)] h1 x1
  refine GR_iload (pc := 1548) hC dL_law_1548 rfl ?_
  refine GR_icmp_eqT (pc := 1550) (tgt := 1555) hC hT dL_law_1550 (by decide) ?_
  refine GR_iload (pc := 1555) hC dL_law_1555 rfl ?_
  by_cases hk : k = 0
  · refine GR_if_neF (pc := 1557) (tgt := 1572) hC hk dL_law_1557 (by decide) ?_
    refine GR_aload_n (pc := 1560) hC dL_law_1560 rfl rfl ?_
    refine GR_iconst (pc := 1561) (v := 0) hC dL_law_1561 rfl ?_
    refine GR_lald (pc := 1562) hC hF rfl dL_law_1562 ?_
    refine GR_iload (pc := 1563) hC dL_law_1563 rfl ?_
    refine GR_i2l (pc := 1565) hC dL_law_1565 ?_
    refine GR_lcmp (pc := 1566) hC dL_law_1566 ?_
    refine GR_if_eqT (pc := 1567) (tgt := 1572) hC (by rw [hR hk]; exact g_lcmp_self _) dL_law_1567 (by decide) ?_
    refine GR_goto (pc := 1572) (tgt := 3182) hC dL_law_1572 (by decide) ?_
    exact GR.less kk (g_le_at (And.intro rfl (And.intro rfl (And.intro rfl (And.intro rfl (And.intro rfl (And.intro rfl trivial)))))))
  · refine GR_if_neT (pc := 1557) (tgt := 1572) hC hk dL_law_1557 (by decide) ?_
    refine GR_goto (pc := 1572) (tgt := 3182) hC dL_law_1572 (by decide) ?_
    exact GR.less kk (g_le_at (And.intro rfl (And.intro rfl (And.intro rfl (And.intro rfl (And.intro rfl (And.intro rfl trivial)))))))
set_option maxRecDepth 20000 in
set_option maxHeartbeats 2000000 in
theorem lc_27 {P : GP} {X : GX} {α : Type} {Qf : α → State → Prop} {E : Option α} {ce sl b n m : Nat} {xs : Nat → Int32} {g : GM} {x : GE} {g1 : GM} {x1 : GE} {k : Int32} {h1 : GM} {r1 : Int32} (hC : GC P X RL cL_law 10 room_1) (hF : g_sh P = g_full) (hf : g_on P 179) (hX : va_X b n xs X.2.2.2.2.1 X.2.2.2.2.1.heap) (hbs : b < X.2.2.2.2.1.heap.size) (hbA : ¬ X.2.2.2.2.2.2.2.2.2.2 b) (hn : n ≤ 3072) (hm : m + 6 ≤ n) (hcs : ce + 1 ≤ 601024 ∧ sl + 6 ≤ 7293033) (hL : (f_X10_waitsFor g (xs (m + 1)) (xs (m + 2))).bind (lw_F x true ltb_0) = some (g1, x1, k)) (hM1 : (f_X11_waitsFor g1 (xs (m + 1)) (xs (m + 2))) = some (h1, r1)) (hT : h1 166 9 = k) (hR : k = 0 → x1.1 0 = (if r1 = 0 then 0 else 1)) (kk : GR P X Qf (ce + 1) (sl + 6) E 3182 [some (.ref b), some (gr P 0), some (gr P 166), some (gr P 177), some (gr P 178), some (.int (nI m)), none, none, none, none] [] h1 x1) : GR P X Qf ce sl E 1575 [some (.ref b), some (gr P 0), some (gr P 166), some (gr P 177), some (gr P 178), some (.int (nI m)), none, none, none, none] [] g x := by
  have hcs0 : ce + 1 ≤ room_1.cells ∧ sl + 6 ≤ room_1.slots := ⟨by show _ ≤ 601024; omega, by show _ ≤ 7293033; omega⟩
  refine GR_aload_n (pc := 1575) hC dL_law_1575 rfl rfl ?_
  refine GR_arg (pc := 1576) (c := 1) hC hX hbs hbA hn (by omega) rfl rfl (by decide) rfl dL_law_1576 dL_law_1577 dL_law_1579 dL_law_1580 dL_law_1581 ?_
  refine GR_arg (pc := 1582) (c := 2) hC hX hbs hbA hn (by omega) rfl rfl (by decide) rfl dL_law_1582 dL_law_1583 dL_law_1585 dL_law_1586 dL_law_1587 ?_
  refine GR_aload_n (pc := 1588) hC dL_law_1588 rfl rfl ?_
  refine GR_callSL (pc := 1589) (n := 4) (As := [gr P 0, .int (xs (m + 1)), .int (xs (m + 2)), gr P 177]) (b := (g1, x1, k)) hC (kL_waitsFor hF hf) hL ⟨g_w_mem (List.mem_of_getElem? (i := 1059) (by decide +kernel)) (by decide +kernel), g_w_mem (List.mem_of_getElem? (i := 92) (by decide +kernel)) (by decide +kernel), g_w_mem (List.mem_of_getElem? (i := 1058) (by decide +kernel)) (by decide +kernel), g_w_mem (List.mem_of_getElem? (i := 1057) (by decide +kernel)) (by decide +kernel)⟩ ⟨by decide, by decide, by decide +kernel⟩ ⟨rfl, rfl⟩ ⟨by decide, by decide⟩ ⟨hcs.1, hcs.2⟩ rfl rfl (Nat.le_of_ble_eq_true rfl) dL_law_1589 ?_
  change GR P X Qf (ce + 1) (sl + 6) E 1592 [some (.ref b), some (gr P 0), some (gr P 166), some (gr P 177), some (gr P 178), some (.int (nI m)), none, none, none, none] [.int k] g1 x1
  refine GR_istore (pc := 1592) (L' := [some (.ref b), some (gr P 0), some (gr P 166), some (gr P 177), some (gr P 178), some (.int (nI m)), some (.int k), none, none, none]) hC dL_law_1592 (by decide) rfl rfl ?_
  refine GR_aload_n (pc := 1594) hC dL_law_1594 rfl rfl ?_
  refine GR_arg (pc := 1595) (c := 1) hC hX hbs hbA hn (by omega) rfl rfl (by decide) rfl dL_law_1595 dL_law_1596 dL_law_1598 dL_law_1599 dL_law_1600 ?_
  refine GR_arg (pc := 1601) (c := 2) hC hX hbs hbA hn (by omega) rfl rfl (by decide) rfl dL_law_1601 dL_law_1602 dL_law_1604 dL_law_1605 dL_law_1606 ?_
  refine GR_callVK (pc := 1607) (As := [.int (xs (m + 1)), .int (xs (m + 2))]) (b := (h1, r1)) hC (k_X11_waitsFor (hf.mono (by decide))) hM1 MYC_X11_waitsFor MIC_X11_waitsFor (g_w_mem (List.mem_of_getElem? (i := 1836) (by decide +kernel)) (by decide +kernel)) (sh_166 (hf.mono (by decide))) rfl rfl ⟨rfl, rfl⟩ ⟨by decide, by decide⟩ hcs0 rfl rfl (Nat.le_of_ble_eq_true rfl) dL_law_1607 ?_
  change GR P X Qf (ce + 1) (sl + 6) E 1610 [some (.ref b), some (gr P 0), some (gr P 166), some (gr P 177), some (gr P 178), some (.int (nI m)), some (.int k), none, none, none] [.int r1] h1 x1
  refine GR_istore (pc := 1610) (L' := [some (.ref b), some (gr P 0), some (gr P 166), some (gr P 177), some (gr P 178), some (.int (nI m)), some (.int k), some (.int r1), none, none]) hC dL_law_1610 (by decide) rfl rfl ?_
  refine GR_aload_n (pc := 1612) hC dL_law_1612 rfl rfl ?_
  refine GR_callVK (pc := 1613) (As := []) (E0 := ((f_X11_thrown h1).map (fun r => (h1, r)))) (b := (h1, h1 166 9)) hC (k_X11_thrown (hf.mono (by decide))) rfl MYC_X11_thrown MIC_X11_thrown (g_w_mem (List.mem_of_getElem? (i := 1392) (by decide +kernel)) (by decide +kernel)) (sh_166 (hf.mono (by decide))) rfl rfl ⟨rfl, rfl⟩ ⟨by decide, by decide⟩ hcs0 rfl rfl (Nat.le_of_ble_eq_true rfl) dL_law_1613 ?_
  change GR P X Qf (ce + 1) (sl + 6) E 1616 [some (.ref b), some (gr P 0), some (gr P 166), some (gr P 177), some (gr P 178), some (.int (nI m)), some (.int k), some (.int r1), none, none] [.int (h1 166 9)] h1 x1
  refine GR_iload (pc := 1616) hC dL_law_1616 rfl ?_
  refine GR_icmp_eqT (pc := 1618) (tgt := 1623) hC hT dL_law_1618 (by decide) ?_
  refine GR_iload (pc := 1623) hC dL_law_1623 rfl ?_
  by_cases hk : k = 0
  · refine GR_if_neF (pc := 1625) (tgt := 1647) hC hk dL_law_1625 (by decide) ?_
    refine GR_aload_n (pc := 1628) hC dL_law_1628 rfl rfl ?_
    refine GR_iconst (pc := 1629) (v := 0) hC dL_law_1629 rfl ?_
    refine GR_lald (pc := 1630) hC hF rfl dL_law_1630 ?_
    refine GR_iload (pc := 1631) hC dL_law_1631 rfl ?_
    by_cases hr : r1 = 0
    · refine GR_if_eqT (pc := 1633) (tgt := 1640) hC hr dL_law_1633 (by decide) ?_
      refine GR_lconst (pc := 1640) (v := 0) hC dL_law_1640 rfl ?_
      refine GR_lcmp (pc := 1641) hC dL_law_1641 ?_
      refine GR_if_eqT (pc := 1642) (tgt := 1647) hC (by rw [hR hk, if_pos hr]; exact g_lcmp_self _) dL_law_1642 (by decide) ?_
      refine GR_goto (pc := 1647) (tgt := 3182) hC dL_law_1647 (by decide) ?_
      exact GR.less kk (g_le_at (And.intro rfl (And.intro rfl (And.intro rfl (And.intro rfl (And.intro rfl (And.intro rfl trivial)))))))
    · refine GR_if_eqF (pc := 1633) (tgt := 1640) hC hr dL_law_1633 (by decide) ?_
      refine GR_lconst (pc := 1636) (v := 1) hC dL_law_1636 rfl ?_
      refine GR_goto (pc := 1637) (tgt := 1641) hC dL_law_1637 (by decide) ?_
      refine GR_lcmp (pc := 1641) hC dL_law_1641 ?_
      refine GR_if_eqT (pc := 1642) (tgt := 1647) hC (by rw [hR hk, if_neg hr]; exact g_lcmp_self _) dL_law_1642 (by decide) ?_
      refine GR_goto (pc := 1647) (tgt := 3182) hC dL_law_1647 (by decide) ?_
      exact GR.less kk (g_le_at (And.intro rfl (And.intro rfl (And.intro rfl (And.intro rfl (And.intro rfl (And.intro rfl trivial)))))))
  · refine GR_if_neT (pc := 1625) (tgt := 1647) hC hk dL_law_1625 (by decide) ?_
    refine GR_goto (pc := 1647) (tgt := 3182) hC dL_law_1647 (by decide) ?_
    exact GR.less kk (g_le_at (And.intro rfl (And.intro rfl (And.intro rfl (And.intro rfl (And.intro rfl (And.intro rfl trivial)))))))
set_option maxRecDepth 20000 in
set_option maxHeartbeats 2000000 in
theorem lc_28 {P : GP} {X : GX} {α : Type} {Qf : α → State → Prop} {E : Option α} {ce sl b n m : Nat} {xs : Nat → Int32} {g : GM} {x : GE} {g1 : GM} {x1 : GE} {k : Int32} {h1 : GM} {r1 : Int32} (hC : GC P X RL cL_law 10 room_1) (hF : g_sh P = g_full) (hf : g_on P 179) (hX : va_X b n xs X.2.2.2.2.1 X.2.2.2.2.1.heap) (hbs : b < X.2.2.2.2.1.heap.size) (hbA : ¬ X.2.2.2.2.2.2.2.2.2.2 b) (hn : n ≤ 3072) (hm : m + 6 ≤ n) (hcs : ce + 1 ≤ 601024 ∧ sl + 6 ≤ 7293033) (hL : (f_X10_isDeadlocked g (xs (m + 1))).bind (lw_F x true ltb_0) = some (g1, x1, k)) (hM1 : (f_X11_isDeadlocked g1 (xs (m + 1))) = some (h1, r1)) (hT : h1 166 9 = k) (hR : k = 0 → x1.1 0 = (if r1 = 0 then 0 else 1)) (kk : GR P X Qf (ce + 1) (sl + 6) E 3182 [some (.ref b), some (gr P 0), some (gr P 166), some (gr P 177), some (gr P 178), some (.int (nI m)), none, none, none, none] [] h1 x1) : GR P X Qf ce sl E 1650 [some (.ref b), some (gr P 0), some (gr P 166), some (gr P 177), some (gr P 178), some (.int (nI m)), none, none, none, none] [] g x := by
  have hcs0 : ce + 1 ≤ room_1.cells ∧ sl + 6 ≤ room_1.slots := ⟨by show _ ≤ 601024; omega, by show _ ≤ 7293033; omega⟩
  refine GR_aload_n (pc := 1650) hC dL_law_1650 rfl rfl ?_
  refine GR_arg (pc := 1651) (c := 1) hC hX hbs hbA hn (by omega) rfl rfl (by decide) rfl dL_law_1651 dL_law_1652 dL_law_1654 dL_law_1655 dL_law_1656 ?_
  refine GR_aload_n (pc := 1657) hC dL_law_1657 rfl rfl ?_
  refine GR_callSL (pc := 1658) (n := 3) (As := [gr P 0, .int (xs (m + 1)), gr P 177]) (b := (g1, x1, k)) hC (kL_isDeadlocked hF hf) hL ⟨g_w_mem (List.mem_of_getElem? (i := 1075) (by decide +kernel)) (by decide +kernel), g_w_mem (List.mem_of_getElem? (i := 92) (by decide +kernel)) (by decide +kernel), g_w_mem (List.mem_of_getElem? (i := 1074) (by decide +kernel)) (by decide +kernel), g_w_mem (List.mem_of_getElem? (i := 1073) (by decide +kernel)) (by decide +kernel)⟩ ⟨by decide, by decide, by decide +kernel⟩ ⟨rfl, rfl⟩ ⟨by decide, by decide⟩ ⟨hcs.1, hcs.2⟩ rfl rfl (Nat.le_of_ble_eq_true rfl) dL_law_1658 ?_
  change GR P X Qf (ce + 1) (sl + 6) E 1661 [some (.ref b), some (gr P 0), some (gr P 166), some (gr P 177), some (gr P 178), some (.int (nI m)), none, none, none, none] [.int k] g1 x1
  refine GR_istore (pc := 1661) (L' := [some (.ref b), some (gr P 0), some (gr P 166), some (gr P 177), some (gr P 178), some (.int (nI m)), some (.int k), none, none, none]) hC dL_law_1661 (by decide) rfl rfl ?_
  refine GR_aload_n (pc := 1663) hC dL_law_1663 rfl rfl ?_
  refine GR_arg (pc := 1664) (c := 1) hC hX hbs hbA hn (by omega) rfl rfl (by decide) rfl dL_law_1664 dL_law_1665 dL_law_1667 dL_law_1668 dL_law_1669 ?_
  refine GR_callVK (pc := 1670) (As := [.int (xs (m + 1))]) (b := (h1, r1)) hC (k_X11_isDeadlocked (hf.mono (by decide))) hM1 MYC_X11_isDeadlocked MIC_X11_isDeadlocked (g_w_mem (List.mem_of_getElem? (i := 1840) (by decide +kernel)) (by decide +kernel)) (sh_166 (hf.mono (by decide))) rfl rfl ⟨rfl, rfl⟩ ⟨by decide, by decide⟩ hcs0 rfl rfl (Nat.le_of_ble_eq_true rfl) dL_law_1670 ?_
  change GR P X Qf (ce + 1) (sl + 6) E 1673 [some (.ref b), some (gr P 0), some (gr P 166), some (gr P 177), some (gr P 178), some (.int (nI m)), some (.int k), none, none, none] [.int r1] h1 x1
  refine GR_istore (pc := 1673) (L' := [some (.ref b), some (gr P 0), some (gr P 166), some (gr P 177), some (gr P 178), some (.int (nI m)), some (.int k), some (.int r1), none, none]) hC dL_law_1673 (by decide) rfl rfl ?_
  refine GR_aload_n (pc := 1675) hC dL_law_1675 rfl rfl ?_
  refine GR_callVK (pc := 1676) (As := []) (E0 := ((f_X11_thrown h1).map (fun r => (h1, r)))) (b := (h1, h1 166 9)) hC (k_X11_thrown (hf.mono (by decide))) rfl MYC_X11_thrown MIC_X11_thrown (g_w_mem (List.mem_of_getElem? (i := 1392) (by decide +kernel)) (by decide +kernel)) (sh_166 (hf.mono (by decide))) rfl rfl ⟨rfl, rfl⟩ ⟨by decide, by decide⟩ hcs0 rfl rfl (Nat.le_of_ble_eq_true rfl) dL_law_1676 ?_
  change GR P X Qf (ce + 1) (sl + 6) E 1679 [some (.ref b), some (gr P 0), some (gr P 166), some (gr P 177), some (gr P 178), some (.int (nI m)), some (.int k), some (.int r1), none, none] [.int (h1 166 9)] h1 x1
  refine GR_iload (pc := 1679) hC dL_law_1679 rfl ?_
  refine GR_icmp_eqT (pc := 1681) (tgt := 1686) hC hT dL_law_1681 (by decide) ?_
  refine GR_iload (pc := 1686) hC dL_law_1686 rfl ?_
  by_cases hk : k = 0
  · refine GR_if_neF (pc := 1688) (tgt := 1710) hC hk dL_law_1688 (by decide) ?_
    refine GR_aload_n (pc := 1691) hC dL_law_1691 rfl rfl ?_
    refine GR_iconst (pc := 1692) (v := 0) hC dL_law_1692 rfl ?_
    refine GR_lald (pc := 1693) hC hF rfl dL_law_1693 ?_
    refine GR_iload (pc := 1694) hC dL_law_1694 rfl ?_
    by_cases hr : r1 = 0
    · refine GR_if_eqT (pc := 1696) (tgt := 1703) hC hr dL_law_1696 (by decide) ?_
      refine GR_lconst (pc := 1703) (v := 0) hC dL_law_1703 rfl ?_
      refine GR_lcmp (pc := 1704) hC dL_law_1704 ?_
      refine GR_if_eqT (pc := 1705) (tgt := 1710) hC (by rw [hR hk, if_pos hr]; exact g_lcmp_self _) dL_law_1705 (by decide) ?_
      refine GR_goto (pc := 1710) (tgt := 3182) hC dL_law_1710 (by decide) ?_
      exact GR.less kk (g_le_at (And.intro rfl (And.intro rfl (And.intro rfl (And.intro rfl (And.intro rfl (And.intro rfl trivial)))))))
    · refine GR_if_eqF (pc := 1696) (tgt := 1703) hC hr dL_law_1696 (by decide) ?_
      refine GR_lconst (pc := 1699) (v := 1) hC dL_law_1699 rfl ?_
      refine GR_goto (pc := 1700) (tgt := 1704) hC dL_law_1700 (by decide) ?_
      refine GR_lcmp (pc := 1704) hC dL_law_1704 ?_
      refine GR_if_eqT (pc := 1705) (tgt := 1710) hC (by rw [hR hk, if_neg hr]; exact g_lcmp_self _) dL_law_1705 (by decide) ?_
      refine GR_goto (pc := 1710) (tgt := 3182) hC dL_law_1710 (by decide) ?_
      exact GR.less kk (g_le_at (And.intro rfl (And.intro rfl (And.intro rfl (And.intro rfl (And.intro rfl (And.intro rfl trivial)))))))
  · refine GR_if_neT (pc := 1688) (tgt := 1710) hC hk dL_law_1688 (by decide) ?_
    refine GR_goto (pc := 1710) (tgt := 3182) hC dL_law_1710 (by decide) ?_
    exact GR.less kk (g_le_at (And.intro rfl (And.intro rfl (And.intro rfl (And.intro rfl (And.intro rfl (And.intro rfl trivial)))))))
set_option maxRecDepth 20000 in
set_option maxHeartbeats 2000000 in
theorem lc_29 {P : GP} {X : GX} {α : Type} {Qf : α → State → Prop} {E : Option α} {ce sl b n m : Nat} {xs : Nat → Int32} {g : GM} {x : GE}  {h1 : GM} {r1 : Int32} {h2 : GM} {r2 : Int32} (hC : GC P X RL cL_law 10 room_1) (hF : g_sh P = g_full) (hf : g_on P 179) (hX : va_X b n xs X.2.2.2.2.1 X.2.2.2.2.1.heap) (hbs : b < X.2.2.2.2.1.heap.size) (hbA : ¬ X.2.2.2.2.2.2.2.2.2.2 b) (hn : n ≤ 3072) (hm : m + 6 ≤ n) (hcs : ce + 1 ≤ 601024 ∧ sl + 6 ≤ 7293033) (hM1 : (f_X10_deadlockedCount g) = some (h1, r1)) (hM2 : (f_X11_deadlockedCount h1) = some (h2, r2)) (hR : r1 = r2) (kk : GR P X Qf (ce + 1) (sl + 6) E 3182 [some (.ref b), some (gr P 0), some (gr P 166), some (gr P 177), some (gr P 178), some (.int (nI m)), none, none, none, none] [] h2 x) : GR P X Qf ce sl E 1713 [some (.ref b), some (gr P 0), some (gr P 166), some (gr P 177), some (gr P 178), some (.int (nI m)), none, none, none, none] [] g x := by
  have hcs0 : ce ≤ room_1.cells ∧ sl ≤ room_1.slots := ⟨by show _ ≤ 601024; omega, by show _ ≤ 7293033; omega⟩
  refine GR_aload_n (pc := 1713) hC dL_law_1713 rfl rfl ?_
  refine GR_callVK (pc := 1714) (As := []) (b := (h1, r1)) hC (k_X10_deadlockedCount (hf.mono (by decide))) hM1 MYC_X10_deadlockedCount MIC_X10_deadlockedCount (g_w_mem (List.mem_of_getElem? (i := 647) (by decide +kernel)) (by decide +kernel)) (sh_0 (hf.mono (by decide))) rfl rfl ⟨rfl, rfl⟩ ⟨by decide, by decide⟩ hcs0 rfl rfl (Nat.le_of_ble_eq_true rfl) dL_law_1714 ?_
  change GR P X Qf (ce) (sl) E 1717 [some (.ref b), some (gr P 0), some (gr P 166), some (gr P 177), some (gr P 178), some (.int (nI m)), none, none, none, none] [.int r1] h1 x
  refine GR_aload_n (pc := 1717) hC dL_law_1717 rfl rfl ?_
  refine GR_callVK (pc := 1718) (As := []) (b := (h2, r2)) hC (k_X11_deadlockedCount (hf.mono (by decide))) hM2 MYC_X11_deadlockedCount MIC_X11_deadlockedCount (g_w_mem (List.mem_of_getElem? (i := 1848) (by decide +kernel)) (by decide +kernel)) (sh_166 (hf.mono (by decide))) rfl rfl ⟨rfl, rfl⟩ ⟨by decide, by decide⟩ hcs0 rfl rfl (Nat.le_of_ble_eq_true rfl) dL_law_1718 ?_
  change GR P X Qf (ce) (sl) E 1721 [some (.ref b), some (gr P 0), some (gr P 166), some (gr P 177), some (gr P 178), some (.int (nI m)), none, none, none, none] [.int r2, .int r1] h2 x
  refine GR_icmp_eqT (pc := 1721) (tgt := 3182) hC hR dL_law_1721 (by decide) ?_
  exact GR.wide (GR.less (kk) (g_le_at (And.intro rfl (And.intro rfl (And.intro rfl (And.intro rfl (And.intro rfl (And.intro rfl trivial))))))))
set_option maxRecDepth 20000 in
set_option maxHeartbeats 2000000 in
theorem lc_30 {P : GP} {X : GX} {α : Type} {Qf : α → State → Prop} {E : Option α} {ce sl b n m : Nat} {xs : Nat → Int32} {g : GM} {x : GE} {g1 : GM} {x1 : GE} {k : Int32} {h1 : GM} {r1 : Int32} (hC : GC P X RL cL_law 10 room_1) (hF : g_sh P = g_full) (hf : g_on P 179) (hX : va_X b n xs X.2.2.2.2.1 X.2.2.2.2.1.heap) (hbs : b < X.2.2.2.2.1.heap.size) (hbA : ¬ X.2.2.2.2.2.2.2.2.2.2 b) (hn : n ≤ 3072) (hm : m + 6 ≤ n) (hcs : ce + 1 ≤ 601024 ∧ sl + 6 ≤ 7293033) (hL : (f_X10_debt g (xs (m + 1)) (xs (m + 2))).bind (lw_F x false ltb_0) = some (g1, x1, k)) (hM1 : (f_X11_debt g1 (xs (m + 1)) (xs (m + 2))) = some (h1, r1)) (hT : h1 166 9 = k) (hR : k = 0 → x1.1 0 = r1.toInt64) (kk : GR P X Qf (ce + 1) (sl + 6) E 3182 [some (.ref b), some (gr P 0), some (gr P 166), some (gr P 177), some (gr P 178), some (.int (nI m)), none, none, none, none] [] h1 x1) : GR P X Qf ce sl E 1726 [some (.ref b), some (gr P 0), some (gr P 166), some (gr P 177), some (gr P 178), some (.int (nI m)), none, none, none, none] [] g x := by
  have hcs0 : ce + 1 ≤ room_1.cells ∧ sl + 6 ≤ room_1.slots := ⟨by show _ ≤ 601024; omega, by show _ ≤ 7293033; omega⟩
  refine GR_aload_n (pc := 1726) hC dL_law_1726 rfl rfl ?_
  refine GR_arg (pc := 1727) (c := 1) hC hX hbs hbA hn (by omega) rfl rfl (by decide) rfl dL_law_1727 dL_law_1728 dL_law_1730 dL_law_1731 dL_law_1732 ?_
  refine GR_arg (pc := 1733) (c := 2) hC hX hbs hbA hn (by omega) rfl rfl (by decide) rfl dL_law_1733 dL_law_1734 dL_law_1736 dL_law_1737 dL_law_1738 ?_
  refine GR_aload_n (pc := 1739) hC dL_law_1739 rfl rfl ?_
  refine GR_callSL (pc := 1740) (n := 4) (As := [gr P 0, .int (xs (m + 1)), .int (xs (m + 2)), gr P 177]) (b := (g1, x1, k)) hC (kL_debt hF hf) hL ⟨g_w_mem (List.mem_of_getElem? (i := 1083) (by decide +kernel)) (by decide +kernel), g_w_mem (List.mem_of_getElem? (i := 92) (by decide +kernel)) (by decide +kernel), g_w_mem (List.mem_of_getElem? (i := 1082) (by decide +kernel)) (by decide +kernel), g_w_mem (List.mem_of_getElem? (i := 1081) (by decide +kernel)) (by decide +kernel)⟩ ⟨by decide, by decide, by decide +kernel⟩ ⟨rfl, rfl⟩ ⟨by decide, by decide⟩ ⟨hcs.1, hcs.2⟩ rfl rfl (Nat.le_of_ble_eq_true rfl) dL_law_1740 ?_
  change GR P X Qf (ce + 1) (sl + 6) E 1743 [some (.ref b), some (gr P 0), some (gr P 166), some (gr P 177), some (gr P 178), some (.int (nI m)), none, none, none, none] [.int k] g1 x1
  refine GR_istore (pc := 1743) (L' := [some (.ref b), some (gr P 0), some (gr P 166), some (gr P 177), some (gr P 178), some (.int (nI m)), some (.int k), none, none, none]) hC dL_law_1743 (by decide) rfl rfl ?_
  refine GR_aload_n (pc := 1745) hC dL_law_1745 rfl rfl ?_
  refine GR_arg (pc := 1746) (c := 1) hC hX hbs hbA hn (by omega) rfl rfl (by decide) rfl dL_law_1746 dL_law_1747 dL_law_1749 dL_law_1750 dL_law_1751 ?_
  refine GR_arg (pc := 1752) (c := 2) hC hX hbs hbA hn (by omega) rfl rfl (by decide) rfl dL_law_1752 dL_law_1753 dL_law_1755 dL_law_1756 dL_law_1757 ?_
  refine GR_callVK (pc := 1758) (As := [.int (xs (m + 1)), .int (xs (m + 2))]) (b := (h1, r1)) hC (k_X11_debt (hf.mono (by decide))) hM1 MYC_X11_debt MIC_X11_debt (g_w_mem (List.mem_of_getElem? (i := 1852) (by decide +kernel)) (by decide +kernel)) (sh_166 (hf.mono (by decide))) rfl rfl ⟨rfl, rfl⟩ ⟨by decide, by decide⟩ hcs0 rfl rfl (Nat.le_of_ble_eq_true rfl) dL_law_1758 ?_
  change GR P X Qf (ce + 1) (sl + 6) E 1761 [some (.ref b), some (gr P 0), some (gr P 166), some (gr P 177), some (gr P 178), some (.int (nI m)), some (.int k), none, none, none] [.int r1] h1 x1
  refine GR_istore (pc := 1761) (L' := [some (.ref b), some (gr P 0), some (gr P 166), some (gr P 177), some (gr P 178), some (.int (nI m)), some (.int k), some (.int r1), none, none]) hC dL_law_1761 (by decide) rfl rfl ?_
  refine GR_aload_n (pc := 1763) hC dL_law_1763 rfl rfl ?_
  refine GR_callVK (pc := 1764) (As := []) (E0 := ((f_X11_thrown h1).map (fun r => (h1, r)))) (b := (h1, h1 166 9)) hC (k_X11_thrown (hf.mono (by decide))) rfl MYC_X11_thrown MIC_X11_thrown (g_w_mem (List.mem_of_getElem? (i := 1392) (by decide +kernel)) (by decide +kernel)) (sh_166 (hf.mono (by decide))) rfl rfl ⟨rfl, rfl⟩ ⟨by decide, by decide⟩ hcs0 rfl rfl (Nat.le_of_ble_eq_true rfl) dL_law_1764 ?_
  change GR P X Qf (ce + 1) (sl + 6) E 1767 [some (.ref b), some (gr P 0), some (gr P 166), some (gr P 177), some (gr P 178), some (.int (nI m)), some (.int k), some (.int r1), none, none] [.int (h1 166 9)] h1 x1
  refine GR_iload (pc := 1767) hC dL_law_1767 rfl ?_
  refine GR_icmp_eqT (pc := 1769) (tgt := 1774) hC hT dL_law_1769 (by decide) ?_
  refine GR_iload (pc := 1774) hC dL_law_1774 rfl ?_
  by_cases hk : k = 0
  · refine GR_if_neF (pc := 1776) (tgt := 1791) hC hk dL_law_1776 (by decide) ?_
    refine GR_aload_n (pc := 1779) hC dL_law_1779 rfl rfl ?_
    refine GR_iconst (pc := 1780) (v := 0) hC dL_law_1780 rfl ?_
    refine GR_lald (pc := 1781) hC hF rfl dL_law_1781 ?_
    refine GR_iload (pc := 1782) hC dL_law_1782 rfl ?_
    refine GR_i2l (pc := 1784) hC dL_law_1784 ?_
    refine GR_lcmp (pc := 1785) hC dL_law_1785 ?_
    refine GR_if_eqT (pc := 1786) (tgt := 1791) hC (by rw [hR hk]; exact g_lcmp_self _) dL_law_1786 (by decide) ?_
    refine GR_goto (pc := 1791) (tgt := 3182) hC dL_law_1791 (by decide) ?_
    exact GR.less kk (g_le_at (And.intro rfl (And.intro rfl (And.intro rfl (And.intro rfl (And.intro rfl (And.intro rfl trivial)))))))
  · refine GR_if_neT (pc := 1776) (tgt := 1791) hC hk dL_law_1776 (by decide) ?_
    refine GR_goto (pc := 1791) (tgt := 3182) hC dL_law_1791 (by decide) ?_
    exact GR.less kk (g_le_at (And.intro rfl (And.intro rfl (And.intro rfl (And.intro rfl (And.intro rfl (And.intro rfl trivial)))))))
set_option maxRecDepth 20000 in
set_option maxHeartbeats 2000000 in
theorem lc_31 {P : GP} {X : GX} {α : Type} {Qf : α → State → Prop} {E : Option α} {ce sl b n m : Nat} {xs : Nat → Int32} {g : GM} {x : GE} {g1 : GM} {x1 : GE} {k : Int32} {h1 : GM} {r1 : Int32} (hC : GC P X RL cL_law 10 room_1) (hF : g_sh P = g_full) (hf : g_on P 179) (hX : va_X b n xs X.2.2.2.2.1 X.2.2.2.2.1.heap) (hbs : b < X.2.2.2.2.1.heap.size) (hbA : ¬ X.2.2.2.2.2.2.2.2.2.2 b) (hn : n ≤ 3072) (hm : m + 6 ≤ n) (hcs : ce + 1 ≤ 601024 ∧ sl + 6 ≤ 7293033) (hL : (f_X10_totalDebt g (xs (m + 1))).bind (lw_F x false ltb_0) = some (g1, x1, k)) (hM1 : (f_X11_totalDebt g1 (xs (m + 1))) = some (h1, r1)) (hT : h1 166 9 = k) (hR : k = 0 → x1.1 0 = r1.toInt64) (kk : GR P X Qf (ce + 1) (sl + 6) E 3182 [some (.ref b), some (gr P 0), some (gr P 166), some (gr P 177), some (gr P 178), some (.int (nI m)), none, none, none, none] [] h1 x1) : GR P X Qf ce sl E 1794 [some (.ref b), some (gr P 0), some (gr P 166), some (gr P 177), some (gr P 178), some (.int (nI m)), none, none, none, none] [] g x := by
  have hcs0 : ce + 1 ≤ room_1.cells ∧ sl + 6 ≤ room_1.slots := ⟨by show _ ≤ 601024; omega, by show _ ≤ 7293033; omega⟩
  refine GR_aload_n (pc := 1794) hC dL_law_1794 rfl rfl ?_
  refine GR_arg (pc := 1795) (c := 1) hC hX hbs hbA hn (by omega) rfl rfl (by decide) rfl dL_law_1795 dL_law_1796 dL_law_1798 dL_law_1799 dL_law_1800 ?_
  refine GR_aload_n (pc := 1801) hC dL_law_1801 rfl rfl ?_
  refine GR_callSL (pc := 1802) (n := 3) (As := [gr P 0, .int (xs (m + 1)), gr P 177]) (b := (g1, x1, k)) hC (kL_totalDebt hF hf) hL ⟨g_w_mem (List.mem_of_getElem? (i := 1091) (by decide +kernel)) (by decide +kernel), g_w_mem (List.mem_of_getElem? (i := 92) (by decide +kernel)) (by decide +kernel), g_w_mem (List.mem_of_getElem? (i := 1090) (by decide +kernel)) (by decide +kernel), g_w_mem (List.mem_of_getElem? (i := 1089) (by decide +kernel)) (by decide +kernel)⟩ ⟨by decide, by decide, by decide +kernel⟩ ⟨rfl, rfl⟩ ⟨by decide, by decide⟩ ⟨hcs.1, hcs.2⟩ rfl rfl (Nat.le_of_ble_eq_true rfl) dL_law_1802 ?_
  change GR P X Qf (ce + 1) (sl + 6) E 1805 [some (.ref b), some (gr P 0), some (gr P 166), some (gr P 177), some (gr P 178), some (.int (nI m)), none, none, none, none] [.int k] g1 x1
  refine GR_istore (pc := 1805) (L' := [some (.ref b), some (gr P 0), some (gr P 166), some (gr P 177), some (gr P 178), some (.int (nI m)), some (.int k), none, none, none]) hC dL_law_1805 (by decide) rfl rfl ?_
  refine GR_aload_n (pc := 1807) hC dL_law_1807 rfl rfl ?_
  refine GR_arg (pc := 1808) (c := 1) hC hX hbs hbA hn (by omega) rfl rfl (by decide) rfl dL_law_1808 dL_law_1809 dL_law_1811 dL_law_1812 dL_law_1813 ?_
  refine GR_callVK (pc := 1814) (As := [.int (xs (m + 1))]) (b := (h1, r1)) hC (k_X11_totalDebt (hf.mono (by decide))) hM1 MYC_X11_totalDebt MIC_X11_totalDebt (g_w_mem (List.mem_of_getElem? (i := 1856) (by decide +kernel)) (by decide +kernel)) (sh_166 (hf.mono (by decide))) rfl rfl ⟨rfl, rfl⟩ ⟨by decide, by decide⟩ hcs0 rfl rfl (Nat.le_of_ble_eq_true rfl) dL_law_1814 ?_
  change GR P X Qf (ce + 1) (sl + 6) E 1817 [some (.ref b), some (gr P 0), some (gr P 166), some (gr P 177), some (gr P 178), some (.int (nI m)), some (.int k), none, none, none] [.int r1] h1 x1
  refine GR_istore (pc := 1817) (L' := [some (.ref b), some (gr P 0), some (gr P 166), some (gr P 177), some (gr P 178), some (.int (nI m)), some (.int k), some (.int r1), none, none]) hC dL_law_1817 (by decide) rfl rfl ?_
  refine GR_aload_n (pc := 1819) hC dL_law_1819 rfl rfl ?_
  refine GR_callVK (pc := 1820) (As := []) (E0 := ((f_X11_thrown h1).map (fun r => (h1, r)))) (b := (h1, h1 166 9)) hC (k_X11_thrown (hf.mono (by decide))) rfl MYC_X11_thrown MIC_X11_thrown (g_w_mem (List.mem_of_getElem? (i := 1392) (by decide +kernel)) (by decide +kernel)) (sh_166 (hf.mono (by decide))) rfl rfl ⟨rfl, rfl⟩ ⟨by decide, by decide⟩ hcs0 rfl rfl (Nat.le_of_ble_eq_true rfl) dL_law_1820 ?_
  change GR P X Qf (ce + 1) (sl + 6) E 1823 [some (.ref b), some (gr P 0), some (gr P 166), some (gr P 177), some (gr P 178), some (.int (nI m)), some (.int k), some (.int r1), none, none] [.int (h1 166 9)] h1 x1
  refine GR_iload (pc := 1823) hC dL_law_1823 rfl ?_
  refine GR_icmp_eqT (pc := 1825) (tgt := 1830) hC hT dL_law_1825 (by decide) ?_
  refine GR_iload (pc := 1830) hC dL_law_1830 rfl ?_
  by_cases hk : k = 0
  · refine GR_if_neF (pc := 1832) (tgt := 1847) hC hk dL_law_1832 (by decide) ?_
    refine GR_aload_n (pc := 1835) hC dL_law_1835 rfl rfl ?_
    refine GR_iconst (pc := 1836) (v := 0) hC dL_law_1836 rfl ?_
    refine GR_lald (pc := 1837) hC hF rfl dL_law_1837 ?_
    refine GR_iload (pc := 1838) hC dL_law_1838 rfl ?_
    refine GR_i2l (pc := 1840) hC dL_law_1840 ?_
    refine GR_lcmp (pc := 1841) hC dL_law_1841 ?_
    refine GR_if_eqT (pc := 1842) (tgt := 1847) hC (by rw [hR hk]; exact g_lcmp_self _) dL_law_1842 (by decide) ?_
    refine GR_goto (pc := 1847) (tgt := 3182) hC dL_law_1847 (by decide) ?_
    exact GR.less kk (g_le_at (And.intro rfl (And.intro rfl (And.intro rfl (And.intro rfl (And.intro rfl (And.intro rfl trivial)))))))
  · refine GR_if_neT (pc := 1832) (tgt := 1847) hC hk dL_law_1832 (by decide) ?_
    refine GR_goto (pc := 1847) (tgt := 3182) hC dL_law_1847 (by decide) ?_
    exact GR.less kk (g_le_at (And.intro rfl (And.intro rfl (And.intro rfl (And.intro rfl (And.intro rfl (And.intro rfl trivial)))))))
set_option maxRecDepth 20000 in
set_option maxHeartbeats 2000000 in
theorem lc_32 {P : GP} {X : GX} {α : Type} {Qf : α → State → Prop} {E : Option α} {ce sl b n m : Nat} {xs : Nat → Int32} {g : GM} {x : GE} {g1 : GM} {x1 : GE} {k : Int32} {h1 : GM} {r1 : Int32} (hC : GC P X RL cL_law 10 room_1) (hF : g_sh P = g_full) (hf : g_on P 179) (hX : va_X b n xs X.2.2.2.2.1 X.2.2.2.2.1.heap) (hbs : b < X.2.2.2.2.1.heap.size) (hbA : ¬ X.2.2.2.2.2.2.2.2.2.2 b) (hn : n ≤ 3072) (hm : m + 6 ≤ n) (hcs : ce + 1 ≤ 601024 ∧ sl + 6 ≤ 7293033) (hL : (f_X10_totalClaims g (xs (m + 1))).bind (lw_F x false ltb_0) = some (g1, x1, k)) (hM1 : (f_X11_totalClaims g1 (xs (m + 1))) = some (h1, r1)) (hT : h1 166 9 = k) (hR : k = 0 → x1.1 0 = r1.toInt64) (kk : GR P X Qf (ce + 1) (sl + 6) E 3182 [some (.ref b), some (gr P 0), some (gr P 166), some (gr P 177), some (gr P 178), some (.int (nI m)), none, none, none, none] [] h1 x1) : GR P X Qf ce sl E 1850 [some (.ref b), some (gr P 0), some (gr P 166), some (gr P 177), some (gr P 178), some (.int (nI m)), none, none, none, none] [] g x := by
  have hcs0 : ce + 1 ≤ room_1.cells ∧ sl + 6 ≤ room_1.slots := ⟨by show _ ≤ 601024; omega, by show _ ≤ 7293033; omega⟩
  refine GR_aload_n (pc := 1850) hC dL_law_1850 rfl rfl ?_
  refine GR_arg (pc := 1851) (c := 1) hC hX hbs hbA hn (by omega) rfl rfl (by decide) rfl dL_law_1851 dL_law_1852 dL_law_1854 dL_law_1855 dL_law_1856 ?_
  refine GR_aload_n (pc := 1857) hC dL_law_1857 rfl rfl ?_
  refine GR_callSL (pc := 1858) (n := 3) (As := [gr P 0, .int (xs (m + 1)), gr P 177]) (b := (g1, x1, k)) hC (kL_totalClaims hF hf) hL ⟨g_w_mem (List.mem_of_getElem? (i := 1098) (by decide +kernel)) (by decide +kernel), g_w_mem (List.mem_of_getElem? (i := 92) (by decide +kernel)) (by decide +kernel), g_w_mem (List.mem_of_getElem? (i := 1097) (by decide +kernel)) (by decide +kernel), g_w_mem (List.mem_of_getElem? (i := 1096) (by decide +kernel)) (by decide +kernel)⟩ ⟨by decide, by decide, by decide +kernel⟩ ⟨rfl, rfl⟩ ⟨by decide, by decide⟩ ⟨hcs.1, hcs.2⟩ rfl rfl (Nat.le_of_ble_eq_true rfl) dL_law_1858 ?_
  change GR P X Qf (ce + 1) (sl + 6) E 1861 [some (.ref b), some (gr P 0), some (gr P 166), some (gr P 177), some (gr P 178), some (.int (nI m)), none, none, none, none] [.int k] g1 x1
  refine GR_istore (pc := 1861) (L' := [some (.ref b), some (gr P 0), some (gr P 166), some (gr P 177), some (gr P 178), some (.int (nI m)), some (.int k), none, none, none]) hC dL_law_1861 (by decide) rfl rfl ?_
  refine GR_aload_n (pc := 1863) hC dL_law_1863 rfl rfl ?_
  refine GR_arg (pc := 1864) (c := 1) hC hX hbs hbA hn (by omega) rfl rfl (by decide) rfl dL_law_1864 dL_law_1865 dL_law_1867 dL_law_1868 dL_law_1869 ?_
  refine GR_callVK (pc := 1870) (As := [.int (xs (m + 1))]) (b := (h1, r1)) hC (k_X11_totalClaims (hf.mono (by decide))) hM1 MYC_X11_totalClaims MIC_X11_totalClaims (g_w_mem (List.mem_of_getElem? (i := 1860) (by decide +kernel)) (by decide +kernel)) (sh_166 (hf.mono (by decide))) rfl rfl ⟨rfl, rfl⟩ ⟨by decide, by decide⟩ hcs0 rfl rfl (Nat.le_of_ble_eq_true rfl) dL_law_1870 ?_
  change GR P X Qf (ce + 1) (sl + 6) E 1873 [some (.ref b), some (gr P 0), some (gr P 166), some (gr P 177), some (gr P 178), some (.int (nI m)), some (.int k), none, none, none] [.int r1] h1 x1
  refine GR_istore (pc := 1873) (L' := [some (.ref b), some (gr P 0), some (gr P 166), some (gr P 177), some (gr P 178), some (.int (nI m)), some (.int k), some (.int r1), none, none]) hC dL_law_1873 (by decide) rfl rfl ?_
  refine GR_aload_n (pc := 1875) hC dL_law_1875 rfl rfl ?_
  refine GR_callVK (pc := 1876) (As := []) (E0 := ((f_X11_thrown h1).map (fun r => (h1, r)))) (b := (h1, h1 166 9)) hC (k_X11_thrown (hf.mono (by decide))) rfl MYC_X11_thrown MIC_X11_thrown (g_w_mem (List.mem_of_getElem? (i := 1392) (by decide +kernel)) (by decide +kernel)) (sh_166 (hf.mono (by decide))) rfl rfl ⟨rfl, rfl⟩ ⟨by decide, by decide⟩ hcs0 rfl rfl (Nat.le_of_ble_eq_true rfl) dL_law_1876 ?_
  change GR P X Qf (ce + 1) (sl + 6) E 1879 [some (.ref b), some (gr P 0), some (gr P 166), some (gr P 177), some (gr P 178), some (.int (nI m)), some (.int k), some (.int r1), none, none] [.int (h1 166 9)] h1 x1
  refine GR_iload (pc := 1879) hC dL_law_1879 rfl ?_
  refine GR_icmp_eqT (pc := 1881) (tgt := 1886) hC hT dL_law_1881 (by decide) ?_
  refine GR_iload (pc := 1886) hC dL_law_1886 rfl ?_
  by_cases hk : k = 0
  · refine GR_if_neF (pc := 1888) (tgt := 1903) hC hk dL_law_1888 (by decide) ?_
    refine GR_aload_n (pc := 1891) hC dL_law_1891 rfl rfl ?_
    refine GR_iconst (pc := 1892) (v := 0) hC dL_law_1892 rfl ?_
    refine GR_lald (pc := 1893) hC hF rfl dL_law_1893 ?_
    refine GR_iload (pc := 1894) hC dL_law_1894 rfl ?_
    refine GR_i2l (pc := 1896) hC dL_law_1896 ?_
    refine GR_lcmp (pc := 1897) hC dL_law_1897 ?_
    refine GR_if_eqT (pc := 1898) (tgt := 1903) hC (by rw [hR hk]; exact g_lcmp_self _) dL_law_1898 (by decide) ?_
    refine GR_goto (pc := 1903) (tgt := 3182) hC dL_law_1903 (by decide) ?_
    exact GR.less kk (g_le_at (And.intro rfl (And.intro rfl (And.intro rfl (And.intro rfl (And.intro rfl (And.intro rfl trivial)))))))
  · refine GR_if_neT (pc := 1888) (tgt := 1903) hC hk dL_law_1888 (by decide) ?_
    refine GR_goto (pc := 1903) (tgt := 3182) hC dL_law_1903 (by decide) ?_
    exact GR.less kk (g_le_at (And.intro rfl (And.intro rfl (And.intro rfl (And.intro rfl (And.intro rfl (And.intro rfl trivial)))))))
set_option maxRecDepth 20000 in
set_option maxHeartbeats 2000000 in
theorem lc_33 {P : GP} {X : GX} {α : Type} {Qf : α → State → Prop} {E : Option α} {ce sl b n m : Nat} {xs : Nat → Int32} {g : GM} {x : GE} {g1 : GM} {x1 : GE} {k : Int32} {h1 : GM} {r1 : Int32} (hC : GC P X RL cL_law 10 room_1) (hF : g_sh P = g_full) (hf : g_on P 179) (hX : va_X b n xs X.2.2.2.2.1 X.2.2.2.2.1.heap) (hbs : b < X.2.2.2.2.1.heap.size) (hbA : ¬ X.2.2.2.2.2.2.2.2.2.2 b) (hn : n ≤ 3072) (hm : m + 6 ≤ n) (hcs : ce + 1 ≤ 601024 ∧ sl + 6 ≤ 7293033) (hL : (f_X10_closedCycleLength g (xs (m + 1)) (xs (m + 2))).bind (lw_F x false ltb_0) = some (g1, x1, k)) (hM1 : (f_X11_closedCycleLength g1 (xs (m + 1)) (xs (m + 2))) = some (h1, r1)) (hT : h1 166 9 = k) (hR : k = 0 → x1.1 0 = r1.toInt64) (kk : GR P X Qf (ce + 1) (sl + 6) E 3182 [some (.ref b), some (gr P 0), some (gr P 166), some (gr P 177), some (gr P 178), some (.int (nI m)), none, none, none, none] [] h1 x1) : GR P X Qf ce sl E 1906 [some (.ref b), some (gr P 0), some (gr P 166), some (gr P 177), some (gr P 178), some (.int (nI m)), none, none, none, none] [] g x := by
  have hcs0 : ce + 1 ≤ room_1.cells ∧ sl + 6 ≤ room_1.slots := ⟨by show _ ≤ 601024; omega, by show _ ≤ 7293033; omega⟩
  refine GR_aload_n (pc := 1906) hC dL_law_1906 rfl rfl ?_
  refine GR_arg (pc := 1907) (c := 1) hC hX hbs hbA hn (by omega) rfl rfl (by decide) rfl dL_law_1907 dL_law_1908 dL_law_1910 dL_law_1911 dL_law_1912 ?_
  refine GR_arg (pc := 1913) (c := 2) hC hX hbs hbA hn (by omega) rfl rfl (by decide) rfl dL_law_1913 dL_law_1914 dL_law_1916 dL_law_1917 dL_law_1918 ?_
  refine GR_aload_n (pc := 1919) hC dL_law_1919 rfl rfl ?_
  refine GR_callSL (pc := 1920) (n := 4) (As := [gr P 0, .int (xs (m + 1)), .int (xs (m + 2)), gr P 177]) (b := (g1, x1, k)) hC (kL_closedCycleLength hF hf) hL ⟨g_w_mem (List.mem_of_getElem? (i := 1105) (by decide +kernel)) (by decide +kernel), g_w_mem (List.mem_of_getElem? (i := 92) (by decide +kernel)) (by decide +kernel), g_w_mem (List.mem_of_getElem? (i := 1104) (by decide +kernel)) (by decide +kernel), g_w_mem (List.mem_of_getElem? (i := 1103) (by decide +kernel)) (by decide +kernel)⟩ ⟨by decide, by decide, by decide +kernel⟩ ⟨rfl, rfl⟩ ⟨by decide, by decide⟩ ⟨hcs.1, hcs.2⟩ rfl rfl (Nat.le_of_ble_eq_true rfl) dL_law_1920 ?_
  change GR P X Qf (ce + 1) (sl + 6) E 1923 [some (.ref b), some (gr P 0), some (gr P 166), some (gr P 177), some (gr P 178), some (.int (nI m)), none, none, none, none] [.int k] g1 x1
  refine GR_istore (pc := 1923) (L' := [some (.ref b), some (gr P 0), some (gr P 166), some (gr P 177), some (gr P 178), some (.int (nI m)), some (.int k), none, none, none]) hC dL_law_1923 (by decide) rfl rfl ?_
  refine GR_aload_n (pc := 1925) hC dL_law_1925 rfl rfl ?_
  refine GR_arg (pc := 1926) (c := 1) hC hX hbs hbA hn (by omega) rfl rfl (by decide) rfl dL_law_1926 dL_law_1927 dL_law_1929 dL_law_1930 dL_law_1931 ?_
  refine GR_arg (pc := 1932) (c := 2) hC hX hbs hbA hn (by omega) rfl rfl (by decide) rfl dL_law_1932 dL_law_1933 dL_law_1935 dL_law_1936 dL_law_1937 ?_
  refine GR_callVK (pc := 1938) (As := [.int (xs (m + 1)), .int (xs (m + 2))]) (b := (h1, r1)) hC (k_X11_closedCycleLength (hf.mono (by decide))) hM1 MYC_X11_closedCycleLength MIC_X11_closedCycleLength (g_w_mem (List.mem_of_getElem? (i := 1864) (by decide +kernel)) (by decide +kernel)) (sh_166 (hf.mono (by decide))) rfl rfl ⟨rfl, rfl⟩ ⟨by decide, by decide⟩ hcs0 rfl rfl (Nat.le_of_ble_eq_true rfl) dL_law_1938 ?_
  change GR P X Qf (ce + 1) (sl + 6) E 1941 [some (.ref b), some (gr P 0), some (gr P 166), some (gr P 177), some (gr P 178), some (.int (nI m)), some (.int k), none, none, none] [.int r1] h1 x1
  refine GR_istore (pc := 1941) (L' := [some (.ref b), some (gr P 0), some (gr P 166), some (gr P 177), some (gr P 178), some (.int (nI m)), some (.int k), some (.int r1), none, none]) hC dL_law_1941 (by decide) rfl rfl ?_
  refine GR_aload_n (pc := 1943) hC dL_law_1943 rfl rfl ?_
  refine GR_callVK (pc := 1944) (As := []) (E0 := ((f_X11_thrown h1).map (fun r => (h1, r)))) (b := (h1, h1 166 9)) hC (k_X11_thrown (hf.mono (by decide))) rfl MYC_X11_thrown MIC_X11_thrown (g_w_mem (List.mem_of_getElem? (i := 1392) (by decide +kernel)) (by decide +kernel)) (sh_166 (hf.mono (by decide))) rfl rfl ⟨rfl, rfl⟩ ⟨by decide, by decide⟩ hcs0 rfl rfl (Nat.le_of_ble_eq_true rfl) dL_law_1944 ?_
  change GR P X Qf (ce + 1) (sl + 6) E 1947 [some (.ref b), some (gr P 0), some (gr P 166), some (gr P 177), some (gr P 178), some (.int (nI m)), some (.int k), some (.int r1), none, none] [.int (h1 166 9)] h1 x1
  refine GR_iload (pc := 1947) hC dL_law_1947 rfl ?_
  refine GR_icmp_eqT (pc := 1949) (tgt := 1954) hC hT dL_law_1949 (by decide) ?_
  refine GR_iload (pc := 1954) hC dL_law_1954 rfl ?_
  by_cases hk : k = 0
  · refine GR_if_neF (pc := 1956) (tgt := 1971) hC hk dL_law_1956 (by decide) ?_
    refine GR_aload_n (pc := 1959) hC dL_law_1959 rfl rfl ?_
    refine GR_iconst (pc := 1960) (v := 0) hC dL_law_1960 rfl ?_
    refine GR_lald (pc := 1961) hC hF rfl dL_law_1961 ?_
    refine GR_iload (pc := 1962) hC dL_law_1962 rfl ?_
    refine GR_i2l (pc := 1964) hC dL_law_1964 ?_
    refine GR_lcmp (pc := 1965) hC dL_law_1965 ?_
    refine GR_if_eqT (pc := 1966) (tgt := 1971) hC (by rw [hR hk]; exact g_lcmp_self _) dL_law_1966 (by decide) ?_
    refine GR_goto (pc := 1971) (tgt := 3182) hC dL_law_1971 (by decide) ?_
    exact GR.less kk (g_le_at (And.intro rfl (And.intro rfl (And.intro rfl (And.intro rfl (And.intro rfl (And.intro rfl trivial)))))))
  · refine GR_if_neT (pc := 1956) (tgt := 1971) hC hk dL_law_1956 (by decide) ?_
    refine GR_goto (pc := 1971) (tgt := 3182) hC dL_law_1971 (by decide) ?_
    exact GR.less kk (g_le_at (And.intro rfl (And.intro rfl (And.intro rfl (And.intro rfl (And.intro rfl (And.intro rfl trivial)))))))
set_option maxRecDepth 20000 in
set_option maxHeartbeats 2000000 in
theorem lc_34 {P : GP} {X : GX} {α : Type} {Qf : α → State → Prop} {E : Option α} {ce sl b n m : Nat} {xs : Nat → Int32} {g : GM} {x : GE} {g1 : GM} {x1 : GE} {k : Int32} {h1 : GM} {r1 : Int32} (hC : GC P X RL cL_law 10 room_1) (hF : g_sh P = g_full) (hf : g_on P 179) (hX : va_X b n xs X.2.2.2.2.1 X.2.2.2.2.1.heap) (hbs : b < X.2.2.2.2.1.heap.size) (hbA : ¬ X.2.2.2.2.2.2.2.2.2.2 b) (hn : n ≤ 3072) (hm : m + 6 ≤ n) (hcs : ce + 1 ≤ 601024 ∧ sl + 6 ≤ 7293033) (hL : (f_X10_debtDepth g (xs (m + 1))).bind (lw_F x false ltb_0) = some (g1, x1, k)) (hM1 : (f_X11_debtDepth g1 (xs (m + 1))) = some (h1, r1)) (hT : h1 166 9 = k) (hR : k = 0 → x1.1 0 = r1.toInt64) (kk : GR P X Qf (ce + 1) (sl + 6) E 3182 [some (.ref b), some (gr P 0), some (gr P 166), some (gr P 177), some (gr P 178), some (.int (nI m)), none, none, none, none] [] h1 x1) : GR P X Qf ce sl E 1974 [some (.ref b), some (gr P 0), some (gr P 166), some (gr P 177), some (gr P 178), some (.int (nI m)), none, none, none, none] [] g x := by
  have hcs0 : ce + 1 ≤ room_1.cells ∧ sl + 6 ≤ room_1.slots := ⟨by show _ ≤ 601024; omega, by show _ ≤ 7293033; omega⟩
  refine GR_aload_n (pc := 1974) hC dL_law_1974 rfl rfl ?_
  refine GR_arg (pc := 1975) (c := 1) hC hX hbs hbA hn (by omega) rfl rfl (by decide) rfl dL_law_1975 dL_law_1976 dL_law_1978 dL_law_1979 dL_law_1980 ?_
  refine GR_aload_n (pc := 1981) hC dL_law_1981 rfl rfl ?_
  refine GR_callSL (pc := 1982) (n := 3) (As := [gr P 0, .int (xs (m + 1)), gr P 177]) (b := (g1, x1, k)) hC (kL_debtDepth hF hf) hL ⟨g_w_mem (List.mem_of_getElem? (i := 1120) (by decide +kernel)) (by decide +kernel), g_w_mem (List.mem_of_getElem? (i := 92) (by decide +kernel)) (by decide +kernel), g_w_mem (List.mem_of_getElem? (i := 1119) (by decide +kernel)) (by decide +kernel), g_w_mem (List.mem_of_getElem? (i := 1118) (by decide +kernel)) (by decide +kernel)⟩ ⟨by decide, by decide, by decide +kernel⟩ ⟨rfl, rfl⟩ ⟨by decide, by decide⟩ ⟨hcs.1, hcs.2⟩ rfl rfl (Nat.le_of_ble_eq_true rfl) dL_law_1982 ?_
  change GR P X Qf (ce + 1) (sl + 6) E 1985 [some (.ref b), some (gr P 0), some (gr P 166), some (gr P 177), some (gr P 178), some (.int (nI m)), none, none, none, none] [.int k] g1 x1
  refine GR_istore (pc := 1985) (L' := [some (.ref b), some (gr P 0), some (gr P 166), some (gr P 177), some (gr P 178), some (.int (nI m)), some (.int k), none, none, none]) hC dL_law_1985 (by decide) rfl rfl ?_
  refine GR_aload_n (pc := 1987) hC dL_law_1987 rfl rfl ?_
  refine GR_arg (pc := 1988) (c := 1) hC hX hbs hbA hn (by omega) rfl rfl (by decide) rfl dL_law_1988 dL_law_1989 dL_law_1991 dL_law_1992 dL_law_1993 ?_
  refine GR_callVK (pc := 1994) (As := [.int (xs (m + 1))]) (b := (h1, r1)) hC (k_X11_debtDepth (hf.mono (by decide))) hM1 MYC_X11_debtDepth MIC_X11_debtDepth (g_w_mem (List.mem_of_getElem? (i := 1868) (by decide +kernel)) (by decide +kernel)) (sh_166 (hf.mono (by decide))) rfl rfl ⟨rfl, rfl⟩ ⟨by decide, by decide⟩ hcs0 rfl rfl (Nat.le_of_ble_eq_true rfl) dL_law_1994 ?_
  change GR P X Qf (ce + 1) (sl + 6) E 1997 [some (.ref b), some (gr P 0), some (gr P 166), some (gr P 177), some (gr P 178), some (.int (nI m)), some (.int k), none, none, none] [.int r1] h1 x1
  refine GR_istore (pc := 1997) (L' := [some (.ref b), some (gr P 0), some (gr P 166), some (gr P 177), some (gr P 178), some (.int (nI m)), some (.int k), some (.int r1), none, none]) hC dL_law_1997 (by decide) rfl rfl ?_
  refine GR_aload_n (pc := 1999) hC dL_law_1999 rfl rfl ?_
  refine GR_callVK (pc := 2000) (As := []) (E0 := ((f_X11_thrown h1).map (fun r => (h1, r)))) (b := (h1, h1 166 9)) hC (k_X11_thrown (hf.mono (by decide))) rfl MYC_X11_thrown MIC_X11_thrown (g_w_mem (List.mem_of_getElem? (i := 1392) (by decide +kernel)) (by decide +kernel)) (sh_166 (hf.mono (by decide))) rfl rfl ⟨rfl, rfl⟩ ⟨by decide, by decide⟩ hcs0 rfl rfl (Nat.le_of_ble_eq_true rfl) dL_law_2000 ?_
  change GR P X Qf (ce + 1) (sl + 6) E 2003 [some (.ref b), some (gr P 0), some (gr P 166), some (gr P 177), some (gr P 178), some (.int (nI m)), some (.int k), some (.int r1), none, none] [.int (h1 166 9)] h1 x1
  refine GR_iload (pc := 2003) hC dL_law_2003 rfl ?_
  refine GR_icmp_eqT (pc := 2005) (tgt := 2010) hC hT dL_law_2005 (by decide) ?_
  refine GR_iload (pc := 2010) hC dL_law_2010 rfl ?_
  by_cases hk : k = 0
  · refine GR_if_neF (pc := 2012) (tgt := 2027) hC hk dL_law_2012 (by decide) ?_
    refine GR_aload_n (pc := 2015) hC dL_law_2015 rfl rfl ?_
    refine GR_iconst (pc := 2016) (v := 0) hC dL_law_2016 rfl ?_
    refine GR_lald (pc := 2017) hC hF rfl dL_law_2017 ?_
    refine GR_iload (pc := 2018) hC dL_law_2018 rfl ?_
    refine GR_i2l (pc := 2020) hC dL_law_2020 ?_
    refine GR_lcmp (pc := 2021) hC dL_law_2021 ?_
    refine GR_if_eqT (pc := 2022) (tgt := 2027) hC (by rw [hR hk]; exact g_lcmp_self _) dL_law_2022 (by decide) ?_
    refine GR_goto (pc := 2027) (tgt := 3182) hC dL_law_2027 (by decide) ?_
    exact GR.less kk (g_le_at (And.intro rfl (And.intro rfl (And.intro rfl (And.intro rfl (And.intro rfl (And.intro rfl trivial)))))))
  · refine GR_if_neT (pc := 2012) (tgt := 2027) hC hk dL_law_2012 (by decide) ?_
    refine GR_goto (pc := 2027) (tgt := 3182) hC dL_law_2027 (by decide) ?_
    exact GR.less kk (g_le_at (And.intro rfl (And.intro rfl (And.intro rfl (And.intro rfl (And.intro rfl (And.intro rfl trivial)))))))
set_option maxRecDepth 20000 in
set_option maxHeartbeats 2000000 in
theorem lc_35 {P : GP} {X : GX} {α : Type} {Qf : α → State → Prop} {E : Option α} {ce sl b n m : Nat} {xs : Nat → Int32} {g : GM} {x : GE} {g1 : GM} {x1 : GE} {k : Int32} {h1 : GM} {r1 : Int32} (hC : GC P X RL cL_law 10 room_1) (hF : g_sh P = g_full) (hf : g_on P 179) (hX : va_X b n xs X.2.2.2.2.1 X.2.2.2.2.1.heap) (hbs : b < X.2.2.2.2.1.heap.size) (hbA : ¬ X.2.2.2.2.2.2.2.2.2.2 b) (hn : n ≤ 3072) (hm : m + 6 ≤ n) (hcs : ce + 1 ≤ 601024 ∧ sl + 6 ≤ 7293033) (hL : (f_X10_settlementOrder g (xs (m + 1))).bind (lw_F x false ltb_0) = some (g1, x1, k)) (hM1 : (f_X11_settlementOrder g1 (xs (m + 1))) = some (h1, r1)) (hT : h1 166 9 = k) (hR : k = 0 → x1.1 0 = r1.toInt64) (kk : GR P X Qf (ce + 1) (sl + 6) E 3182 [some (.ref b), some (gr P 0), some (gr P 166), some (gr P 177), some (gr P 178), some (.int (nI m)), none, none, none, none] [] h1 x1) : GR P X Qf ce sl E 2030 [some (.ref b), some (gr P 0), some (gr P 166), some (gr P 177), some (gr P 178), some (.int (nI m)), none, none, none, none] [] g x := by
  have hcs0 : ce + 1 ≤ room_1.cells ∧ sl + 6 ≤ room_1.slots := ⟨by show _ ≤ 601024; omega, by show _ ≤ 7293033; omega⟩
  refine GR_aload_n (pc := 2030) hC dL_law_2030 rfl rfl ?_
  refine GR_arg (pc := 2031) (c := 1) hC hX hbs hbA hn (by omega) rfl rfl (by decide) rfl dL_law_2031 dL_law_2032 dL_law_2034 dL_law_2035 dL_law_2036 ?_
  refine GR_aload_n (pc := 2037) hC dL_law_2037 rfl rfl ?_
  refine GR_callSL (pc := 2038) (n := 3) (As := [gr P 0, .int (xs (m + 1)), gr P 177]) (b := (g1, x1, k)) hC (kL_settlementOrder hF hf) hL ⟨g_w_mem (List.mem_of_getElem? (i := 1131) (by decide +kernel)) (by decide +kernel), g_w_mem (List.mem_of_getElem? (i := 92) (by decide +kernel)) (by decide +kernel), g_w_mem (List.mem_of_getElem? (i := 1130) (by decide +kernel)) (by decide +kernel), g_w_mem (List.mem_of_getElem? (i := 1129) (by decide +kernel)) (by decide +kernel)⟩ ⟨by decide, by decide, by decide +kernel⟩ ⟨rfl, rfl⟩ ⟨by decide, by decide⟩ ⟨hcs.1, hcs.2⟩ rfl rfl (Nat.le_of_ble_eq_true rfl) dL_law_2038 ?_
  change GR P X Qf (ce + 1) (sl + 6) E 2041 [some (.ref b), some (gr P 0), some (gr P 166), some (gr P 177), some (gr P 178), some (.int (nI m)), none, none, none, none] [.int k] g1 x1
  refine GR_istore (pc := 2041) (L' := [some (.ref b), some (gr P 0), some (gr P 166), some (gr P 177), some (gr P 178), some (.int (nI m)), some (.int k), none, none, none]) hC dL_law_2041 (by decide) rfl rfl ?_
  refine GR_aload_n (pc := 2043) hC dL_law_2043 rfl rfl ?_
  refine GR_arg (pc := 2044) (c := 1) hC hX hbs hbA hn (by omega) rfl rfl (by decide) rfl dL_law_2044 dL_law_2045 dL_law_2047 dL_law_2048 dL_law_2049 ?_
  refine GR_callVK (pc := 2050) (As := [.int (xs (m + 1))]) (b := (h1, r1)) hC (k_X11_settlementOrder (hf.mono (by decide))) hM1 MYC_X11_settlementOrder MIC_X11_settlementOrder (g_w_mem (List.mem_of_getElem? (i := 1876) (by decide +kernel)) (by decide +kernel)) (sh_166 (hf.mono (by decide))) rfl rfl ⟨rfl, rfl⟩ ⟨by decide, by decide⟩ hcs0 rfl rfl (Nat.le_of_ble_eq_true rfl) dL_law_2050 ?_
  change GR P X Qf (ce + 1) (sl + 6) E 2053 [some (.ref b), some (gr P 0), some (gr P 166), some (gr P 177), some (gr P 178), some (.int (nI m)), some (.int k), none, none, none] [.int r1] h1 x1
  refine GR_istore (pc := 2053) (L' := [some (.ref b), some (gr P 0), some (gr P 166), some (gr P 177), some (gr P 178), some (.int (nI m)), some (.int k), some (.int r1), none, none]) hC dL_law_2053 (by decide) rfl rfl ?_
  refine GR_aload_n (pc := 2055) hC dL_law_2055 rfl rfl ?_
  refine GR_callVK (pc := 2056) (As := []) (E0 := ((f_X11_thrown h1).map (fun r => (h1, r)))) (b := (h1, h1 166 9)) hC (k_X11_thrown (hf.mono (by decide))) rfl MYC_X11_thrown MIC_X11_thrown (g_w_mem (List.mem_of_getElem? (i := 1392) (by decide +kernel)) (by decide +kernel)) (sh_166 (hf.mono (by decide))) rfl rfl ⟨rfl, rfl⟩ ⟨by decide, by decide⟩ hcs0 rfl rfl (Nat.le_of_ble_eq_true rfl) dL_law_2056 ?_
  change GR P X Qf (ce + 1) (sl + 6) E 2059 [some (.ref b), some (gr P 0), some (gr P 166), some (gr P 177), some (gr P 178), some (.int (nI m)), some (.int k), some (.int r1), none, none] [.int (h1 166 9)] h1 x1
  refine GR_iload (pc := 2059) hC dL_law_2059 rfl ?_
  refine GR_icmp_eqT (pc := 2061) (tgt := 2066) hC hT dL_law_2061 (by decide) ?_
  refine GR_iload (pc := 2066) hC dL_law_2066 rfl ?_
  by_cases hk : k = 0
  · refine GR_if_neF (pc := 2068) (tgt := 2083) hC hk dL_law_2068 (by decide) ?_
    refine GR_aload_n (pc := 2071) hC dL_law_2071 rfl rfl ?_
    refine GR_iconst (pc := 2072) (v := 0) hC dL_law_2072 rfl ?_
    refine GR_lald (pc := 2073) hC hF rfl dL_law_2073 ?_
    refine GR_iload (pc := 2074) hC dL_law_2074 rfl ?_
    refine GR_i2l (pc := 2076) hC dL_law_2076 ?_
    refine GR_lcmp (pc := 2077) hC dL_law_2077 ?_
    refine GR_if_eqT (pc := 2078) (tgt := 2083) hC (by rw [hR hk]; exact g_lcmp_self _) dL_law_2078 (by decide) ?_
    refine GR_goto (pc := 2083) (tgt := 3182) hC dL_law_2083 (by decide) ?_
    exact GR.less kk (g_le_at (And.intro rfl (And.intro rfl (And.intro rfl (And.intro rfl (And.intro rfl (And.intro rfl trivial)))))))
  · refine GR_if_neT (pc := 2068) (tgt := 2083) hC hk dL_law_2068 (by decide) ?_
    refine GR_goto (pc := 2083) (tgt := 3182) hC dL_law_2083 (by decide) ?_
    exact GR.less kk (g_le_at (And.intro rfl (And.intro rfl (And.intro rfl (And.intro rfl (And.intro rfl (And.intro rfl trivial)))))))
set_option maxRecDepth 20000 in
set_option maxHeartbeats 2000000 in
theorem lc_36 {P : GP} {X : GX} {α : Type} {Qf : α → State → Prop} {E : Option α} {ce sl b n m : Nat} {xs : Nat → Int32} {g : GM} {x : GE} {g1 : GM} {x1 : GE} {k : Int32} {h1 : GM} {r1 : Int32} (hC : GC P X RL cL_law 10 room_1) (hF : g_sh P = g_full) (hf : g_on P 179) (hX : va_X b n xs X.2.2.2.2.1 X.2.2.2.2.1.heap) (hbs : b < X.2.2.2.2.1.heap.size) (hbA : ¬ X.2.2.2.2.2.2.2.2.2.2 b) (hn : n ≤ 3072) (hm : m + 6 ≤ n) (hcs : ce + 1 ≤ 601024 ∧ sl + 6 ≤ 7293033) (hL : (f_X10_transitiveClaims g (xs (m + 1))).bind (lw_F x false ltb_0) = some (g1, x1, k)) (hM1 : (f_X11_transitiveClaims g1 (xs (m + 1))) = some (h1, r1)) (hT : h1 166 9 = k) (hR : k = 0 → x1.1 0 = r1.toInt64) (kk : GR P X Qf (ce + 1) (sl + 6) E 3182 [some (.ref b), some (gr P 0), some (gr P 166), some (gr P 177), some (gr P 178), some (.int (nI m)), none, none, none, none] [] h1 x1) : GR P X Qf ce sl E 2086 [some (.ref b), some (gr P 0), some (gr P 166), some (gr P 177), some (gr P 178), some (.int (nI m)), none, none, none, none] [] g x := by
  have hcs0 : ce + 1 ≤ room_1.cells ∧ sl + 6 ≤ room_1.slots := ⟨by show _ ≤ 601024; omega, by show _ ≤ 7293033; omega⟩
  refine GR_aload_n (pc := 2086) hC dL_law_2086 rfl rfl ?_
  refine GR_arg (pc := 2087) (c := 1) hC hX hbs hbA hn (by omega) rfl rfl (by decide) rfl dL_law_2087 dL_law_2088 dL_law_2090 dL_law_2091 dL_law_2092 ?_
  refine GR_aload_n (pc := 2093) hC dL_law_2093 rfl rfl ?_
  refine GR_callSL (pc := 2094) (n := 3) (As := [gr P 0, .int (xs (m + 1)), gr P 177]) (b := (g1, x1, k)) hC (kL_transitiveClaims hF hf) hL ⟨g_w_mem (List.mem_of_getElem? (i := 1146) (by decide +kernel)) (by decide +kernel), g_w_mem (List.mem_of_getElem? (i := 92) (by decide +kernel)) (by decide +kernel), g_w_mem (List.mem_of_getElem? (i := 1145) (by decide +kernel)) (by decide +kernel), g_w_mem (List.mem_of_getElem? (i := 1144) (by decide +kernel)) (by decide +kernel)⟩ ⟨by decide, by decide, by decide +kernel⟩ ⟨rfl, rfl⟩ ⟨by decide, by decide⟩ ⟨hcs.1, hcs.2⟩ rfl rfl (Nat.le_of_ble_eq_true rfl) dL_law_2094 ?_
  change GR P X Qf (ce + 1) (sl + 6) E 2097 [some (.ref b), some (gr P 0), some (gr P 166), some (gr P 177), some (gr P 178), some (.int (nI m)), none, none, none, none] [.int k] g1 x1
  refine GR_istore (pc := 2097) (L' := [some (.ref b), some (gr P 0), some (gr P 166), some (gr P 177), some (gr P 178), some (.int (nI m)), some (.int k), none, none, none]) hC dL_law_2097 (by decide) rfl rfl ?_
  refine GR_aload_n (pc := 2099) hC dL_law_2099 rfl rfl ?_
  refine GR_arg (pc := 2100) (c := 1) hC hX hbs hbA hn (by omega) rfl rfl (by decide) rfl dL_law_2100 dL_law_2101 dL_law_2103 dL_law_2104 dL_law_2105 ?_
  refine GR_callVK (pc := 2106) (As := [.int (xs (m + 1))]) (b := (h1, r1)) hC (k_X11_transitiveClaims (hf.mono (by decide))) hM1 MYC_X11_transitiveClaims MIC_X11_transitiveClaims (g_w_mem (List.mem_of_getElem? (i := 1884) (by decide +kernel)) (by decide +kernel)) (sh_166 (hf.mono (by decide))) rfl rfl ⟨rfl, rfl⟩ ⟨by decide, by decide⟩ hcs0 rfl rfl (Nat.le_of_ble_eq_true rfl) dL_law_2106 ?_
  change GR P X Qf (ce + 1) (sl + 6) E 2109 [some (.ref b), some (gr P 0), some (gr P 166), some (gr P 177), some (gr P 178), some (.int (nI m)), some (.int k), none, none, none] [.int r1] h1 x1
  refine GR_istore (pc := 2109) (L' := [some (.ref b), some (gr P 0), some (gr P 166), some (gr P 177), some (gr P 178), some (.int (nI m)), some (.int k), some (.int r1), none, none]) hC dL_law_2109 (by decide) rfl rfl ?_
  refine GR_aload_n (pc := 2111) hC dL_law_2111 rfl rfl ?_
  refine GR_callVK (pc := 2112) (As := []) (E0 := ((f_X11_thrown h1).map (fun r => (h1, r)))) (b := (h1, h1 166 9)) hC (k_X11_thrown (hf.mono (by decide))) rfl MYC_X11_thrown MIC_X11_thrown (g_w_mem (List.mem_of_getElem? (i := 1392) (by decide +kernel)) (by decide +kernel)) (sh_166 (hf.mono (by decide))) rfl rfl ⟨rfl, rfl⟩ ⟨by decide, by decide⟩ hcs0 rfl rfl (Nat.le_of_ble_eq_true rfl) dL_law_2112 ?_
  change GR P X Qf (ce + 1) (sl + 6) E 2115 [some (.ref b), some (gr P 0), some (gr P 166), some (gr P 177), some (gr P 178), some (.int (nI m)), some (.int k), some (.int r1), none, none] [.int (h1 166 9)] h1 x1
  refine GR_iload (pc := 2115) hC dL_law_2115 rfl ?_
  refine GR_icmp_eqT (pc := 2117) (tgt := 2122) hC hT dL_law_2117 (by decide) ?_
  refine GR_iload (pc := 2122) hC dL_law_2122 rfl ?_
  by_cases hk : k = 0
  · refine GR_if_neF (pc := 2124) (tgt := 2139) hC hk dL_law_2124 (by decide) ?_
    refine GR_aload_n (pc := 2127) hC dL_law_2127 rfl rfl ?_
    refine GR_iconst (pc := 2128) (v := 0) hC dL_law_2128 rfl ?_
    refine GR_lald (pc := 2129) hC hF rfl dL_law_2129 ?_
    refine GR_iload (pc := 2130) hC dL_law_2130 rfl ?_
    refine GR_i2l (pc := 2132) hC dL_law_2132 ?_
    refine GR_lcmp (pc := 2133) hC dL_law_2133 ?_
    refine GR_if_eqT (pc := 2134) (tgt := 2139) hC (by rw [hR hk]; exact g_lcmp_self _) dL_law_2134 (by decide) ?_
    refine GR_goto (pc := 2139) (tgt := 3182) hC dL_law_2139 (by decide) ?_
    exact GR.less kk (g_le_at (And.intro rfl (And.intro rfl (And.intro rfl (And.intro rfl (And.intro rfl (And.intro rfl trivial)))))))
  · refine GR_if_neT (pc := 2124) (tgt := 2139) hC hk dL_law_2124 (by decide) ?_
    refine GR_goto (pc := 2139) (tgt := 3182) hC dL_law_2139 (by decide) ?_
    exact GR.less kk (g_le_at (And.intro rfl (And.intro rfl (And.intro rfl (And.intro rfl (And.intro rfl (And.intro rfl trivial)))))))
set_option maxRecDepth 20000 in
set_option maxHeartbeats 2000000 in
theorem lc_37 {P : GP} {X : GX} {α : Type} {Qf : α → State → Prop} {E : Option α} {ce sl b n m : Nat} {xs : Nat → Int32} {g : GM} {x : GE}  {h1 : GM} {r1 : Int32} {h2 : GM} {r2 : Int32} (hC : GC P X RL cL_law 10 room_1) (hF : g_sh P = g_full) (hf : g_on P 179) (hX : va_X b n xs X.2.2.2.2.1 X.2.2.2.2.1.heap) (hbs : b < X.2.2.2.2.1.heap.size) (hbA : ¬ X.2.2.2.2.2.2.2.2.2.2 b) (hn : n ≤ 3072) (hm : m + 6 ≤ n) (hcs : ce + 1 ≤ 601024 ∧ sl + 6 ≤ 7293033) (hM1 : ((f_X10_immediateGrants g).map (fun r => (g, r))) = some (h1, r1)) (hM2 : (f_X11_immediateGrants h1) = some (h2, r2)) (hR : r1 = r2) (kk : GR P X Qf (ce + 1) (sl + 6) E 3182 [some (.ref b), some (gr P 0), some (gr P 166), some (gr P 177), some (gr P 178), some (.int (nI m)), none, none, none, none] [] h2 x) : GR P X Qf ce sl E 2142 [some (.ref b), some (gr P 0), some (gr P 166), some (gr P 177), some (gr P 178), some (.int (nI m)), none, none, none, none] [] g x := by
  have hcs0 : ce ≤ room_1.cells ∧ sl ≤ room_1.slots := ⟨by show _ ≤ 601024; omega, by show _ ≤ 7293033; omega⟩
  refine GR_aload_n (pc := 2142) hC dL_law_2142 rfl rfl ?_
  refine GR_callVK (pc := 2143) (As := []) (b := (h1, r1)) hC (k_X10_immediateGrants (hf.mono (by decide))) hM1 MYC_X10_immediateGrants MIC_X10_immediateGrants (g_w_mem (List.mem_of_getElem? (i := 665) (by decide +kernel)) (by decide +kernel)) (sh_0 (hf.mono (by decide))) rfl rfl ⟨rfl, rfl⟩ ⟨by decide, by decide⟩ hcs0 rfl rfl (Nat.le_of_ble_eq_true rfl) dL_law_2143 ?_
  change GR P X Qf (ce) (sl) E 2146 [some (.ref b), some (gr P 0), some (gr P 166), some (gr P 177), some (gr P 178), some (.int (nI m)), none, none, none, none] [.int r1] h1 x
  refine GR_aload_n (pc := 2146) hC dL_law_2146 rfl rfl ?_
  refine GR_callVK (pc := 2147) (As := []) (b := (h2, r2)) hC (k_X11_immediateGrants (hf.mono (by decide))) hM2 MYC_X11_immediateGrants MIC_X11_immediateGrants (g_w_mem (List.mem_of_getElem? (i := 1888) (by decide +kernel)) (by decide +kernel)) (sh_166 (hf.mono (by decide))) rfl rfl ⟨rfl, rfl⟩ ⟨by decide, by decide⟩ hcs0 rfl rfl (Nat.le_of_ble_eq_true rfl) dL_law_2147 ?_
  change GR P X Qf (ce) (sl) E 2150 [some (.ref b), some (gr P 0), some (gr P 166), some (gr P 177), some (gr P 178), some (.int (nI m)), none, none, none, none] [.int r2, .int r1] h2 x
  refine GR_icmp_eqT (pc := 2150) (tgt := 3182) hC hR dL_law_2150 (by decide) ?_
  exact GR.wide (GR.less (kk) (g_le_at (And.intro rfl (And.intro rfl (And.intro rfl (And.intro rfl (And.intro rfl (And.intro rfl trivial))))))))
set_option maxRecDepth 20000 in
set_option maxHeartbeats 2000000 in
theorem lc_38 {P : GP} {X : GX} {α : Type} {Qf : α → State → Prop} {E : Option α} {ce sl b n m : Nat} {xs : Nat → Int32} {g : GM} {x : GE}  {h1 : GM} {r1 : Int32} {h2 : GM} {r2 : Int32} (hC : GC P X RL cL_law 10 room_1) (hF : g_sh P = g_full) (hf : g_on P 179) (hX : va_X b n xs X.2.2.2.2.1 X.2.2.2.2.1.heap) (hbs : b < X.2.2.2.2.1.heap.size) (hbA : ¬ X.2.2.2.2.2.2.2.2.2.2 b) (hn : n ≤ 3072) (hm : m + 6 ≤ n) (hcs : ce + 1 ≤ 601024 ∧ sl + 6 ≤ 7293033) (hM1 : ((f_X10_queuedGrants g).map (fun r => (g, r))) = some (h1, r1)) (hM2 : (f_X11_queuedGrants h1) = some (h2, r2)) (hR : r1 = r2) (kk : GR P X Qf (ce + 1) (sl + 6) E 3182 [some (.ref b), some (gr P 0), some (gr P 166), some (gr P 177), some (gr P 178), some (.int (nI m)), none, none, none, none] [] h2 x) : GR P X Qf ce sl E 2155 [some (.ref b), some (gr P 0), some (gr P 166), some (gr P 177), some (gr P 178), some (.int (nI m)), none, none, none, none] [] g x := by
  have hcs0 : ce ≤ room_1.cells ∧ sl ≤ room_1.slots := ⟨by show _ ≤ 601024; omega, by show _ ≤ 7293033; omega⟩
  refine GR_aload_n (pc := 2155) hC dL_law_2155 rfl rfl ?_
  refine GR_callVK (pc := 2156) (As := []) (b := (h1, r1)) hC (k_X10_queuedGrants (hf.mono (by decide))) hM1 MYC_X10_queuedGrants MIC_X10_queuedGrants (g_w_mem (List.mem_of_getElem? (i := 669) (by decide +kernel)) (by decide +kernel)) (sh_0 (hf.mono (by decide))) rfl rfl ⟨rfl, rfl⟩ ⟨by decide, by decide⟩ hcs0 rfl rfl (Nat.le_of_ble_eq_true rfl) dL_law_2156 ?_
  change GR P X Qf (ce) (sl) E 2159 [some (.ref b), some (gr P 0), some (gr P 166), some (gr P 177), some (gr P 178), some (.int (nI m)), none, none, none, none] [.int r1] h1 x
  refine GR_aload_n (pc := 2159) hC dL_law_2159 rfl rfl ?_
  refine GR_callVK (pc := 2160) (As := []) (b := (h2, r2)) hC (k_X11_queuedGrants (hf.mono (by decide))) hM2 MYC_X11_queuedGrants MIC_X11_queuedGrants (g_w_mem (List.mem_of_getElem? (i := 1892) (by decide +kernel)) (by decide +kernel)) (sh_166 (hf.mono (by decide))) rfl rfl ⟨rfl, rfl⟩ ⟨by decide, by decide⟩ hcs0 rfl rfl (Nat.le_of_ble_eq_true rfl) dL_law_2160 ?_
  change GR P X Qf (ce) (sl) E 2163 [some (.ref b), some (gr P 0), some (gr P 166), some (gr P 177), some (gr P 178), some (.int (nI m)), none, none, none, none] [.int r2, .int r1] h2 x
  refine GR_icmp_eqT (pc := 2163) (tgt := 3182) hC hR dL_law_2163 (by decide) ?_
  exact GR.wide (GR.less (kk) (g_le_at (And.intro rfl (And.intro rfl (And.intro rfl (And.intro rfl (And.intro rfl (And.intro rfl trivial))))))))
set_option maxRecDepth 20000 in
set_option maxHeartbeats 2000000 in
theorem lc_39 {P : GP} {X : GX} {α : Type} {Qf : α → State → Prop} {E : Option α} {ce sl b n m : Nat} {xs : Nat → Int32} {g : GM} {x : GE}  {h1 : GM} {r1 : Int32} {h2 : GM} {r2 : Int32} (hC : GC P X RL cL_law 10 room_1) (hF : g_sh P = g_full) (hf : g_on P 179) (hX : va_X b n xs X.2.2.2.2.1 X.2.2.2.2.1.heap) (hbs : b < X.2.2.2.2.1.heap.size) (hbA : ¬ X.2.2.2.2.2.2.2.2.2.2 b) (hn : n ≤ 3072) (hm : m + 6 ≤ n) (hcs : ce + 1 ≤ 601024 ∧ sl + 6 ≤ 7293033) (hM1 : ((f_X10_queuedRequests g).map (fun r => (g, r))) = some (h1, r1)) (hM2 : (f_X11_queuedRequests h1) = some (h2, r2)) (hR : r1 = r2) (kk : GR P X Qf (ce + 1) (sl + 6) E 3182 [some (.ref b), some (gr P 0), some (gr P 166), some (gr P 177), some (gr P 178), some (.int (nI m)), none, none, none, none] [] h2 x) : GR P X Qf ce sl E 2168 [some (.ref b), some (gr P 0), some (gr P 166), some (gr P 177), some (gr P 178), some (.int (nI m)), none, none, none, none] [] g x := by
  have hcs0 : ce ≤ room_1.cells ∧ sl ≤ room_1.slots := ⟨by show _ ≤ 601024; omega, by show _ ≤ 7293033; omega⟩
  refine GR_aload_n (pc := 2168) hC dL_law_2168 rfl rfl ?_
  refine GR_callVK (pc := 2169) (As := []) (b := (h1, r1)) hC (k_X10_queuedRequests (hf.mono (by decide))) hM1 MYC_X10_queuedRequests MIC_X10_queuedRequests (g_w_mem (List.mem_of_getElem? (i := 673) (by decide +kernel)) (by decide +kernel)) (sh_0 (hf.mono (by decide))) rfl rfl ⟨rfl, rfl⟩ ⟨by decide, by decide⟩ hcs0 rfl rfl (Nat.le_of_ble_eq_true rfl) dL_law_2169 ?_
  change GR P X Qf (ce) (sl) E 2172 [some (.ref b), some (gr P 0), some (gr P 166), some (gr P 177), some (gr P 178), some (.int (nI m)), none, none, none, none] [.int r1] h1 x
  refine GR_aload_n (pc := 2172) hC dL_law_2172 rfl rfl ?_
  refine GR_callVK (pc := 2173) (As := []) (b := (h2, r2)) hC (k_X11_queuedRequests (hf.mono (by decide))) hM2 MYC_X11_queuedRequests MIC_X11_queuedRequests (g_w_mem (List.mem_of_getElem? (i := 1896) (by decide +kernel)) (by decide +kernel)) (sh_166 (hf.mono (by decide))) rfl rfl ⟨rfl, rfl⟩ ⟨by decide, by decide⟩ hcs0 rfl rfl (Nat.le_of_ble_eq_true rfl) dL_law_2173 ?_
  change GR P X Qf (ce) (sl) E 2176 [some (.ref b), some (gr P 0), some (gr P 166), some (gr P 177), some (gr P 178), some (.int (nI m)), none, none, none, none] [.int r2, .int r1] h2 x
  refine GR_icmp_eqT (pc := 2176) (tgt := 3182) hC hR dL_law_2176 (by decide) ?_
  exact GR.wide (GR.less (kk) (g_le_at (And.intro rfl (And.intro rfl (And.intro rfl (And.intro rfl (And.intro rfl (And.intro rfl trivial))))))))
set_option maxRecDepth 20000 in
set_option maxHeartbeats 2000000 in
theorem lc_40 {P : GP} {X : GX} {α : Type} {Qf : α → State → Prop} {E : Option α} {ce sl b n m : Nat} {xs : Nat → Int32} {g : GM} {x : GE}  {h1 : GM} {r1 : Int32} {h2 : GM} {r2 : Int32} (hC : GC P X RL cL_law 10 room_1) (hF : g_sh P = g_full) (hf : g_on P 179) (hX : va_X b n xs X.2.2.2.2.1 X.2.2.2.2.1.heap) (hbs : b < X.2.2.2.2.1.heap.size) (hbA : ¬ X.2.2.2.2.2.2.2.2.2.2 b) (hn : n ≤ 3072) (hm : m + 6 ≤ n) (hcs : ce + 1 ≤ 601024 ∧ sl + 6 ≤ 7293033) (hM1 : ((f_X10_withdrawnRequests g).map (fun r => (g, r))) = some (h1, r1)) (hM2 : (f_X11_withdrawnRequests h1) = some (h2, r2)) (hR : r1 = r2) (kk : GR P X Qf (ce + 1) (sl + 6) E 3182 [some (.ref b), some (gr P 0), some (gr P 166), some (gr P 177), some (gr P 178), some (.int (nI m)), none, none, none, none] [] h2 x) : GR P X Qf ce sl E 2181 [some (.ref b), some (gr P 0), some (gr P 166), some (gr P 177), some (gr P 178), some (.int (nI m)), none, none, none, none] [] g x := by
  have hcs0 : ce ≤ room_1.cells ∧ sl ≤ room_1.slots := ⟨by show _ ≤ 601024; omega, by show _ ≤ 7293033; omega⟩
  refine GR_aload_n (pc := 2181) hC dL_law_2181 rfl rfl ?_
  refine GR_callVK (pc := 2182) (As := []) (b := (h1, r1)) hC (k_X10_withdrawnRequests (hf.mono (by decide))) hM1 MYC_X10_withdrawnRequests MIC_X10_withdrawnRequests (g_w_mem (List.mem_of_getElem? (i := 677) (by decide +kernel)) (by decide +kernel)) (sh_0 (hf.mono (by decide))) rfl rfl ⟨rfl, rfl⟩ ⟨by decide, by decide⟩ hcs0 rfl rfl (Nat.le_of_ble_eq_true rfl) dL_law_2182 ?_
  change GR P X Qf (ce) (sl) E 2185 [some (.ref b), some (gr P 0), some (gr P 166), some (gr P 177), some (gr P 178), some (.int (nI m)), none, none, none, none] [.int r1] h1 x
  refine GR_aload_n (pc := 2185) hC dL_law_2185 rfl rfl ?_
  refine GR_callVK (pc := 2186) (As := []) (b := (h2, r2)) hC (k_X11_withdrawnRequests (hf.mono (by decide))) hM2 MYC_X11_withdrawnRequests MIC_X11_withdrawnRequests (g_w_mem (List.mem_of_getElem? (i := 1900) (by decide +kernel)) (by decide +kernel)) (sh_166 (hf.mono (by decide))) rfl rfl ⟨rfl, rfl⟩ ⟨by decide, by decide⟩ hcs0 rfl rfl (Nat.le_of_ble_eq_true rfl) dL_law_2186 ?_
  change GR P X Qf (ce) (sl) E 2189 [some (.ref b), some (gr P 0), some (gr P 166), some (gr P 177), some (gr P 178), some (.int (nI m)), none, none, none, none] [.int r2, .int r1] h2 x
  refine GR_icmp_eqT (pc := 2189) (tgt := 3182) hC hR dL_law_2189 (by decide) ?_
  exact GR.wide (GR.less (kk) (g_le_at (And.intro rfl (And.intro rfl (And.intro rfl (And.intro rfl (And.intro rfl (And.intro rfl trivial))))))))
set_option maxRecDepth 20000 in
set_option maxHeartbeats 2000000 in
theorem lc_43 {P : GP} {X : GX} {α : Type} {Qf : α → State → Prop} {E : Option α} {ce sl b n m : Nat} {xs : Nat → Int32} {g : GM} {x : GE}  {h1 : GM} {r1 : Int32} {h2 : GM} {r2 : Int32} (hC : GC P X RL cL_law 10 room_1) (hF : g_sh P = g_full) (hf : g_on P 179) (hX : va_X b n xs X.2.2.2.2.1 X.2.2.2.2.1.heap) (hbs : b < X.2.2.2.2.1.heap.size) (hbA : ¬ X.2.2.2.2.2.2.2.2.2.2 b) (hn : n ≤ 3072) (hm : m + 6 ≤ n) (hcs : ce + 1 ≤ 601024 ∧ sl + 6 ≤ 7293033) (hM1 : ((f_X10_inconsistencies g).map (fun r => (g, r))) = some (h1, r1)) (hM2 : (f_X11_inconsistencies h1) = some (h2, r2)) (hR : r1 = r2) (kk : GR P X Qf (ce + 1) (sl + 6) E 3182 [some (.ref b), some (gr P 0), some (gr P 166), some (gr P 177), some (gr P 178), some (.int (nI m)), none, none, none, none] [] h2 x) : GR P X Qf ce sl E 2313 [some (.ref b), some (gr P 0), some (gr P 166), some (gr P 177), some (gr P 178), some (.int (nI m)), none, none, none, none] [] g x := by
  have hcs0 : ce ≤ room_1.cells ∧ sl ≤ room_1.slots := ⟨by show _ ≤ 601024; omega, by show _ ≤ 7293033; omega⟩
  refine GR_aload_n (pc := 2313) hC dL_law_2313 rfl rfl ?_
  refine GR_callVK (pc := 2314) (As := []) (b := (h1, r1)) hC (k_X10_inconsistencies (hf.mono (by decide))) hM1 MYC_X10_inconsistencies MIC_X10_inconsistencies (g_w_mem (List.mem_of_getElem? (i := 698) (by decide +kernel)) (by decide +kernel)) (sh_0 (hf.mono (by decide))) rfl rfl ⟨rfl, rfl⟩ ⟨by decide, by decide⟩ hcs0 rfl rfl (Nat.le_of_ble_eq_true rfl) dL_law_2314 ?_
  change GR P X Qf (ce) (sl) E 2317 [some (.ref b), some (gr P 0), some (gr P 166), some (gr P 177), some (gr P 178), some (.int (nI m)), none, none, none, none] [.int r1] h1 x
  refine GR_aload_n (pc := 2317) hC dL_law_2317 rfl rfl ?_
  refine GR_callVK (pc := 2318) (As := []) (b := (h2, r2)) hC (k_X11_inconsistencies (hf.mono (by decide))) hM2 MYC_X11_inconsistencies MIC_X11_inconsistencies (g_w_mem (List.mem_of_getElem? (i := 1912) (by decide +kernel)) (by decide +kernel)) (sh_166 (hf.mono (by decide))) rfl rfl ⟨rfl, rfl⟩ ⟨by decide, by decide⟩ hcs0 rfl rfl (Nat.le_of_ble_eq_true rfl) dL_law_2318 ?_
  change GR P X Qf (ce) (sl) E 2321 [some (.ref b), some (gr P 0), some (gr P 166), some (gr P 177), some (gr P 178), some (.int (nI m)), none, none, none, none] [.int r2, .int r1] h2 x
  refine GR_icmp_eqT (pc := 2321) (tgt := 3182) hC hR dL_law_2321 (by decide) ?_
  exact GR.wide (GR.less (kk) (g_le_at (And.intro rfl (And.intro rfl (And.intro rfl (And.intro rfl (And.intro rfl (And.intro rfl trivial))))))))
set_option maxRecDepth 20000 in
set_option maxHeartbeats 2000000 in
theorem lc_44 {P : GP} {X : GX} {α : Type} {Qf : α → State → Prop} {E : Option α} {ce sl b n m : Nat} {xs : Nat → Int32} {g : GM} {x : GE} {g1 : GM} {x1 : GE} {k : Int32} {h1 : GM} {r1 : Int32} (hC : GC P X RL cL_law 10 room_1) (hF : g_sh P = g_full) (hf : g_on P 179) (hX : va_X b n xs X.2.2.2.2.1 X.2.2.2.2.1.heap) (hbs : b < X.2.2.2.2.1.heap.size) (hbA : ¬ X.2.2.2.2.2.2.2.2.2.2 b) (hn : n ≤ 3072) (hm : m + 6 ≤ n) (hcs : ce + 1 ≤ 601024 ∧ sl + 6 ≤ 7293033) (hL : (f_X10_request g (xs (m + 1)) (xs (m + 2)) (xs (m + 3))).bind (lw_F x true ltb_012) = some (g1, x1, k)) (hM1 : (f_X11_request g1 (xs (m + 1)) (xs (m + 2)) (xs (m + 3))) = some (h1, r1)) (hT : h1 166 9 = k) (hR : k = 0 → x1.1 0 = (if r1 = 0 then 0 else 1)) (kk : GR P X Qf (ce + 1) (sl + 6) E 3182 [some (.ref b), some (gr P 0), some (gr P 166), some (gr P 177), some (gr P 178), some (.int (nI m)), none, none, none, none] [] h1 x1) : GR P X Qf ce sl E 2326 [some (.ref b), some (gr P 0), some (gr P 166), some (gr P 177), some (gr P 178), some (.int (nI m)), none, none, none, none] [] g x := by
  have hcs0 : ce + 1 ≤ room_1.cells ∧ sl + 6 ≤ room_1.slots := ⟨by show _ ≤ 601024; omega, by show _ ≤ 7293033; omega⟩
  refine GR_aload_n (pc := 2326) hC dL_law_2326 rfl rfl ?_
  refine GR_arg (pc := 2327) (c := 1) hC hX hbs hbA hn (by omega) rfl rfl (by decide) rfl dL_law_2327 dL_law_2328 dL_law_2330 dL_law_2331 dL_law_2332 ?_
  refine GR_arg (pc := 2333) (c := 2) hC hX hbs hbA hn (by omega) rfl rfl (by decide) rfl dL_law_2333 dL_law_2334 dL_law_2336 dL_law_2337 dL_law_2338 ?_
  refine GR_arg (pc := 2339) (c := 3) hC hX hbs hbA hn (by omega) rfl rfl (by decide) rfl dL_law_2339 dL_law_2340 dL_law_2342 dL_law_2343 dL_law_2344 ?_
  refine GR_aload_n (pc := 2345) hC dL_law_2345 rfl rfl ?_
  refine GR_callSL (pc := 2346) (n := 5) (As := [gr P 0, .int (xs (m + 1)), .int (xs (m + 2)), .int (xs (m + 3)), gr P 177]) (b := (g1, x1, k)) hC (kL_request hF hf) hL ⟨g_w_mem (List.mem_of_getElem? (i := 1162) (by decide +kernel)) (by decide +kernel), g_w_mem (List.mem_of_getElem? (i := 92) (by decide +kernel)) (by decide +kernel), g_w_mem (List.mem_of_getElem? (i := 1161) (by decide +kernel)) (by decide +kernel), g_w_mem (List.mem_of_getElem? (i := 1160) (by decide +kernel)) (by decide +kernel)⟩ ⟨by decide, by decide, by decide +kernel⟩ ⟨rfl, rfl⟩ ⟨by decide, by decide⟩ ⟨hcs.1, hcs.2⟩ rfl rfl (Nat.le_of_ble_eq_true rfl) dL_law_2346 ?_
  change GR P X Qf (ce + 1) (sl + 6) E 2349 [some (.ref b), some (gr P 0), some (gr P 166), some (gr P 177), some (gr P 178), some (.int (nI m)), none, none, none, none] [.int k] g1 x1
  refine GR_istore (pc := 2349) (L' := [some (.ref b), some (gr P 0), some (gr P 166), some (gr P 177), some (gr P 178), some (.int (nI m)), some (.int k), none, none, none]) hC dL_law_2349 (by decide) rfl rfl ?_
  refine GR_aload_n (pc := 2351) hC dL_law_2351 rfl rfl ?_
  refine GR_arg (pc := 2352) (c := 1) hC hX hbs hbA hn (by omega) rfl rfl (by decide) rfl dL_law_2352 dL_law_2353 dL_law_2355 dL_law_2356 dL_law_2357 ?_
  refine GR_arg (pc := 2358) (c := 2) hC hX hbs hbA hn (by omega) rfl rfl (by decide) rfl dL_law_2358 dL_law_2359 dL_law_2361 dL_law_2362 dL_law_2363 ?_
  refine GR_arg (pc := 2364) (c := 3) hC hX hbs hbA hn (by omega) rfl rfl (by decide) rfl dL_law_2364 dL_law_2365 dL_law_2367 dL_law_2368 dL_law_2369 ?_
  refine GR_callVK (pc := 2370) (As := [.int (xs (m + 1)), .int (xs (m + 2)), .int (xs (m + 3))]) (b := (h1, r1)) hC (k_X11_request (hf.mono (by decide))) hM1 MYC_X11_request MIC_X11_request (g_w_mem (List.mem_of_getElem? (i := 1920) (by decide +kernel)) (by decide +kernel)) (sh_166 (hf.mono (by decide))) rfl rfl ⟨rfl, rfl⟩ ⟨by decide, by decide⟩ hcs0 rfl rfl (Nat.le_of_ble_eq_true rfl) dL_law_2370 ?_
  change GR P X Qf (ce + 1) (sl + 6) E 2373 [some (.ref b), some (gr P 0), some (gr P 166), some (gr P 177), some (gr P 178), some (.int (nI m)), some (.int k), none, none, none] [.int r1] h1 x1
  refine GR_istore (pc := 2373) (L' := [some (.ref b), some (gr P 0), some (gr P 166), some (gr P 177), some (gr P 178), some (.int (nI m)), some (.int k), some (.int r1), none, none]) hC dL_law_2373 (by decide) rfl rfl ?_
  refine GR_aload_n (pc := 2375) hC dL_law_2375 rfl rfl ?_
  refine GR_callVK (pc := 2376) (As := []) (E0 := ((f_X11_thrown h1).map (fun r => (h1, r)))) (b := (h1, h1 166 9)) hC (k_X11_thrown (hf.mono (by decide))) rfl MYC_X11_thrown MIC_X11_thrown (g_w_mem (List.mem_of_getElem? (i := 1392) (by decide +kernel)) (by decide +kernel)) (sh_166 (hf.mono (by decide))) rfl rfl ⟨rfl, rfl⟩ ⟨by decide, by decide⟩ hcs0 rfl rfl (Nat.le_of_ble_eq_true rfl) dL_law_2376 ?_
  change GR P X Qf (ce + 1) (sl + 6) E 2379 [some (.ref b), some (gr P 0), some (gr P 166), some (gr P 177), some (gr P 178), some (.int (nI m)), some (.int k), some (.int r1), none, none] [.int (h1 166 9)] h1 x1
  refine GR_iload (pc := 2379) hC dL_law_2379 rfl ?_
  refine GR_icmp_eqT (pc := 2381) (tgt := 2386) hC hT dL_law_2381 (by decide) ?_
  refine GR_iload (pc := 2386) hC dL_law_2386 rfl ?_
  by_cases hk : k = 0
  · refine GR_if_neF (pc := 2388) (tgt := 2410) hC hk dL_law_2388 (by decide) ?_
    refine GR_aload_n (pc := 2391) hC dL_law_2391 rfl rfl ?_
    refine GR_iconst (pc := 2392) (v := 0) hC dL_law_2392 rfl ?_
    refine GR_lald (pc := 2393) hC hF rfl dL_law_2393 ?_
    refine GR_iload (pc := 2394) hC dL_law_2394 rfl ?_
    by_cases hr : r1 = 0
    · refine GR_if_eqT (pc := 2396) (tgt := 2403) hC hr dL_law_2396 (by decide) ?_
      refine GR_lconst (pc := 2403) (v := 0) hC dL_law_2403 rfl ?_
      refine GR_lcmp (pc := 2404) hC dL_law_2404 ?_
      refine GR_if_eqT (pc := 2405) (tgt := 2410) hC (by rw [hR hk, if_pos hr]; exact g_lcmp_self _) dL_law_2405 (by decide) ?_
      refine GR_goto (pc := 2410) (tgt := 3182) hC dL_law_2410 (by decide) ?_
      exact GR.less kk (g_le_at (And.intro rfl (And.intro rfl (And.intro rfl (And.intro rfl (And.intro rfl (And.intro rfl trivial)))))))
    · refine GR_if_eqF (pc := 2396) (tgt := 2403) hC hr dL_law_2396 (by decide) ?_
      refine GR_lconst (pc := 2399) (v := 1) hC dL_law_2399 rfl ?_
      refine GR_goto (pc := 2400) (tgt := 2404) hC dL_law_2400 (by decide) ?_
      refine GR_lcmp (pc := 2404) hC dL_law_2404 ?_
      refine GR_if_eqT (pc := 2405) (tgt := 2410) hC (by rw [hR hk, if_neg hr]; exact g_lcmp_self _) dL_law_2405 (by decide) ?_
      refine GR_goto (pc := 2410) (tgt := 3182) hC dL_law_2410 (by decide) ?_
      exact GR.less kk (g_le_at (And.intro rfl (And.intro rfl (And.intro rfl (And.intro rfl (And.intro rfl (And.intro rfl trivial)))))))
  · refine GR_if_neT (pc := 2388) (tgt := 2410) hC hk dL_law_2388 (by decide) ?_
    refine GR_goto (pc := 2410) (tgt := 3182) hC dL_law_2410 (by decide) ?_
    exact GR.less kk (g_le_at (And.intro rfl (And.intro rfl (And.intro rfl (And.intro rfl (And.intro rfl (And.intro rfl trivial)))))))
set_option maxRecDepth 20000 in
set_option maxHeartbeats 2000000 in
theorem lc_45 {P : GP} {X : GX} {α : Type} {Qf : α → State → Prop} {E : Option α} {ce sl b n m : Nat} {xs : Nat → Int32} {g : GM} {x : GE} {g1 : GM} {x1 : GE} {k : Int32} {h1 : GM} {r1 : Int32} (hC : GC P X RL cL_law 10 room_1) (hF : g_sh P = g_full) (hf : g_on P 179) (hX : va_X b n xs X.2.2.2.2.1 X.2.2.2.2.1.heap) (hbs : b < X.2.2.2.2.1.heap.size) (hbA : ¬ X.2.2.2.2.2.2.2.2.2.2 b) (hn : n ≤ 3072) (hm : m + 6 ≤ n) (hcs : ce + 1 ≤ 601024 ∧ sl + 6 ≤ 7293033) (hL : (f_X10_release g (xs (m + 1)) (xs (m + 2)) (xs (m + 3))).bind (lw_F x false ltb_012) = some (g1, x1, k)) (hM1 : (f_X11_release g1 (xs (m + 1)) (xs (m + 2)) (xs (m + 3))) = some (h1, r1)) (hT : h1 166 9 = k) (hR : k = 0 → x1.1 0 = r1.toInt64) (kk : GR P X Qf (ce + 1) (sl + 6) E 3182 [some (.ref b), some (gr P 0), some (gr P 166), some (gr P 177), some (gr P 178), some (.int (nI m)), none, none, none, none] [] h1 x1) : GR P X Qf ce sl E 2413 [some (.ref b), some (gr P 0), some (gr P 166), some (gr P 177), some (gr P 178), some (.int (nI m)), none, none, none, none] [] g x := by
  have hcs0 : ce + 1 ≤ room_1.cells ∧ sl + 6 ≤ room_1.slots := ⟨by show _ ≤ 601024; omega, by show _ ≤ 7293033; omega⟩
  refine GR_aload_n (pc := 2413) hC dL_law_2413 rfl rfl ?_
  refine GR_arg (pc := 2414) (c := 1) hC hX hbs hbA hn (by omega) rfl rfl (by decide) rfl dL_law_2414 dL_law_2415 dL_law_2417 dL_law_2418 dL_law_2419 ?_
  refine GR_arg (pc := 2420) (c := 2) hC hX hbs hbA hn (by omega) rfl rfl (by decide) rfl dL_law_2420 dL_law_2421 dL_law_2423 dL_law_2424 dL_law_2425 ?_
  refine GR_arg (pc := 2426) (c := 3) hC hX hbs hbA hn (by omega) rfl rfl (by decide) rfl dL_law_2426 dL_law_2427 dL_law_2429 dL_law_2430 dL_law_2431 ?_
  refine GR_aload_n (pc := 2432) hC dL_law_2432 rfl rfl ?_
  refine GR_callSL (pc := 2433) (n := 5) (As := [gr P 0, .int (xs (m + 1)), .int (xs (m + 2)), .int (xs (m + 3)), gr P 177]) (b := (g1, x1, k)) hC (kL_release hF hf) hL ⟨g_w_mem (List.mem_of_getElem? (i := 1189) (by decide +kernel)) (by decide +kernel), g_w_mem (List.mem_of_getElem? (i := 92) (by decide +kernel)) (by decide +kernel), g_w_mem (List.mem_of_getElem? (i := 1188) (by decide +kernel)) (by decide +kernel), g_w_mem (List.mem_of_getElem? (i := 1187) (by decide +kernel)) (by decide +kernel)⟩ ⟨by decide, by decide, by decide +kernel⟩ ⟨rfl, rfl⟩ ⟨by decide, by decide⟩ ⟨hcs.1, hcs.2⟩ rfl rfl (Nat.le_of_ble_eq_true rfl) dL_law_2433 ?_
  change GR P X Qf (ce + 1) (sl + 6) E 2436 [some (.ref b), some (gr P 0), some (gr P 166), some (gr P 177), some (gr P 178), some (.int (nI m)), none, none, none, none] [.int k] g1 x1
  refine GR_istore (pc := 2436) (L' := [some (.ref b), some (gr P 0), some (gr P 166), some (gr P 177), some (gr P 178), some (.int (nI m)), some (.int k), none, none, none]) hC dL_law_2436 (by decide) rfl rfl ?_
  refine GR_aload_n (pc := 2438) hC dL_law_2438 rfl rfl ?_
  refine GR_arg (pc := 2439) (c := 1) hC hX hbs hbA hn (by omega) rfl rfl (by decide) rfl dL_law_2439 dL_law_2440 dL_law_2442 dL_law_2443 dL_law_2444 ?_
  refine GR_arg (pc := 2445) (c := 2) hC hX hbs hbA hn (by omega) rfl rfl (by decide) rfl dL_law_2445 dL_law_2446 dL_law_2448 dL_law_2449 dL_law_2450 ?_
  refine GR_arg (pc := 2451) (c := 3) hC hX hbs hbA hn (by omega) rfl rfl (by decide) rfl dL_law_2451 dL_law_2452 dL_law_2454 dL_law_2455 dL_law_2456 ?_
  refine GR_callVK (pc := 2457) (As := [.int (xs (m + 1)), .int (xs (m + 2)), .int (xs (m + 3))]) (b := (h1, r1)) hC (k_X11_release (hf.mono (by decide))) hM1 MYC_X11_release MIC_X11_release (g_w_mem (List.mem_of_getElem? (i := 1924) (by decide +kernel)) (by decide +kernel)) (sh_166 (hf.mono (by decide))) rfl rfl ⟨rfl, rfl⟩ ⟨by decide, by decide⟩ hcs0 rfl rfl (Nat.le_of_ble_eq_true rfl) dL_law_2457 ?_
  change GR P X Qf (ce + 1) (sl + 6) E 2460 [some (.ref b), some (gr P 0), some (gr P 166), some (gr P 177), some (gr P 178), some (.int (nI m)), some (.int k), none, none, none] [.int r1] h1 x1
  refine GR_istore (pc := 2460) (L' := [some (.ref b), some (gr P 0), some (gr P 166), some (gr P 177), some (gr P 178), some (.int (nI m)), some (.int k), some (.int r1), none, none]) hC dL_law_2460 (by decide) rfl rfl ?_
  refine GR_aload_n (pc := 2462) hC dL_law_2462 rfl rfl ?_
  refine GR_callVK (pc := 2463) (As := []) (E0 := ((f_X11_thrown h1).map (fun r => (h1, r)))) (b := (h1, h1 166 9)) hC (k_X11_thrown (hf.mono (by decide))) rfl MYC_X11_thrown MIC_X11_thrown (g_w_mem (List.mem_of_getElem? (i := 1392) (by decide +kernel)) (by decide +kernel)) (sh_166 (hf.mono (by decide))) rfl rfl ⟨rfl, rfl⟩ ⟨by decide, by decide⟩ hcs0 rfl rfl (Nat.le_of_ble_eq_true rfl) dL_law_2463 ?_
  change GR P X Qf (ce + 1) (sl + 6) E 2466 [some (.ref b), some (gr P 0), some (gr P 166), some (gr P 177), some (gr P 178), some (.int (nI m)), some (.int k), some (.int r1), none, none] [.int (h1 166 9)] h1 x1
  refine GR_iload (pc := 2466) hC dL_law_2466 rfl ?_
  refine GR_icmp_eqT (pc := 2468) (tgt := 2473) hC hT dL_law_2468 (by decide) ?_
  refine GR_iload (pc := 2473) hC dL_law_2473 rfl ?_
  by_cases hk : k = 0
  · refine GR_if_neF (pc := 2475) (tgt := 2490) hC hk dL_law_2475 (by decide) ?_
    refine GR_aload_n (pc := 2478) hC dL_law_2478 rfl rfl ?_
    refine GR_iconst (pc := 2479) (v := 0) hC dL_law_2479 rfl ?_
    refine GR_lald (pc := 2480) hC hF rfl dL_law_2480 ?_
    refine GR_iload (pc := 2481) hC dL_law_2481 rfl ?_
    refine GR_i2l (pc := 2483) hC dL_law_2483 ?_
    refine GR_lcmp (pc := 2484) hC dL_law_2484 ?_
    refine GR_if_eqT (pc := 2485) (tgt := 2490) hC (by rw [hR hk]; exact g_lcmp_self _) dL_law_2485 (by decide) ?_
    refine GR_goto (pc := 2490) (tgt := 3182) hC dL_law_2490 (by decide) ?_
    exact GR.less kk (g_le_at (And.intro rfl (And.intro rfl (And.intro rfl (And.intro rfl (And.intro rfl (And.intro rfl trivial)))))))
  · refine GR_if_neT (pc := 2475) (tgt := 2490) hC hk dL_law_2475 (by decide) ?_
    refine GR_goto (pc := 2490) (tgt := 3182) hC dL_law_2490 (by decide) ?_
    exact GR.less kk (g_le_at (And.intro rfl (And.intro rfl (And.intro rfl (And.intro rfl (And.intro rfl (And.intro rfl trivial)))))))
set_option maxRecDepth 20000 in
set_option maxHeartbeats 2000000 in
theorem lc_46 {P : GP} {X : GX} {α : Type} {Qf : α → State → Prop} {E : Option α} {ce sl b n m : Nat} {xs : Nat → Int32} {g : GM} {x : GE} {g1 : GM} {x1 : GE} {k : Int32} {h1 : GM} {r1 : Int32} (hC : GC P X RL cL_law 10 room_1) (hF : g_sh P = g_full) (hf : g_on P 179) (hX : va_X b n xs X.2.2.2.2.1 X.2.2.2.2.1.heap) (hbs : b < X.2.2.2.2.1.heap.size) (hbA : ¬ X.2.2.2.2.2.2.2.2.2.2 b) (hn : n ≤ 3072) (hm : m + 6 ≤ n) (hcs : ce + 1 ≤ 601024 ∧ sl + 6 ≤ 7293033) (hL : (f_X10_finish g (xs (m + 1))).bind (lw_F x false ltb_0) = some (g1, x1, k)) (hM1 : (f_X11_finish g1 (xs (m + 1))) = some (h1, r1)) (hT : h1 166 9 = k) (hR : k = 0 → x1.1 0 = r1.toInt64) (kk : GR P X Qf (ce + 1) (sl + 6) E 3182 [some (.ref b), some (gr P 0), some (gr P 166), some (gr P 177), some (gr P 178), some (.int (nI m)), none, none, none, none] [] h1 x1) : GR P X Qf ce sl E 2493 [some (.ref b), some (gr P 0), some (gr P 166), some (gr P 177), some (gr P 178), some (.int (nI m)), none, none, none, none] [] g x := by
  have hcs0 : ce + 1 ≤ room_1.cells ∧ sl + 6 ≤ room_1.slots := ⟨by show _ ≤ 601024; omega, by show _ ≤ 7293033; omega⟩
  refine GR_aload_n (pc := 2493) hC dL_law_2493 rfl rfl ?_
  refine GR_arg (pc := 2494) (c := 1) hC hX hbs hbA hn (by omega) rfl rfl (by decide) rfl dL_law_2494 dL_law_2495 dL_law_2497 dL_law_2498 dL_law_2499 ?_
  refine GR_aload_n (pc := 2500) hC dL_law_2500 rfl rfl ?_
  refine GR_callSL (pc := 2501) (n := 3) (As := [gr P 0, .int (xs (m + 1)), gr P 177]) (b := (g1, x1, k)) hC (kL_finish hF hf) hL ⟨g_w_mem (List.mem_of_getElem? (i := 1204) (by decide +kernel)) (by decide +kernel), g_w_mem (List.mem_of_getElem? (i := 92) (by decide +kernel)) (by decide +kernel), g_w_mem (List.mem_of_getElem? (i := 1203) (by decide +kernel)) (by decide +kernel), g_w_mem (List.mem_of_getElem? (i := 1202) (by decide +kernel)) (by decide +kernel)⟩ ⟨by decide, by decide, by decide +kernel⟩ ⟨rfl, rfl⟩ ⟨by decide, by decide⟩ ⟨hcs.1, hcs.2⟩ rfl rfl (Nat.le_of_ble_eq_true rfl) dL_law_2501 ?_
  change GR P X Qf (ce + 1) (sl + 6) E 2504 [some (.ref b), some (gr P 0), some (gr P 166), some (gr P 177), some (gr P 178), some (.int (nI m)), none, none, none, none] [.int k] g1 x1
  refine GR_istore (pc := 2504) (L' := [some (.ref b), some (gr P 0), some (gr P 166), some (gr P 177), some (gr P 178), some (.int (nI m)), some (.int k), none, none, none]) hC dL_law_2504 (by decide) rfl rfl ?_
  refine GR_aload_n (pc := 2506) hC dL_law_2506 rfl rfl ?_
  refine GR_arg (pc := 2507) (c := 1) hC hX hbs hbA hn (by omega) rfl rfl (by decide) rfl dL_law_2507 dL_law_2508 dL_law_2510 dL_law_2511 dL_law_2512 ?_
  refine GR_callVK (pc := 2513) (As := [.int (xs (m + 1))]) (b := (h1, r1)) hC (k_X11_finish (hf.mono (by decide))) hM1 MYC_X11_finish MIC_X11_finish (g_w_mem (List.mem_of_getElem? (i := 1928) (by decide +kernel)) (by decide +kernel)) (sh_166 (hf.mono (by decide))) rfl rfl ⟨rfl, rfl⟩ ⟨by decide, by decide⟩ hcs0 rfl rfl (Nat.le_of_ble_eq_true rfl) dL_law_2513 ?_
  change GR P X Qf (ce + 1) (sl + 6) E 2516 [some (.ref b), some (gr P 0), some (gr P 166), some (gr P 177), some (gr P 178), some (.int (nI m)), some (.int k), none, none, none] [.int r1] h1 x1
  refine GR_istore (pc := 2516) (L' := [some (.ref b), some (gr P 0), some (gr P 166), some (gr P 177), some (gr P 178), some (.int (nI m)), some (.int k), some (.int r1), none, none]) hC dL_law_2516 (by decide) rfl rfl ?_
  refine GR_aload_n (pc := 2518) hC dL_law_2518 rfl rfl ?_
  refine GR_callVK (pc := 2519) (As := []) (E0 := ((f_X11_thrown h1).map (fun r => (h1, r)))) (b := (h1, h1 166 9)) hC (k_X11_thrown (hf.mono (by decide))) rfl MYC_X11_thrown MIC_X11_thrown (g_w_mem (List.mem_of_getElem? (i := 1392) (by decide +kernel)) (by decide +kernel)) (sh_166 (hf.mono (by decide))) rfl rfl ⟨rfl, rfl⟩ ⟨by decide, by decide⟩ hcs0 rfl rfl (Nat.le_of_ble_eq_true rfl) dL_law_2519 ?_
  change GR P X Qf (ce + 1) (sl + 6) E 2522 [some (.ref b), some (gr P 0), some (gr P 166), some (gr P 177), some (gr P 178), some (.int (nI m)), some (.int k), some (.int r1), none, none] [.int (h1 166 9)] h1 x1
  refine GR_iload (pc := 2522) hC dL_law_2522 rfl ?_
  refine GR_icmp_eqT (pc := 2524) (tgt := 2529) hC hT dL_law_2524 (by decide) ?_
  refine GR_iload (pc := 2529) hC dL_law_2529 rfl ?_
  by_cases hk : k = 0
  · refine GR_if_neF (pc := 2531) (tgt := 2546) hC hk dL_law_2531 (by decide) ?_
    refine GR_aload_n (pc := 2534) hC dL_law_2534 rfl rfl ?_
    refine GR_iconst (pc := 2535) (v := 0) hC dL_law_2535 rfl ?_
    refine GR_lald (pc := 2536) hC hF rfl dL_law_2536 ?_
    refine GR_iload (pc := 2537) hC dL_law_2537 rfl ?_
    refine GR_i2l (pc := 2539) hC dL_law_2539 ?_
    refine GR_lcmp (pc := 2540) hC dL_law_2540 ?_
    refine GR_if_eqT (pc := 2541) (tgt := 2546) hC (by rw [hR hk]; exact g_lcmp_self _) dL_law_2541 (by decide) ?_
    refine GR_goto (pc := 2546) (tgt := 3182) hC dL_law_2546 (by decide) ?_
    exact GR.less kk (g_le_at (And.intro rfl (And.intro rfl (And.intro rfl (And.intro rfl (And.intro rfl (And.intro rfl trivial)))))))
  · refine GR_if_neT (pc := 2531) (tgt := 2546) hC hk dL_law_2531 (by decide) ?_
    refine GR_goto (pc := 2546) (tgt := 3182) hC dL_law_2546 (by decide) ?_
    exact GR.less kk (g_le_at (And.intro rfl (And.intro rfl (And.intro rfl (And.intro rfl (And.intro rfl (And.intro rfl trivial)))))))
set_option maxRecDepth 20000 in
set_option maxHeartbeats 2000000 in
theorem lc_47 {P : GP} {X : GX} {α : Type} {Qf : α → State → Prop} {E : Option α} {ce sl b n m : Nat} {xs : Nat → Int32} {g : GM} {x : GE} {g1 : GM} {x1 : GE} {k : Int32} {h1 : GM} {r1 : Int32} (hC : GC P X RL cL_law 10 room_1) (hF : g_sh P = g_full) (hf : g_on P 179) (hX : va_X b n xs X.2.2.2.2.1 X.2.2.2.2.1.heap) (hbs : b < X.2.2.2.2.1.heap.size) (hbA : ¬ X.2.2.2.2.2.2.2.2.2.2 b) (hn : n ≤ 3072) (hm : m + 6 ≤ n) (hcs : ce + 1 ≤ 601024 ∧ sl + 6 ≤ 7293033) (hL : (f_X10_cancel g (xs (m + 1))).bind (lw_F x false ltb_02) = some (g1, x1, k)) (hM1 : (f_X11_cancel g1 (xs (m + 1))) = some (h1, r1)) (hT : h1 166 9 = k) (hR : k = 0 → x1.1 0 = r1.toInt64) (kk : GR P X Qf (ce + 1) (sl + 6) E 3182 [some (.ref b), some (gr P 0), some (gr P 166), some (gr P 177), some (gr P 178), some (.int (nI m)), none, none, none, none] [] h1 x1) : GR P X Qf ce sl E 2549 [some (.ref b), some (gr P 0), some (gr P 166), some (gr P 177), some (gr P 178), some (.int (nI m)), none, none, none, none] [] g x := by
  have hcs0 : ce + 1 ≤ room_1.cells ∧ sl + 6 ≤ room_1.slots := ⟨by show _ ≤ 601024; omega, by show _ ≤ 7293033; omega⟩
  refine GR_aload_n (pc := 2549) hC dL_law_2549 rfl rfl ?_
  refine GR_arg (pc := 2550) (c := 1) hC hX hbs hbA hn (by omega) rfl rfl (by decide) rfl dL_law_2550 dL_law_2551 dL_law_2553 dL_law_2554 dL_law_2555 ?_
  refine GR_aload_n (pc := 2556) hC dL_law_2556 rfl rfl ?_
  refine GR_callSL (pc := 2557) (n := 3) (As := [gr P 0, .int (xs (m + 1)), gr P 177]) (b := (g1, x1, k)) hC (kL_cancel hF hf) hL ⟨g_w_mem (List.mem_of_getElem? (i := 1212) (by decide +kernel)) (by decide +kernel), g_w_mem (List.mem_of_getElem? (i := 92) (by decide +kernel)) (by decide +kernel), g_w_mem (List.mem_of_getElem? (i := 1211) (by decide +kernel)) (by decide +kernel), g_w_mem (List.mem_of_getElem? (i := 1210) (by decide +kernel)) (by decide +kernel)⟩ ⟨by decide, by decide, by decide +kernel⟩ ⟨rfl, rfl⟩ ⟨by decide, by decide⟩ ⟨hcs.1, hcs.2⟩ rfl rfl (Nat.le_of_ble_eq_true rfl) dL_law_2557 ?_
  change GR P X Qf (ce + 1) (sl + 6) E 2560 [some (.ref b), some (gr P 0), some (gr P 166), some (gr P 177), some (gr P 178), some (.int (nI m)), none, none, none, none] [.int k] g1 x1
  refine GR_istore (pc := 2560) (L' := [some (.ref b), some (gr P 0), some (gr P 166), some (gr P 177), some (gr P 178), some (.int (nI m)), some (.int k), none, none, none]) hC dL_law_2560 (by decide) rfl rfl ?_
  refine GR_aload_n (pc := 2562) hC dL_law_2562 rfl rfl ?_
  refine GR_arg (pc := 2563) (c := 1) hC hX hbs hbA hn (by omega) rfl rfl (by decide) rfl dL_law_2563 dL_law_2564 dL_law_2566 dL_law_2567 dL_law_2568 ?_
  refine GR_callVK (pc := 2569) (As := [.int (xs (m + 1))]) (b := (h1, r1)) hC (k_X11_cancel (hf.mono (by decide))) hM1 MYC_X11_cancel MIC_X11_cancel (g_w_mem (List.mem_of_getElem? (i := 1932) (by decide +kernel)) (by decide +kernel)) (sh_166 (hf.mono (by decide))) rfl rfl ⟨rfl, rfl⟩ ⟨by decide, by decide⟩ hcs0 rfl rfl (Nat.le_of_ble_eq_true rfl) dL_law_2569 ?_
  change GR P X Qf (ce + 1) (sl + 6) E 2572 [some (.ref b), some (gr P 0), some (gr P 166), some (gr P 177), some (gr P 178), some (.int (nI m)), some (.int k), none, none, none] [.int r1] h1 x1
  refine GR_istore (pc := 2572) (L' := [some (.ref b), some (gr P 0), some (gr P 166), some (gr P 177), some (gr P 178), some (.int (nI m)), some (.int k), some (.int r1), none, none]) hC dL_law_2572 (by decide) rfl rfl ?_
  refine GR_aload_n (pc := 2574) hC dL_law_2574 rfl rfl ?_
  refine GR_callVK (pc := 2575) (As := []) (E0 := ((f_X11_thrown h1).map (fun r => (h1, r)))) (b := (h1, h1 166 9)) hC (k_X11_thrown (hf.mono (by decide))) rfl MYC_X11_thrown MIC_X11_thrown (g_w_mem (List.mem_of_getElem? (i := 1392) (by decide +kernel)) (by decide +kernel)) (sh_166 (hf.mono (by decide))) rfl rfl ⟨rfl, rfl⟩ ⟨by decide, by decide⟩ hcs0 rfl rfl (Nat.le_of_ble_eq_true rfl) dL_law_2575 ?_
  change GR P X Qf (ce + 1) (sl + 6) E 2578 [some (.ref b), some (gr P 0), some (gr P 166), some (gr P 177), some (gr P 178), some (.int (nI m)), some (.int k), some (.int r1), none, none] [.int (h1 166 9)] h1 x1
  refine GR_iload (pc := 2578) hC dL_law_2578 rfl ?_
  refine GR_icmp_eqT (pc := 2580) (tgt := 2585) hC hT dL_law_2580 (by decide) ?_
  refine GR_iload (pc := 2585) hC dL_law_2585 rfl ?_
  by_cases hk : k = 0
  · refine GR_if_neF (pc := 2587) (tgt := 2602) hC hk dL_law_2587 (by decide) ?_
    refine GR_aload_n (pc := 2590) hC dL_law_2590 rfl rfl ?_
    refine GR_iconst (pc := 2591) (v := 0) hC dL_law_2591 rfl ?_
    refine GR_lald (pc := 2592) hC hF rfl dL_law_2592 ?_
    refine GR_iload (pc := 2593) hC dL_law_2593 rfl ?_
    refine GR_i2l (pc := 2595) hC dL_law_2595 ?_
    refine GR_lcmp (pc := 2596) hC dL_law_2596 ?_
    refine GR_if_eqT (pc := 2597) (tgt := 2602) hC (by rw [hR hk]; exact g_lcmp_self _) dL_law_2597 (by decide) ?_
    refine GR_goto (pc := 2602) (tgt := 3182) hC dL_law_2602 (by decide) ?_
    exact GR.less kk (g_le_at (And.intro rfl (And.intro rfl (And.intro rfl (And.intro rfl (And.intro rfl (And.intro rfl trivial)))))))
  · refine GR_if_neT (pc := 2587) (tgt := 2602) hC hk dL_law_2587 (by decide) ?_
    refine GR_goto (pc := 2602) (tgt := 3182) hC dL_law_2602 (by decide) ?_
    exact GR.less kk (g_le_at (And.intro rfl (And.intro rfl (And.intro rfl (And.intro rfl (And.intro rfl (And.intro rfl trivial)))))))
set_option maxRecDepth 20000 in
set_option maxHeartbeats 2000000 in
theorem lc_48 {P : GP} {X : GX} {α : Type} {Qf : α → State → Prop} {E : Option α} {ce sl b n m : Nat} {xs : Nat → Int32} {g : GM} {x : GE} {g1 : GM} {x1 : GE} {k : Int32} {h1 : GM} {r1 : Int32} (hC : GC P X RL cL_law 10 room_1) (hF : g_sh P = g_full) (hf : g_on P 179) (hX : va_X b n xs X.2.2.2.2.1 X.2.2.2.2.1.heap) (hbs : b < X.2.2.2.2.1.heap.size) (hbA : ¬ X.2.2.2.2.2.2.2.2.2.2 b) (hn : n ≤ 3072) (hm : m + 6 ≤ n) (hcs : ce + 1 ≤ 601024 ∧ sl + 6 ≤ 7293033) (hL : (f_X10_setCapacity g (xs (m + 1)) (xs (m + 2))).bind (lw_F x false ltb_012) = some (g1, x1, k)) (hM1 : (f_X11_setCapacity g1 (xs (m + 1)) (xs (m + 2))) = some (h1, r1)) (hT : h1 166 9 = k) (hR : k = 0 → x1.1 0 = r1.toInt64) (kk : GR P X Qf (ce + 1) (sl + 6) E 3182 [some (.ref b), some (gr P 0), some (gr P 166), some (gr P 177), some (gr P 178), some (.int (nI m)), none, none, none, none] [] h1 x1) : GR P X Qf ce sl E 2605 [some (.ref b), some (gr P 0), some (gr P 166), some (gr P 177), some (gr P 178), some (.int (nI m)), none, none, none, none] [] g x := by
  have hcs0 : ce + 1 ≤ room_1.cells ∧ sl + 6 ≤ room_1.slots := ⟨by show _ ≤ 601024; omega, by show _ ≤ 7293033; omega⟩
  refine GR_aload_n (pc := 2605) hC dL_law_2605 rfl rfl ?_
  refine GR_arg (pc := 2606) (c := 1) hC hX hbs hbA hn (by omega) rfl rfl (by decide) rfl dL_law_2606 dL_law_2607 dL_law_2609 dL_law_2610 dL_law_2611 ?_
  refine GR_arg (pc := 2612) (c := 2) hC hX hbs hbA hn (by omega) rfl rfl (by decide) rfl dL_law_2612 dL_law_2613 dL_law_2615 dL_law_2616 dL_law_2617 ?_
  refine GR_aload_n (pc := 2618) hC dL_law_2618 rfl rfl ?_
  refine GR_callSL (pc := 2619) (n := 4) (As := [gr P 0, .int (xs (m + 1)), .int (xs (m + 2)), gr P 177]) (b := (g1, x1, k)) hC (kL_setCapacity hF hf) hL ⟨g_w_mem (List.mem_of_getElem? (i := 1226) (by decide +kernel)) (by decide +kernel), g_w_mem (List.mem_of_getElem? (i := 92) (by decide +kernel)) (by decide +kernel), g_w_mem (List.mem_of_getElem? (i := 1225) (by decide +kernel)) (by decide +kernel), g_w_mem (List.mem_of_getElem? (i := 1224) (by decide +kernel)) (by decide +kernel)⟩ ⟨by decide, by decide, by decide +kernel⟩ ⟨rfl, rfl⟩ ⟨by decide, by decide⟩ ⟨hcs.1, hcs.2⟩ rfl rfl (Nat.le_of_ble_eq_true rfl) dL_law_2619 ?_
  change GR P X Qf (ce + 1) (sl + 6) E 2622 [some (.ref b), some (gr P 0), some (gr P 166), some (gr P 177), some (gr P 178), some (.int (nI m)), none, none, none, none] [.int k] g1 x1
  refine GR_istore (pc := 2622) (L' := [some (.ref b), some (gr P 0), some (gr P 166), some (gr P 177), some (gr P 178), some (.int (nI m)), some (.int k), none, none, none]) hC dL_law_2622 (by decide) rfl rfl ?_
  refine GR_aload_n (pc := 2624) hC dL_law_2624 rfl rfl ?_
  refine GR_arg (pc := 2625) (c := 1) hC hX hbs hbA hn (by omega) rfl rfl (by decide) rfl dL_law_2625 dL_law_2626 dL_law_2628 dL_law_2629 dL_law_2630 ?_
  refine GR_arg (pc := 2631) (c := 2) hC hX hbs hbA hn (by omega) rfl rfl (by decide) rfl dL_law_2631 dL_law_2632 dL_law_2634 dL_law_2635 dL_law_2636 ?_
  refine GR_callVK (pc := 2637) (As := [.int (xs (m + 1)), .int (xs (m + 2))]) (b := (h1, r1)) hC (k_X11_setCapacity (hf.mono (by decide))) hM1 MYC_X11_setCapacity MIC_X11_setCapacity (g_w_mem (List.mem_of_getElem? (i := 1936) (by decide +kernel)) (by decide +kernel)) (sh_166 (hf.mono (by decide))) rfl rfl ⟨rfl, rfl⟩ ⟨by decide, by decide⟩ hcs0 rfl rfl (Nat.le_of_ble_eq_true rfl) dL_law_2637 ?_
  change GR P X Qf (ce + 1) (sl + 6) E 2640 [some (.ref b), some (gr P 0), some (gr P 166), some (gr P 177), some (gr P 178), some (.int (nI m)), some (.int k), none, none, none] [.int r1] h1 x1
  refine GR_istore (pc := 2640) (L' := [some (.ref b), some (gr P 0), some (gr P 166), some (gr P 177), some (gr P 178), some (.int (nI m)), some (.int k), some (.int r1), none, none]) hC dL_law_2640 (by decide) rfl rfl ?_
  refine GR_aload_n (pc := 2642) hC dL_law_2642 rfl rfl ?_
  refine GR_callVK (pc := 2643) (As := []) (E0 := ((f_X11_thrown h1).map (fun r => (h1, r)))) (b := (h1, h1 166 9)) hC (k_X11_thrown (hf.mono (by decide))) rfl MYC_X11_thrown MIC_X11_thrown (g_w_mem (List.mem_of_getElem? (i := 1392) (by decide +kernel)) (by decide +kernel)) (sh_166 (hf.mono (by decide))) rfl rfl ⟨rfl, rfl⟩ ⟨by decide, by decide⟩ hcs0 rfl rfl (Nat.le_of_ble_eq_true rfl) dL_law_2643 ?_
  change GR P X Qf (ce + 1) (sl + 6) E 2646 [some (.ref b), some (gr P 0), some (gr P 166), some (gr P 177), some (gr P 178), some (.int (nI m)), some (.int k), some (.int r1), none, none] [.int (h1 166 9)] h1 x1
  refine GR_iload (pc := 2646) hC dL_law_2646 rfl ?_
  refine GR_icmp_eqT (pc := 2648) (tgt := 2653) hC hT dL_law_2648 (by decide) ?_
  refine GR_iload (pc := 2653) hC dL_law_2653 rfl ?_
  by_cases hk : k = 0
  · refine GR_if_neF (pc := 2655) (tgt := 2670) hC hk dL_law_2655 (by decide) ?_
    refine GR_aload_n (pc := 2658) hC dL_law_2658 rfl rfl ?_
    refine GR_iconst (pc := 2659) (v := 0) hC dL_law_2659 rfl ?_
    refine GR_lald (pc := 2660) hC hF rfl dL_law_2660 ?_
    refine GR_iload (pc := 2661) hC dL_law_2661 rfl ?_
    refine GR_i2l (pc := 2663) hC dL_law_2663 ?_
    refine GR_lcmp (pc := 2664) hC dL_law_2664 ?_
    refine GR_if_eqT (pc := 2665) (tgt := 2670) hC (by rw [hR hk]; exact g_lcmp_self _) dL_law_2665 (by decide) ?_
    refine GR_goto (pc := 2670) (tgt := 3182) hC dL_law_2670 (by decide) ?_
    exact GR.less kk (g_le_at (And.intro rfl (And.intro rfl (And.intro rfl (And.intro rfl (And.intro rfl (And.intro rfl trivial)))))))
  · refine GR_if_neT (pc := 2655) (tgt := 2670) hC hk dL_law_2655 (by decide) ?_
    refine GR_goto (pc := 2670) (tgt := 3182) hC dL_law_2670 (by decide) ?_
    exact GR.less kk (g_le_at (And.intro rfl (And.intro rfl (And.intro rfl (And.intro rfl (And.intro rfl (And.intro rfl trivial)))))))
set_option maxRecDepth 20000 in
set_option maxHeartbeats 2000000 in
theorem lc_49 {P : GP} {X : GX} {α : Type} {Qf : α → State → Prop} {E : Option α} {ce sl b n m : Nat} {xs : Nat → Int32} {g : GM} {x : GE} {g1 : GM} {x1 : GE} {k : Int32} {h1 : GM} {r1 : Int32} (hC : GC P X RL cL_law 10 room_1) (hF : g_sh P = g_full) (hf : g_on P 179) (hX : va_X b n xs X.2.2.2.2.1 X.2.2.2.2.1.heap) (hbs : b < X.2.2.2.2.1.heap.size) (hbA : ¬ X.2.2.2.2.2.2.2.2.2.2 b) (hn : n ≤ 3072) (hm : m + 6 ≤ n) (hcs : ce + 1 ≤ 601024 ∧ sl + 6 ≤ 7293033) (hL : (f_X10_setMaximum g (xs (m + 1)) (xs (m + 2)) (xs (m + 3))).bind (lw_F x false ltb_012) = some (g1, x1, k)) (hM1 : (f_X11_setMaximum g1 (xs (m + 1)) (xs (m + 2)) (xs (m + 3))) = some (h1, r1)) (hT : h1 166 9 = k) (hR : k = 0 → x1.1 0 = r1.toInt64) (kk : GR P X Qf (ce + 1) (sl + 6) E 3182 [some (.ref b), some (gr P 0), some (gr P 166), some (gr P 177), some (gr P 178), some (.int (nI m)), none, none, none, none] [] h1 x1) : GR P X Qf ce sl E 2673 [some (.ref b), some (gr P 0), some (gr P 166), some (gr P 177), some (gr P 178), some (.int (nI m)), none, none, none, none] [] g x := by
  have hcs0 : ce + 1 ≤ room_1.cells ∧ sl + 6 ≤ room_1.slots := ⟨by show _ ≤ 601024; omega, by show _ ≤ 7293033; omega⟩
  refine GR_aload_n (pc := 2673) hC dL_law_2673 rfl rfl ?_
  refine GR_arg (pc := 2674) (c := 1) hC hX hbs hbA hn (by omega) rfl rfl (by decide) rfl dL_law_2674 dL_law_2675 dL_law_2677 dL_law_2678 dL_law_2679 ?_
  refine GR_arg (pc := 2680) (c := 2) hC hX hbs hbA hn (by omega) rfl rfl (by decide) rfl dL_law_2680 dL_law_2681 dL_law_2683 dL_law_2684 dL_law_2685 ?_
  refine GR_arg (pc := 2686) (c := 3) hC hX hbs hbA hn (by omega) rfl rfl (by decide) rfl dL_law_2686 dL_law_2687 dL_law_2689 dL_law_2690 dL_law_2691 ?_
  refine GR_aload_n (pc := 2692) hC dL_law_2692 rfl rfl ?_
  refine GR_callSL (pc := 2693) (n := 5) (As := [gr P 0, .int (xs (m + 1)), .int (xs (m + 2)), .int (xs (m + 3)), gr P 177]) (b := (g1, x1, k)) hC (kL_setMaximum hF hf) hL ⟨g_w_mem (List.mem_of_getElem? (i := 1241) (by decide +kernel)) (by decide +kernel), g_w_mem (List.mem_of_getElem? (i := 92) (by decide +kernel)) (by decide +kernel), g_w_mem (List.mem_of_getElem? (i := 1240) (by decide +kernel)) (by decide +kernel), g_w_mem (List.mem_of_getElem? (i := 1239) (by decide +kernel)) (by decide +kernel)⟩ ⟨by decide, by decide, by decide +kernel⟩ ⟨rfl, rfl⟩ ⟨by decide, by decide⟩ ⟨hcs.1, hcs.2⟩ rfl rfl (Nat.le_of_ble_eq_true rfl) dL_law_2693 ?_
  change GR P X Qf (ce + 1) (sl + 6) E 2696 [some (.ref b), some (gr P 0), some (gr P 166), some (gr P 177), some (gr P 178), some (.int (nI m)), none, none, none, none] [.int k] g1 x1
  refine GR_istore (pc := 2696) (L' := [some (.ref b), some (gr P 0), some (gr P 166), some (gr P 177), some (gr P 178), some (.int (nI m)), some (.int k), none, none, none]) hC dL_law_2696 (by decide) rfl rfl ?_
  refine GR_aload_n (pc := 2698) hC dL_law_2698 rfl rfl ?_
  refine GR_arg (pc := 2699) (c := 1) hC hX hbs hbA hn (by omega) rfl rfl (by decide) rfl dL_law_2699 dL_law_2700 dL_law_2702 dL_law_2703 dL_law_2704 ?_
  refine GR_arg (pc := 2705) (c := 2) hC hX hbs hbA hn (by omega) rfl rfl (by decide) rfl dL_law_2705 dL_law_2706 dL_law_2708 dL_law_2709 dL_law_2710 ?_
  refine GR_arg (pc := 2711) (c := 3) hC hX hbs hbA hn (by omega) rfl rfl (by decide) rfl dL_law_2711 dL_law_2712 dL_law_2714 dL_law_2715 dL_law_2716 ?_
  refine GR_callVK (pc := 2717) (As := [.int (xs (m + 1)), .int (xs (m + 2)), .int (xs (m + 3))]) (b := (h1, r1)) hC (k_X11_setMaximum (hf.mono (by decide))) hM1 MYC_X11_setMaximum MIC_X11_setMaximum (g_w_mem (List.mem_of_getElem? (i := 1940) (by decide +kernel)) (by decide +kernel)) (sh_166 (hf.mono (by decide))) rfl rfl ⟨rfl, rfl⟩ ⟨by decide, by decide⟩ hcs0 rfl rfl (Nat.le_of_ble_eq_true rfl) dL_law_2717 ?_
  change GR P X Qf (ce + 1) (sl + 6) E 2720 [some (.ref b), some (gr P 0), some (gr P 166), some (gr P 177), some (gr P 178), some (.int (nI m)), some (.int k), none, none, none] [.int r1] h1 x1
  refine GR_istore (pc := 2720) (L' := [some (.ref b), some (gr P 0), some (gr P 166), some (gr P 177), some (gr P 178), some (.int (nI m)), some (.int k), some (.int r1), none, none]) hC dL_law_2720 (by decide) rfl rfl ?_
  refine GR_aload_n (pc := 2722) hC dL_law_2722 rfl rfl ?_
  refine GR_callVK (pc := 2723) (As := []) (E0 := ((f_X11_thrown h1).map (fun r => (h1, r)))) (b := (h1, h1 166 9)) hC (k_X11_thrown (hf.mono (by decide))) rfl MYC_X11_thrown MIC_X11_thrown (g_w_mem (List.mem_of_getElem? (i := 1392) (by decide +kernel)) (by decide +kernel)) (sh_166 (hf.mono (by decide))) rfl rfl ⟨rfl, rfl⟩ ⟨by decide, by decide⟩ hcs0 rfl rfl (Nat.le_of_ble_eq_true rfl) dL_law_2723 ?_
  change GR P X Qf (ce + 1) (sl + 6) E 2726 [some (.ref b), some (gr P 0), some (gr P 166), some (gr P 177), some (gr P 178), some (.int (nI m)), some (.int k), some (.int r1), none, none] [.int (h1 166 9)] h1 x1
  refine GR_iload (pc := 2726) hC dL_law_2726 rfl ?_
  refine GR_icmp_eqT (pc := 2728) (tgt := 2733) hC hT dL_law_2728 (by decide) ?_
  refine GR_iload (pc := 2733) hC dL_law_2733 rfl ?_
  by_cases hk : k = 0
  · refine GR_if_neF (pc := 2735) (tgt := 2750) hC hk dL_law_2735 (by decide) ?_
    refine GR_aload_n (pc := 2738) hC dL_law_2738 rfl rfl ?_
    refine GR_iconst (pc := 2739) (v := 0) hC dL_law_2739 rfl ?_
    refine GR_lald (pc := 2740) hC hF rfl dL_law_2740 ?_
    refine GR_iload (pc := 2741) hC dL_law_2741 rfl ?_
    refine GR_i2l (pc := 2743) hC dL_law_2743 ?_
    refine GR_lcmp (pc := 2744) hC dL_law_2744 ?_
    refine GR_if_eqT (pc := 2745) (tgt := 2750) hC (by rw [hR hk]; exact g_lcmp_self _) dL_law_2745 (by decide) ?_
    refine GR_goto (pc := 2750) (tgt := 3182) hC dL_law_2750 (by decide) ?_
    exact GR.less kk (g_le_at (And.intro rfl (And.intro rfl (And.intro rfl (And.intro rfl (And.intro rfl (And.intro rfl trivial)))))))
  · refine GR_if_neT (pc := 2735) (tgt := 2750) hC hk dL_law_2735 (by decide) ?_
    refine GR_goto (pc := 2750) (tgt := 3182) hC dL_law_2750 (by decide) ?_
    exact GR.less kk (g_le_at (And.intro rfl (And.intro rfl (And.intro rfl (And.intro rfl (And.intro rfl (And.intro rfl trivial)))))))
set_option maxRecDepth 20000 in
set_option maxHeartbeats 2000000 in
theorem lc_50 {P : GP} {X : GX} {α : Type} {Qf : α → State → Prop} {E : Option α} {ce sl b n m : Nat} {xs : Nat → Int32} {g : GM} {x : GE} {g1 : GM} {x1 : GE} {k : Int32} {h1 : GM} {r1 : Int32} (hC : GC P X RL cL_law 10 room_1) (hF : g_sh P = g_full) (hf : g_on P 179) (hX : va_X b n xs X.2.2.2.2.1 X.2.2.2.2.1.heap) (hbs : b < X.2.2.2.2.1.heap.size) (hbA : ¬ X.2.2.2.2.2.2.2.2.2.2 b) (hn : n ≤ 3072) (hm : m + 6 ≤ n) (hcs : ce + 1 ≤ 601024 ∧ sl + 6 ≤ 7293033) (hL : (f_X10_lend g (xs (m + 1)) (xs (m + 2)) (xs (m + 3))).bind (lw_F x false ltb_012) = some (g1, x1, k)) (hM1 : (f_X11_lend g1 (xs (m + 1)) (xs (m + 2)) (xs (m + 3))) = some (h1, r1)) (hT : h1 166 9 = k) (hR : k = 0 → x1.1 0 = r1.toInt64) (kk : GR P X Qf (ce + 1) (sl + 6) E 3182 [some (.ref b), some (gr P 0), some (gr P 166), some (gr P 177), some (gr P 178), some (.int (nI m)), none, none, none, none] [] h1 x1) : GR P X Qf ce sl E 2753 [some (.ref b), some (gr P 0), some (gr P 166), some (gr P 177), some (gr P 178), some (.int (nI m)), none, none, none, none] [] g x := by
  have hcs0 : ce + 1 ≤ room_1.cells ∧ sl + 6 ≤ room_1.slots := ⟨by show _ ≤ 601024; omega, by show _ ≤ 7293033; omega⟩
  refine GR_aload_n (pc := 2753) hC dL_law_2753 rfl rfl ?_
  refine GR_arg (pc := 2754) (c := 1) hC hX hbs hbA hn (by omega) rfl rfl (by decide) rfl dL_law_2754 dL_law_2755 dL_law_2757 dL_law_2758 dL_law_2759 ?_
  refine GR_arg (pc := 2760) (c := 2) hC hX hbs hbA hn (by omega) rfl rfl (by decide) rfl dL_law_2760 dL_law_2761 dL_law_2763 dL_law_2764 dL_law_2765 ?_
  refine GR_arg (pc := 2766) (c := 3) hC hX hbs hbA hn (by omega) rfl rfl (by decide) rfl dL_law_2766 dL_law_2767 dL_law_2769 dL_law_2770 dL_law_2771 ?_
  refine GR_aload_n (pc := 2772) hC dL_law_2772 rfl rfl ?_
  refine GR_callSL (pc := 2773) (n := 5) (As := [gr P 0, .int (xs (m + 1)), .int (xs (m + 2)), .int (xs (m + 3)), gr P 177]) (b := (g1, x1, k)) hC (kL_lend hF hf) hL ⟨g_w_mem (List.mem_of_getElem? (i := 1259) (by decide +kernel)) (by decide +kernel), g_w_mem (List.mem_of_getElem? (i := 92) (by decide +kernel)) (by decide +kernel), g_w_mem (List.mem_of_getElem? (i := 1258) (by decide +kernel)) (by decide +kernel), g_w_mem (List.mem_of_getElem? (i := 1257) (by decide +kernel)) (by decide +kernel)⟩ ⟨by decide, by decide, by decide +kernel⟩ ⟨rfl, rfl⟩ ⟨by decide, by decide⟩ ⟨hcs.1, hcs.2⟩ rfl rfl (Nat.le_of_ble_eq_true rfl) dL_law_2773 ?_
  change GR P X Qf (ce + 1) (sl + 6) E 2776 [some (.ref b), some (gr P 0), some (gr P 166), some (gr P 177), some (gr P 178), some (.int (nI m)), none, none, none, none] [.int k] g1 x1
  refine GR_istore (pc := 2776) (L' := [some (.ref b), some (gr P 0), some (gr P 166), some (gr P 177), some (gr P 178), some (.int (nI m)), some (.int k), none, none, none]) hC dL_law_2776 (by decide) rfl rfl ?_
  refine GR_aload_n (pc := 2778) hC dL_law_2778 rfl rfl ?_
  refine GR_arg (pc := 2779) (c := 1) hC hX hbs hbA hn (by omega) rfl rfl (by decide) rfl dL_law_2779 dL_law_2780 dL_law_2782 dL_law_2783 dL_law_2784 ?_
  refine GR_arg (pc := 2785) (c := 2) hC hX hbs hbA hn (by omega) rfl rfl (by decide) rfl dL_law_2785 dL_law_2786 dL_law_2788 dL_law_2789 dL_law_2790 ?_
  refine GR_arg (pc := 2791) (c := 3) hC hX hbs hbA hn (by omega) rfl rfl (by decide) rfl dL_law_2791 dL_law_2792 dL_law_2794 dL_law_2795 dL_law_2796 ?_
  refine GR_callVK (pc := 2797) (As := [.int (xs (m + 1)), .int (xs (m + 2)), .int (xs (m + 3))]) (b := (h1, r1)) hC (k_X11_lend (hf.mono (by decide))) hM1 MYC_X11_lend MIC_X11_lend (g_w_mem (List.mem_of_getElem? (i := 1948) (by decide +kernel)) (by decide +kernel)) (sh_166 (hf.mono (by decide))) rfl rfl ⟨rfl, rfl⟩ ⟨by decide, by decide⟩ hcs0 rfl rfl (Nat.le_of_ble_eq_true rfl) dL_law_2797 ?_
  change GR P X Qf (ce + 1) (sl + 6) E 2800 [some (.ref b), some (gr P 0), some (gr P 166), some (gr P 177), some (gr P 178), some (.int (nI m)), some (.int k), none, none, none] [.int r1] h1 x1
  refine GR_istore (pc := 2800) (L' := [some (.ref b), some (gr P 0), some (gr P 166), some (gr P 177), some (gr P 178), some (.int (nI m)), some (.int k), some (.int r1), none, none]) hC dL_law_2800 (by decide) rfl rfl ?_
  refine GR_aload_n (pc := 2802) hC dL_law_2802 rfl rfl ?_
  refine GR_callVK (pc := 2803) (As := []) (E0 := ((f_X11_thrown h1).map (fun r => (h1, r)))) (b := (h1, h1 166 9)) hC (k_X11_thrown (hf.mono (by decide))) rfl MYC_X11_thrown MIC_X11_thrown (g_w_mem (List.mem_of_getElem? (i := 1392) (by decide +kernel)) (by decide +kernel)) (sh_166 (hf.mono (by decide))) rfl rfl ⟨rfl, rfl⟩ ⟨by decide, by decide⟩ hcs0 rfl rfl (Nat.le_of_ble_eq_true rfl) dL_law_2803 ?_
  change GR P X Qf (ce + 1) (sl + 6) E 2806 [some (.ref b), some (gr P 0), some (gr P 166), some (gr P 177), some (gr P 178), some (.int (nI m)), some (.int k), some (.int r1), none, none] [.int (h1 166 9)] h1 x1
  refine GR_iload (pc := 2806) hC dL_law_2806 rfl ?_
  refine GR_icmp_eqT (pc := 2808) (tgt := 2813) hC hT dL_law_2808 (by decide) ?_
  refine GR_iload (pc := 2813) hC dL_law_2813 rfl ?_
  by_cases hk : k = 0
  · refine GR_if_neF (pc := 2815) (tgt := 2830) hC hk dL_law_2815 (by decide) ?_
    refine GR_aload_n (pc := 2818) hC dL_law_2818 rfl rfl ?_
    refine GR_iconst (pc := 2819) (v := 0) hC dL_law_2819 rfl ?_
    refine GR_lald (pc := 2820) hC hF rfl dL_law_2820 ?_
    refine GR_iload (pc := 2821) hC dL_law_2821 rfl ?_
    refine GR_i2l (pc := 2823) hC dL_law_2823 ?_
    refine GR_lcmp (pc := 2824) hC dL_law_2824 ?_
    refine GR_if_eqT (pc := 2825) (tgt := 2830) hC (by rw [hR hk]; exact g_lcmp_self _) dL_law_2825 (by decide) ?_
    refine GR_goto (pc := 2830) (tgt := 3182) hC dL_law_2830 (by decide) ?_
    exact GR.less kk (g_le_at (And.intro rfl (And.intro rfl (And.intro rfl (And.intro rfl (And.intro rfl (And.intro rfl trivial)))))))
  · refine GR_if_neT (pc := 2815) (tgt := 2830) hC hk dL_law_2815 (by decide) ?_
    refine GR_goto (pc := 2830) (tgt := 3182) hC dL_law_2830 (by decide) ?_
    exact GR.less kk (g_le_at (And.intro rfl (And.intro rfl (And.intro rfl (And.intro rfl (And.intro rfl (And.intro rfl trivial)))))))
set_option maxRecDepth 20000 in
set_option maxHeartbeats 2000000 in
theorem lc_51 {P : GP} {X : GX} {α : Type} {Qf : α → State → Prop} {E : Option α} {ce sl b n m : Nat} {xs : Nat → Int32} {g : GM} {x : GE} {g1 : GM} {x1 : GE} {k : Int32} {h1 : GM} {r1 : Int32} (hC : GC P X RL cL_law 10 room_1) (hF : g_sh P = g_full) (hf : g_on P 179) (hX : va_X b n xs X.2.2.2.2.1 X.2.2.2.2.1.heap) (hbs : b < X.2.2.2.2.1.heap.size) (hbA : ¬ X.2.2.2.2.2.2.2.2.2.2 b) (hn : n ≤ 3072) (hm : m + 6 ≤ n) (hcs : ce + 1 ≤ 601024 ∧ sl + 6 ≤ 7293033) (hL : (f_X10_repay g (xs (m + 1)) (xs (m + 2)) (xs (m + 3))).bind (lw_F x false ltb_012) = some (g1, x1, k)) (hM1 : (f_X11_repay g1 (xs (m + 1)) (xs (m + 2)) (xs (m + 3))) = some (h1, r1)) (hT : h1 166 9 = k) (hR : k = 0 → x1.1 0 = r1.toInt64) (kk : GR P X Qf (ce + 1) (sl + 6) E 3182 [some (.ref b), some (gr P 0), some (gr P 166), some (gr P 177), some (gr P 178), some (.int (nI m)), none, none, none, none] [] h1 x1) : GR P X Qf ce sl E 2833 [some (.ref b), some (gr P 0), some (gr P 166), some (gr P 177), some (gr P 178), some (.int (nI m)), none, none, none, none] [] g x := by
  have hcs0 : ce + 1 ≤ room_1.cells ∧ sl + 6 ≤ room_1.slots := ⟨by show _ ≤ 601024; omega, by show _ ≤ 7293033; omega⟩
  refine GR_aload_n (pc := 2833) hC dL_law_2833 rfl rfl ?_
  refine GR_arg (pc := 2834) (c := 1) hC hX hbs hbA hn (by omega) rfl rfl (by decide) rfl dL_law_2834 dL_law_2835 dL_law_2837 dL_law_2838 dL_law_2839 ?_
  refine GR_arg (pc := 2840) (c := 2) hC hX hbs hbA hn (by omega) rfl rfl (by decide) rfl dL_law_2840 dL_law_2841 dL_law_2843 dL_law_2844 dL_law_2845 ?_
  refine GR_arg (pc := 2846) (c := 3) hC hX hbs hbA hn (by omega) rfl rfl (by decide) rfl dL_law_2846 dL_law_2847 dL_law_2849 dL_law_2850 dL_law_2851 ?_
  refine GR_aload_n (pc := 2852) hC dL_law_2852 rfl rfl ?_
  refine GR_callSL (pc := 2853) (n := 5) (As := [gr P 0, .int (xs (m + 1)), .int (xs (m + 2)), .int (xs (m + 3)), gr P 177]) (b := (g1, x1, k)) hC (kL_repay hF hf) hL ⟨g_w_mem (List.mem_of_getElem? (i := 1278) (by decide +kernel)) (by decide +kernel), g_w_mem (List.mem_of_getElem? (i := 92) (by decide +kernel)) (by decide +kernel), g_w_mem (List.mem_of_getElem? (i := 1277) (by decide +kernel)) (by decide +kernel), g_w_mem (List.mem_of_getElem? (i := 1276) (by decide +kernel)) (by decide +kernel)⟩ ⟨by decide, by decide, by decide +kernel⟩ ⟨rfl, rfl⟩ ⟨by decide, by decide⟩ ⟨hcs.1, hcs.2⟩ rfl rfl (Nat.le_of_ble_eq_true rfl) dL_law_2853 ?_
  change GR P X Qf (ce + 1) (sl + 6) E 2856 [some (.ref b), some (gr P 0), some (gr P 166), some (gr P 177), some (gr P 178), some (.int (nI m)), none, none, none, none] [.int k] g1 x1
  refine GR_istore (pc := 2856) (L' := [some (.ref b), some (gr P 0), some (gr P 166), some (gr P 177), some (gr P 178), some (.int (nI m)), some (.int k), none, none, none]) hC dL_law_2856 (by decide) rfl rfl ?_
  refine GR_aload_n (pc := 2858) hC dL_law_2858 rfl rfl ?_
  refine GR_arg (pc := 2859) (c := 1) hC hX hbs hbA hn (by omega) rfl rfl (by decide) rfl dL_law_2859 dL_law_2860 dL_law_2862 dL_law_2863 dL_law_2864 ?_
  refine GR_arg (pc := 2865) (c := 2) hC hX hbs hbA hn (by omega) rfl rfl (by decide) rfl dL_law_2865 dL_law_2866 dL_law_2868 dL_law_2869 dL_law_2870 ?_
  refine GR_arg (pc := 2871) (c := 3) hC hX hbs hbA hn (by omega) rfl rfl (by decide) rfl dL_law_2871 dL_law_2872 dL_law_2874 dL_law_2875 dL_law_2876 ?_
  refine GR_callVK (pc := 2877) (As := [.int (xs (m + 1)), .int (xs (m + 2)), .int (xs (m + 3))]) (b := (h1, r1)) hC (k_X11_repay (hf.mono (by decide))) hM1 MYC_X11_repay MIC_X11_repay (g_w_mem (List.mem_of_getElem? (i := 1952) (by decide +kernel)) (by decide +kernel)) (sh_166 (hf.mono (by decide))) rfl rfl ⟨rfl, rfl⟩ ⟨by decide, by decide⟩ hcs0 rfl rfl (Nat.le_of_ble_eq_true rfl) dL_law_2877 ?_
  change GR P X Qf (ce + 1) (sl + 6) E 2880 [some (.ref b), some (gr P 0), some (gr P 166), some (gr P 177), some (gr P 178), some (.int (nI m)), some (.int k), none, none, none] [.int r1] h1 x1
  refine GR_istore (pc := 2880) (L' := [some (.ref b), some (gr P 0), some (gr P 166), some (gr P 177), some (gr P 178), some (.int (nI m)), some (.int k), some (.int r1), none, none]) hC dL_law_2880 (by decide) rfl rfl ?_
  refine GR_aload_n (pc := 2882) hC dL_law_2882 rfl rfl ?_
  refine GR_callVK (pc := 2883) (As := []) (E0 := ((f_X11_thrown h1).map (fun r => (h1, r)))) (b := (h1, h1 166 9)) hC (k_X11_thrown (hf.mono (by decide))) rfl MYC_X11_thrown MIC_X11_thrown (g_w_mem (List.mem_of_getElem? (i := 1392) (by decide +kernel)) (by decide +kernel)) (sh_166 (hf.mono (by decide))) rfl rfl ⟨rfl, rfl⟩ ⟨by decide, by decide⟩ hcs0 rfl rfl (Nat.le_of_ble_eq_true rfl) dL_law_2883 ?_
  change GR P X Qf (ce + 1) (sl + 6) E 2886 [some (.ref b), some (gr P 0), some (gr P 166), some (gr P 177), some (gr P 178), some (.int (nI m)), some (.int k), some (.int r1), none, none] [.int (h1 166 9)] h1 x1
  refine GR_iload (pc := 2886) hC dL_law_2886 rfl ?_
  refine GR_icmp_eqT (pc := 2888) (tgt := 2893) hC hT dL_law_2888 (by decide) ?_
  refine GR_iload (pc := 2893) hC dL_law_2893 rfl ?_
  by_cases hk : k = 0
  · refine GR_if_neF (pc := 2895) (tgt := 2910) hC hk dL_law_2895 (by decide) ?_
    refine GR_aload_n (pc := 2898) hC dL_law_2898 rfl rfl ?_
    refine GR_iconst (pc := 2899) (v := 0) hC dL_law_2899 rfl ?_
    refine GR_lald (pc := 2900) hC hF rfl dL_law_2900 ?_
    refine GR_iload (pc := 2901) hC dL_law_2901 rfl ?_
    refine GR_i2l (pc := 2903) hC dL_law_2903 ?_
    refine GR_lcmp (pc := 2904) hC dL_law_2904 ?_
    refine GR_if_eqT (pc := 2905) (tgt := 2910) hC (by rw [hR hk]; exact g_lcmp_self _) dL_law_2905 (by decide) ?_
    refine GR_goto (pc := 2910) (tgt := 3182) hC dL_law_2910 (by decide) ?_
    exact GR.less kk (g_le_at (And.intro rfl (And.intro rfl (And.intro rfl (And.intro rfl (And.intro rfl (And.intro rfl trivial)))))))
  · refine GR_if_neT (pc := 2895) (tgt := 2910) hC hk dL_law_2895 (by decide) ?_
    refine GR_goto (pc := 2910) (tgt := 3182) hC dL_law_2910 (by decide) ?_
    exact GR.less kk (g_le_at (And.intro rfl (And.intro rfl (And.intro rfl (And.intro rfl (And.intro rfl (And.intro rfl trivial)))))))
set_option maxRecDepth 20000 in
set_option maxHeartbeats 2000000 in
theorem lc_52 {P : GP} {X : GX} {α : Type} {Qf : α → State → Prop} {E : Option α} {ce sl b n m : Nat} {xs : Nat → Int32} {g : GM} {x : GE} {g1 : GM} {x1 : GE} {k : Int32} {h1 : GM} {r1 : Int32} (hC : GC P X RL cL_law 10 room_1) (hF : g_sh P = g_full) (hf : g_on P 179) (hX : va_X b n xs X.2.2.2.2.1 X.2.2.2.2.1.heap) (hbs : b < X.2.2.2.2.1.heap.size) (hbA : ¬ X.2.2.2.2.2.2.2.2.2.2 b) (hn : n ≤ 3072) (hm : m + 6 ≤ n) (hcs : ce + 1 ≤ 601024 ∧ sl + 6 ≤ 7293033) (hL : (f_X10_runScript g).bind (lw_F x false ltb_1) = some (g1, x1, k)) (hM1 : (f_X11_runScript g1) = some (h1, r1)) (hT : h1 166 9 = k) (hR : k = 0 → x1.1 0 = r1.toInt64) (kk : GR P X Qf (ce + 1) (sl + 6) E 3182 [some (.ref b), some (gr P 0), some (gr P 166), some (gr P 177), some (gr P 178), some (.int (nI m)), none, none, none, none] [] h1 x1) : GR P X Qf ce sl E 2913 [some (.ref b), some (gr P 0), some (gr P 166), some (gr P 177), some (gr P 178), some (.int (nI m)), none, none, none, none] [] g x := by
  have hcs0 : ce + 1 ≤ room_1.cells ∧ sl + 6 ≤ room_1.slots := ⟨by show _ ≤ 601024; omega, by show _ ≤ 7293033; omega⟩
  refine GR_aload_n (pc := 2913) hC dL_law_2913 rfl rfl ?_
  refine GR_aload_n (pc := 2914) hC dL_law_2914 rfl rfl ?_
  refine GR_callSL (pc := 2915) (n := 2) (As := [gr P 0, gr P 177]) (b := (g1, x1, k)) hC (kL_runScript hF hf) hL ⟨g_w_mem (List.mem_of_getElem? (i := 1288) (by decide +kernel)) (by decide +kernel), g_w_mem (List.mem_of_getElem? (i := 92) (by decide +kernel)) (by decide +kernel), g_w_mem (List.mem_of_getElem? (i := 1287) (by decide +kernel)) (by decide +kernel), g_w_mem (List.mem_of_getElem? (i := 1286) (by decide +kernel)) (by decide +kernel)⟩ ⟨by decide, by decide, by decide +kernel⟩ ⟨rfl, rfl⟩ ⟨by decide, by decide⟩ ⟨hcs.1, hcs.2⟩ rfl rfl (Nat.le_of_ble_eq_true rfl) dL_law_2915 ?_
  change GR P X Qf (ce + 1) (sl + 6) E 2918 [some (.ref b), some (gr P 0), some (gr P 166), some (gr P 177), some (gr P 178), some (.int (nI m)), none, none, none, none] [.int k] g1 x1
  refine GR_istore (pc := 2918) (L' := [some (.ref b), some (gr P 0), some (gr P 166), some (gr P 177), some (gr P 178), some (.int (nI m)), some (.int k), none, none, none]) hC dL_law_2918 (by decide) rfl rfl ?_
  refine GR_aload_n (pc := 2920) hC dL_law_2920 rfl rfl ?_
  refine GR_callVK (pc := 2921) (As := []) (b := (h1, r1)) hC (k_X11_runScript (hf.mono (by decide))) hM1 MYC_X11_runScript MIC_X11_runScript (g_w_mem (List.mem_of_getElem? (i := 1562) (by decide +kernel)) (by decide +kernel)) (sh_166 (hf.mono (by decide))) rfl rfl ⟨rfl, rfl⟩ ⟨by decide, by decide⟩ hcs0 rfl rfl (Nat.le_of_ble_eq_true rfl) dL_law_2921 ?_
  change GR P X Qf (ce + 1) (sl + 6) E 2924 [some (.ref b), some (gr P 0), some (gr P 166), some (gr P 177), some (gr P 178), some (.int (nI m)), some (.int k), none, none, none] [.int r1] h1 x1
  refine GR_istore (pc := 2924) (L' := [some (.ref b), some (gr P 0), some (gr P 166), some (gr P 177), some (gr P 178), some (.int (nI m)), some (.int k), some (.int r1), none, none]) hC dL_law_2924 (by decide) rfl rfl ?_
  refine GR_aload_n (pc := 2926) hC dL_law_2926 rfl rfl ?_
  refine GR_callVK (pc := 2927) (As := []) (E0 := ((f_X11_thrown h1).map (fun r => (h1, r)))) (b := (h1, h1 166 9)) hC (k_X11_thrown (hf.mono (by decide))) rfl MYC_X11_thrown MIC_X11_thrown (g_w_mem (List.mem_of_getElem? (i := 1392) (by decide +kernel)) (by decide +kernel)) (sh_166 (hf.mono (by decide))) rfl rfl ⟨rfl, rfl⟩ ⟨by decide, by decide⟩ hcs0 rfl rfl (Nat.le_of_ble_eq_true rfl) dL_law_2927 ?_
  change GR P X Qf (ce + 1) (sl + 6) E 2930 [some (.ref b), some (gr P 0), some (gr P 166), some (gr P 177), some (gr P 178), some (.int (nI m)), some (.int k), some (.int r1), none, none] [.int (h1 166 9)] h1 x1
  refine GR_iload (pc := 2930) hC dL_law_2930 rfl ?_
  refine GR_icmp_eqT (pc := 2932) (tgt := 2937) hC hT dL_law_2932 (by decide) ?_
  refine GR_iload (pc := 2937) hC dL_law_2937 rfl ?_
  by_cases hk : k = 0
  · refine GR_if_neF (pc := 2939) (tgt := 2954) hC hk dL_law_2939 (by decide) ?_
    refine GR_aload_n (pc := 2942) hC dL_law_2942 rfl rfl ?_
    refine GR_iconst (pc := 2943) (v := 0) hC dL_law_2943 rfl ?_
    refine GR_lald (pc := 2944) hC hF rfl dL_law_2944 ?_
    refine GR_iload (pc := 2945) hC dL_law_2945 rfl ?_
    refine GR_i2l (pc := 2947) hC dL_law_2947 ?_
    refine GR_lcmp (pc := 2948) hC dL_law_2948 ?_
    refine GR_if_eqT (pc := 2949) (tgt := 2954) hC (by rw [hR hk]; exact g_lcmp_self _) dL_law_2949 (by decide) ?_
    refine GR_goto (pc := 2954) (tgt := 3182) hC dL_law_2954 (by decide) ?_
    exact GR.less kk (g_le_at (And.intro rfl (And.intro rfl (And.intro rfl (And.intro rfl (And.intro rfl (And.intro rfl trivial)))))))
  · refine GR_if_neT (pc := 2939) (tgt := 2954) hC hk dL_law_2939 (by decide) ?_
    refine GR_goto (pc := 2954) (tgt := 3182) hC dL_law_2954 (by decide) ?_
    exact GR.less kk (g_le_at (And.intro rfl (And.intro rfl (And.intro rfl (And.intro rfl (And.intro rfl (And.intro rfl trivial)))))))
set_option maxRecDepth 20000 in
set_option maxHeartbeats 2000000 in
theorem lc_53 {P : GP} {X : GX} {α : Type} {Qf : α → State → Prop} {E : Option α} {ce sl b n m : Nat} {xs : Nat → Int32} {g : GM} {x : GE} {g1 : GM} {x1 : GE} {k : Int32} {h1 : GM} {r1 : Int32} (hC : GC P X RL cL_law 10 room_1) (hF : g_sh P = g_full) (hf : g_on P 179) (hX : va_X b n xs X.2.2.2.2.1 X.2.2.2.2.1.heap) (hbs : b < X.2.2.2.2.1.heap.size) (hbA : ¬ X.2.2.2.2.2.2.2.2.2.2 b) (hn : n ≤ 3072) (hm : m + 6 ≤ n) (hcs : ce + 1 ≤ 601024 ∧ sl + 6 ≤ 7293033) (hL : (f_X10_undo g).bind (lw_F x false ltb_2) = some (g1, x1, k)) (hM1 : (f_X11_undo g1) = some (h1, r1)) (hT : h1 166 9 = k) (hR : k = 0 → x1.1 0 = r1.toInt64) (kk : GR P X Qf (ce + 1) (sl + 6) E 3182 [some (.ref b), some (gr P 0), some (gr P 166), some (gr P 177), some (gr P 178), some (.int (nI m)), none, none, none, none] [] h1 x1) : GR P X Qf ce sl E 2957 [some (.ref b), some (gr P 0), some (gr P 166), some (gr P 177), some (gr P 178), some (.int (nI m)), none, none, none, none] [] g x := by
  have hcs0 : ce + 1 ≤ room_1.cells ∧ sl + 6 ≤ room_1.slots := ⟨by show _ ≤ 601024; omega, by show _ ≤ 7293033; omega⟩
  refine GR_aload_n (pc := 2957) hC dL_law_2957 rfl rfl ?_
  refine GR_aload_n (pc := 2958) hC dL_law_2958 rfl rfl ?_
  refine GR_callSL (pc := 2959) (n := 2) (As := [gr P 0, gr P 177]) (b := (g1, x1, k)) hC (kL_undo hF hf) hL ⟨g_w_mem (List.mem_of_getElem? (i := 1356) (by decide +kernel)) (by decide +kernel), g_w_mem (List.mem_of_getElem? (i := 92) (by decide +kernel)) (by decide +kernel), g_w_mem (List.mem_of_getElem? (i := 1355) (by decide +kernel)) (by decide +kernel), g_w_mem (List.mem_of_getElem? (i := 1354) (by decide +kernel)) (by decide +kernel)⟩ ⟨by decide, by decide, by decide +kernel⟩ ⟨rfl, rfl⟩ ⟨by decide, by decide⟩ ⟨hcs.1, hcs.2⟩ rfl rfl (Nat.le_of_ble_eq_true rfl) dL_law_2959 ?_
  change GR P X Qf (ce + 1) (sl + 6) E 2962 [some (.ref b), some (gr P 0), some (gr P 166), some (gr P 177), some (gr P 178), some (.int (nI m)), none, none, none, none] [.int k] g1 x1
  refine GR_istore (pc := 2962) (L' := [some (.ref b), some (gr P 0), some (gr P 166), some (gr P 177), some (gr P 178), some (.int (nI m)), some (.int k), none, none, none]) hC dL_law_2962 (by decide) rfl rfl ?_
  refine GR_aload_n (pc := 2964) hC dL_law_2964 rfl rfl ?_
  refine GR_callVK (pc := 2965) (As := []) (b := (h1, r1)) hC (k_X11_undo (hf.mono (by decide))) hM1 MYC_X11_undo MIC_X11_undo (g_w_mem (List.mem_of_getElem? (i := 1956) (by decide +kernel)) (by decide +kernel)) (sh_166 (hf.mono (by decide))) rfl rfl ⟨rfl, rfl⟩ ⟨by decide, by decide⟩ hcs0 rfl rfl (Nat.le_of_ble_eq_true rfl) dL_law_2965 ?_
  change GR P X Qf (ce + 1) (sl + 6) E 2968 [some (.ref b), some (gr P 0), some (gr P 166), some (gr P 177), some (gr P 178), some (.int (nI m)), some (.int k), none, none, none] [.int r1] h1 x1
  refine GR_istore (pc := 2968) (L' := [some (.ref b), some (gr P 0), some (gr P 166), some (gr P 177), some (gr P 178), some (.int (nI m)), some (.int k), some (.int r1), none, none]) hC dL_law_2968 (by decide) rfl rfl ?_
  refine GR_aload_n (pc := 2970) hC dL_law_2970 rfl rfl ?_
  refine GR_callVK (pc := 2971) (As := []) (E0 := ((f_X11_thrown h1).map (fun r => (h1, r)))) (b := (h1, h1 166 9)) hC (k_X11_thrown (hf.mono (by decide))) rfl MYC_X11_thrown MIC_X11_thrown (g_w_mem (List.mem_of_getElem? (i := 1392) (by decide +kernel)) (by decide +kernel)) (sh_166 (hf.mono (by decide))) rfl rfl ⟨rfl, rfl⟩ ⟨by decide, by decide⟩ hcs0 rfl rfl (Nat.le_of_ble_eq_true rfl) dL_law_2971 ?_
  change GR P X Qf (ce + 1) (sl + 6) E 2974 [some (.ref b), some (gr P 0), some (gr P 166), some (gr P 177), some (gr P 178), some (.int (nI m)), some (.int k), some (.int r1), none, none] [.int (h1 166 9)] h1 x1
  refine GR_iload (pc := 2974) hC dL_law_2974 rfl ?_
  refine GR_icmp_eqT (pc := 2976) (tgt := 2981) hC hT dL_law_2976 (by decide) ?_
  refine GR_iload (pc := 2981) hC dL_law_2981 rfl ?_
  by_cases hk : k = 0
  · refine GR_if_neF (pc := 2983) (tgt := 2998) hC hk dL_law_2983 (by decide) ?_
    refine GR_aload_n (pc := 2986) hC dL_law_2986 rfl rfl ?_
    refine GR_iconst (pc := 2987) (v := 0) hC dL_law_2987 rfl ?_
    refine GR_lald (pc := 2988) hC hF rfl dL_law_2988 ?_
    refine GR_iload (pc := 2989) hC dL_law_2989 rfl ?_
    refine GR_i2l (pc := 2991) hC dL_law_2991 ?_
    refine GR_lcmp (pc := 2992) hC dL_law_2992 ?_
    refine GR_if_eqT (pc := 2993) (tgt := 2998) hC (by rw [hR hk]; exact g_lcmp_self _) dL_law_2993 (by decide) ?_
    refine GR_goto (pc := 2998) (tgt := 3182) hC dL_law_2998 (by decide) ?_
    exact GR.less kk (g_le_at (And.intro rfl (And.intro rfl (And.intro rfl (And.intro rfl (And.intro rfl (And.intro rfl trivial)))))))
  · refine GR_if_neT (pc := 2983) (tgt := 2998) hC hk dL_law_2983 (by decide) ?_
    refine GR_goto (pc := 2998) (tgt := 3182) hC dL_law_2998 (by decide) ?_
    exact GR.less kk (g_le_at (And.intro rfl (And.intro rfl (And.intro rfl (And.intro rfl (And.intro rfl (And.intro rfl trivial)))))))
set_option maxRecDepth 20000 in
set_option maxHeartbeats 2000000 in
theorem lc_54 {P : GP} {X : GX} {α : Type} {Qf : α → State → Prop} {E : Option α} {ce sl b n m : Nat} {xs : Nat → Int32} {g : GM} {x : GE} {g1 : GM} {x1 : GE} {k : Int32} {h1 : GM} {r1 : Int32} (hC : GC P X RL cL_law 10 room_1) (hF : g_sh P = g_full) (hf : g_on P 179) (hX : va_X b n xs X.2.2.2.2.1 X.2.2.2.2.1.heap) (hbs : b < X.2.2.2.2.1.heap.size) (hbA : ¬ X.2.2.2.2.2.2.2.2.2.2 b) (hn : n ≤ 3072) (hm : m + 6 ≤ n) (hcs : ce + 1 ≤ 601024 ∧ sl + 6 ≤ 7293033) (hL : (f_X10_save g (xs (m + 1))).bind (lw_F x false ltb_0) = some (g1, x1, k)) (hM1 : (f_X11_save g1 (xs (m + 1))) = some (h1, r1)) (hT : h1 166 9 = k) (hR : k = 0 → x1.1 0 = r1.toInt64) (kk : GR P X Qf (ce + 1) (sl + 6) E 3182 [some (.ref b), some (gr P 0), some (gr P 166), some (gr P 177), some (gr P 178), some (.int (nI m)), none, none, none, none] [] h1 x1) : GR P X Qf ce sl E 3001 [some (.ref b), some (gr P 0), some (gr P 166), some (gr P 177), some (gr P 178), some (.int (nI m)), none, none, none, none] [] g x := by
  have hcs0 : ce + 1 ≤ room_1.cells ∧ sl + 6 ≤ room_1.slots := ⟨by show _ ≤ 601024; omega, by show _ ≤ 7293033; omega⟩
  refine GR_aload_n (pc := 3001) hC dL_law_3001 rfl rfl ?_
  refine GR_arg (pc := 3002) (c := 1) hC hX hbs hbA hn (by omega) rfl rfl (by decide) rfl dL_law_3002 dL_law_3003 dL_law_3005 dL_law_3006 dL_law_3007 ?_
  refine GR_aload_n (pc := 3008) hC dL_law_3008 rfl rfl ?_
  refine GR_callSL (pc := 3009) (n := 3) (As := [gr P 0, .int (xs (m + 1)), gr P 177]) (b := (g1, x1, k)) hC (kL_save hF hf) hL ⟨g_w_mem (List.mem_of_getElem? (i := 1368) (by decide +kernel)) (by decide +kernel), g_w_mem (List.mem_of_getElem? (i := 92) (by decide +kernel)) (by decide +kernel), g_w_mem (List.mem_of_getElem? (i := 1367) (by decide +kernel)) (by decide +kernel), g_w_mem (List.mem_of_getElem? (i := 1366) (by decide +kernel)) (by decide +kernel)⟩ ⟨by decide, by decide, by decide +kernel⟩ ⟨rfl, rfl⟩ ⟨by decide, by decide⟩ ⟨hcs.1, hcs.2⟩ rfl rfl (Nat.le_of_ble_eq_true rfl) dL_law_3009 ?_
  change GR P X Qf (ce + 1) (sl + 6) E 3012 [some (.ref b), some (gr P 0), some (gr P 166), some (gr P 177), some (gr P 178), some (.int (nI m)), none, none, none, none] [.int k] g1 x1
  refine GR_istore (pc := 3012) (L' := [some (.ref b), some (gr P 0), some (gr P 166), some (gr P 177), some (gr P 178), some (.int (nI m)), some (.int k), none, none, none]) hC dL_law_3012 (by decide) rfl rfl ?_
  refine GR_aload_n (pc := 3014) hC dL_law_3014 rfl rfl ?_
  refine GR_arg (pc := 3015) (c := 1) hC hX hbs hbA hn (by omega) rfl rfl (by decide) rfl dL_law_3015 dL_law_3016 dL_law_3018 dL_law_3019 dL_law_3020 ?_
  refine GR_callVK (pc := 3021) (As := [.int (xs (m + 1))]) (b := (h1, r1)) hC (k_X11_save (hf.mono (by decide))) hM1 MYC_X11_save MIC_X11_save (g_w_mem (List.mem_of_getElem? (i := 1960) (by decide +kernel)) (by decide +kernel)) (sh_166 (hf.mono (by decide))) rfl rfl ⟨rfl, rfl⟩ ⟨by decide, by decide⟩ hcs0 rfl rfl (Nat.le_of_ble_eq_true rfl) dL_law_3021 ?_
  change GR P X Qf (ce + 1) (sl + 6) E 3024 [some (.ref b), some (gr P 0), some (gr P 166), some (gr P 177), some (gr P 178), some (.int (nI m)), some (.int k), none, none, none] [.int r1] h1 x1
  refine GR_istore (pc := 3024) (L' := [some (.ref b), some (gr P 0), some (gr P 166), some (gr P 177), some (gr P 178), some (.int (nI m)), some (.int k), some (.int r1), none, none]) hC dL_law_3024 (by decide) rfl rfl ?_
  refine GR_aload_n (pc := 3026) hC dL_law_3026 rfl rfl ?_
  refine GR_callVK (pc := 3027) (As := []) (E0 := ((f_X11_thrown h1).map (fun r => (h1, r)))) (b := (h1, h1 166 9)) hC (k_X11_thrown (hf.mono (by decide))) rfl MYC_X11_thrown MIC_X11_thrown (g_w_mem (List.mem_of_getElem? (i := 1392) (by decide +kernel)) (by decide +kernel)) (sh_166 (hf.mono (by decide))) rfl rfl ⟨rfl, rfl⟩ ⟨by decide, by decide⟩ hcs0 rfl rfl (Nat.le_of_ble_eq_true rfl) dL_law_3027 ?_
  change GR P X Qf (ce + 1) (sl + 6) E 3030 [some (.ref b), some (gr P 0), some (gr P 166), some (gr P 177), some (gr P 178), some (.int (nI m)), some (.int k), some (.int r1), none, none] [.int (h1 166 9)] h1 x1
  refine GR_iload (pc := 3030) hC dL_law_3030 rfl ?_
  refine GR_icmp_eqT (pc := 3032) (tgt := 3037) hC hT dL_law_3032 (by decide) ?_
  refine GR_iload (pc := 3037) hC dL_law_3037 rfl ?_
  by_cases hk : k = 0
  · refine GR_if_neF (pc := 3039) (tgt := 3054) hC hk dL_law_3039 (by decide) ?_
    refine GR_aload_n (pc := 3042) hC dL_law_3042 rfl rfl ?_
    refine GR_iconst (pc := 3043) (v := 0) hC dL_law_3043 rfl ?_
    refine GR_lald (pc := 3044) hC hF rfl dL_law_3044 ?_
    refine GR_iload (pc := 3045) hC dL_law_3045 rfl ?_
    refine GR_i2l (pc := 3047) hC dL_law_3047 ?_
    refine GR_lcmp (pc := 3048) hC dL_law_3048 ?_
    refine GR_if_eqT (pc := 3049) (tgt := 3054) hC (by rw [hR hk]; exact g_lcmp_self _) dL_law_3049 (by decide) ?_
    refine GR_goto (pc := 3054) (tgt := 3182) hC dL_law_3054 (by decide) ?_
    exact GR.less kk (g_le_at (And.intro rfl (And.intro rfl (And.intro rfl (And.intro rfl (And.intro rfl (And.intro rfl trivial)))))))
  · refine GR_if_neT (pc := 3039) (tgt := 3054) hC hk dL_law_3039 (by decide) ?_
    refine GR_goto (pc := 3054) (tgt := 3182) hC dL_law_3054 (by decide) ?_
    exact GR.less kk (g_le_at (And.intro rfl (And.intro rfl (And.intro rfl (And.intro rfl (And.intro rfl (And.intro rfl trivial)))))))
set_option maxRecDepth 20000 in
set_option maxHeartbeats 2000000 in
theorem lc_55 {P : GP} {X : GX} {α : Type} {Qf : α → State → Prop} {E : Option α} {ce sl b n m : Nat} {xs : Nat → Int32} {g : GM} {x : GE} {g1 : GM} {x1 : GE} {k : Int32} {h1 : GM} {r1 : Int32} (hC : GC P X RL cL_law 10 room_1) (hF : g_sh P = g_full) (hf : g_on P 179) (hX : va_X b n xs X.2.2.2.2.1 X.2.2.2.2.1.heap) (hbs : b < X.2.2.2.2.1.heap.size) (hbA : ¬ X.2.2.2.2.2.2.2.2.2.2 b) (hn : n ≤ 3072) (hm : m + 6 ≤ n) (hcs : ce + 1 ≤ 601024 ∧ sl + 6 ≤ 7293033) (hL : (f_X10_restore g (xs (m + 1))).bind (lw_F x false ltb_02) = some (g1, x1, k)) (hM1 : (f_X11_restore g1 (xs (m + 1))) = some (h1, r1)) (hT : h1 166 9 = k) (hR : k = 0 → x1.1 0 = r1.toInt64) (kk : GR P X Qf (ce + 1) (sl + 6) E 3182 [some (.ref b), some (gr P 0), some (gr P 166), some (gr P 177), some (gr P 178), some (.int (nI m)), none, none, none, none] [] h1 x1) : GR P X Qf ce sl E 3057 [some (.ref b), some (gr P 0), some (gr P 166), some (gr P 177), some (gr P 178), some (.int (nI m)), none, none, none, none] [] g x := by
  have hcs0 : ce + 1 ≤ room_1.cells ∧ sl + 6 ≤ room_1.slots := ⟨by show _ ≤ 601024; omega, by show _ ≤ 7293033; omega⟩
  refine GR_aload_n (pc := 3057) hC dL_law_3057 rfl rfl ?_
  refine GR_arg (pc := 3058) (c := 1) hC hX hbs hbA hn (by omega) rfl rfl (by decide) rfl dL_law_3058 dL_law_3059 dL_law_3061 dL_law_3062 dL_law_3063 ?_
  refine GR_aload_n (pc := 3064) hC dL_law_3064 rfl rfl ?_
  refine GR_callSL (pc := 3065) (n := 3) (As := [gr P 0, .int (xs (m + 1)), gr P 177]) (b := (g1, x1, k)) hC (kL_restore hF hf) hL ⟨g_w_mem (List.mem_of_getElem? (i := 1378) (by decide +kernel)) (by decide +kernel), g_w_mem (List.mem_of_getElem? (i := 92) (by decide +kernel)) (by decide +kernel), g_w_mem (List.mem_of_getElem? (i := 1377) (by decide +kernel)) (by decide +kernel), g_w_mem (List.mem_of_getElem? (i := 1376) (by decide +kernel)) (by decide +kernel)⟩ ⟨by decide, by decide, by decide +kernel⟩ ⟨rfl, rfl⟩ ⟨by decide, by decide⟩ ⟨hcs.1, hcs.2⟩ rfl rfl (Nat.le_of_ble_eq_true rfl) dL_law_3065 ?_
  change GR P X Qf (ce + 1) (sl + 6) E 3068 [some (.ref b), some (gr P 0), some (gr P 166), some (gr P 177), some (gr P 178), some (.int (nI m)), none, none, none, none] [.int k] g1 x1
  refine GR_istore (pc := 3068) (L' := [some (.ref b), some (gr P 0), some (gr P 166), some (gr P 177), some (gr P 178), some (.int (nI m)), some (.int k), none, none, none]) hC dL_law_3068 (by decide) rfl rfl ?_
  refine GR_aload_n (pc := 3070) hC dL_law_3070 rfl rfl ?_
  refine GR_arg (pc := 3071) (c := 1) hC hX hbs hbA hn (by omega) rfl rfl (by decide) rfl dL_law_3071 dL_law_3072 dL_law_3074 dL_law_3075 dL_law_3076 ?_
  refine GR_callVK (pc := 3077) (As := [.int (xs (m + 1))]) (b := (h1, r1)) hC (k_X11_restore (hf.mono (by decide))) hM1 MYC_X11_restore MIC_X11_restore (g_w_mem (List.mem_of_getElem? (i := 1964) (by decide +kernel)) (by decide +kernel)) (sh_166 (hf.mono (by decide))) rfl rfl ⟨rfl, rfl⟩ ⟨by decide, by decide⟩ hcs0 rfl rfl (Nat.le_of_ble_eq_true rfl) dL_law_3077 ?_
  change GR P X Qf (ce + 1) (sl + 6) E 3080 [some (.ref b), some (gr P 0), some (gr P 166), some (gr P 177), some (gr P 178), some (.int (nI m)), some (.int k), none, none, none] [.int r1] h1 x1
  refine GR_istore (pc := 3080) (L' := [some (.ref b), some (gr P 0), some (gr P 166), some (gr P 177), some (gr P 178), some (.int (nI m)), some (.int k), some (.int r1), none, none]) hC dL_law_3080 (by decide) rfl rfl ?_
  refine GR_aload_n (pc := 3082) hC dL_law_3082 rfl rfl ?_
  refine GR_callVK (pc := 3083) (As := []) (E0 := ((f_X11_thrown h1).map (fun r => (h1, r)))) (b := (h1, h1 166 9)) hC (k_X11_thrown (hf.mono (by decide))) rfl MYC_X11_thrown MIC_X11_thrown (g_w_mem (List.mem_of_getElem? (i := 1392) (by decide +kernel)) (by decide +kernel)) (sh_166 (hf.mono (by decide))) rfl rfl ⟨rfl, rfl⟩ ⟨by decide, by decide⟩ hcs0 rfl rfl (Nat.le_of_ble_eq_true rfl) dL_law_3083 ?_
  change GR P X Qf (ce + 1) (sl + 6) E 3086 [some (.ref b), some (gr P 0), some (gr P 166), some (gr P 177), some (gr P 178), some (.int (nI m)), some (.int k), some (.int r1), none, none] [.int (h1 166 9)] h1 x1
  refine GR_iload (pc := 3086) hC dL_law_3086 rfl ?_
  refine GR_icmp_eqT (pc := 3088) (tgt := 3093) hC hT dL_law_3088 (by decide) ?_
  refine GR_iload (pc := 3093) hC dL_law_3093 rfl ?_
  by_cases hk : k = 0
  · refine GR_if_neF (pc := 3095) (tgt := 3110) hC hk dL_law_3095 (by decide) ?_
    refine GR_aload_n (pc := 3098) hC dL_law_3098 rfl rfl ?_
    refine GR_iconst (pc := 3099) (v := 0) hC dL_law_3099 rfl ?_
    refine GR_lald (pc := 3100) hC hF rfl dL_law_3100 ?_
    refine GR_iload (pc := 3101) hC dL_law_3101 rfl ?_
    refine GR_i2l (pc := 3103) hC dL_law_3103 ?_
    refine GR_lcmp (pc := 3104) hC dL_law_3104 ?_
    refine GR_if_eqT (pc := 3105) (tgt := 3110) hC (by rw [hR hk]; exact g_lcmp_self _) dL_law_3105 (by decide) ?_
    refine GR_goto (pc := 3110) (tgt := 3182) hC dL_law_3110 (by decide) ?_
    exact GR.less kk (g_le_at (And.intro rfl (And.intro rfl (And.intro rfl (And.intro rfl (And.intro rfl (And.intro rfl trivial)))))))
  · refine GR_if_neT (pc := 3095) (tgt := 3110) hC hk dL_law_3095 (by decide) ?_
    refine GR_goto (pc := 3110) (tgt := 3182) hC dL_law_3110 (by decide) ?_
    exact GR.less kk (g_le_at (And.intro rfl (And.intro rfl (And.intro rfl (And.intro rfl (And.intro rfl (And.intro rfl trivial)))))))
set_option maxRecDepth 20000 in
set_option maxHeartbeats 2000000 in
theorem lc_56 {P : GP} {X : GX} {α : Type} {Qf : α → State → Prop} {E : Option α} {ce sl b n m : Nat} {xs : Nat → Int32} {g : GM} {x : GE}  {h1 : GM} {r1 : Int32} {h2 : GM} {r2 : Int32} (hC : GC P X RL cL_law 10 room_1) (hF : g_sh P = g_full) (hf : g_on P 179) (hX : va_X b n xs X.2.2.2.2.1 X.2.2.2.2.1.heap) (hbs : b < X.2.2.2.2.1.heap.size) (hbA : ¬ X.2.2.2.2.2.2.2.2.2.2 b) (hn : n ≤ 3072) (hm : m + 6 ≤ n) (hcs : ce + 1 ≤ 601024 ∧ sl + 6 ≤ 7293033) (hM1 : (f_X10_writeAllocations g) = some (h1, r1)) (hM2 : (f_X11_writeAllocations h1) = some (h2, r2)) (hR : r1 = r2) (kk : GR P X Qf (ce + 1) (sl + 6) E 3182 [some (.ref b), some (gr P 0), some (gr P 166), some (gr P 177), some (gr P 178), some (.int (nI m)), none, none, none, none] [] h2 x) : GR P X Qf ce sl E 3113 [some (.ref b), some (gr P 0), some (gr P 166), some (gr P 177), some (gr P 178), some (.int (nI m)), none, none, none, none] [] g x := by
  have hcs0 : ce ≤ room_1.cells ∧ sl ≤ room_1.slots := ⟨by show _ ≤ 601024; omega, by show _ ≤ 7293033; omega⟩
  refine GR_aload_n (pc := 3113) hC dL_law_3113 rfl rfl ?_
  refine GR_callVK (pc := 3114) (As := []) (b := (h1, r1)) hC (k_X10_writeAllocations (hf.mono (by decide))) hM1 MYC_X10_writeAllocations MIC_X10_writeAllocations (g_w_mem (List.mem_of_getElem? (i := 722) (by decide +kernel)) (by decide +kernel)) (sh_0 (hf.mono (by decide))) rfl rfl ⟨rfl, rfl⟩ ⟨by decide, by decide⟩ hcs0 rfl rfl (Nat.le_of_ble_eq_true rfl) dL_law_3114 ?_
  change GR P X Qf (ce) (sl) E 3117 [some (.ref b), some (gr P 0), some (gr P 166), some (gr P 177), some (gr P 178), some (.int (nI m)), none, none, none, none] [.int r1] h1 x
  refine GR_aload_n (pc := 3117) hC dL_law_3117 rfl rfl ?_
  refine GR_callVK (pc := 3118) (As := []) (b := (h2, r2)) hC (k_X11_writeAllocations (hf.mono (by decide))) hM2 MYC_X11_writeAllocations MIC_X11_writeAllocations (g_w_mem (List.mem_of_getElem? (i := 1968) (by decide +kernel)) (by decide +kernel)) (sh_166 (hf.mono (by decide))) rfl rfl ⟨rfl, rfl⟩ ⟨by decide, by decide⟩ hcs0 rfl rfl (Nat.le_of_ble_eq_true rfl) dL_law_3118 ?_
  change GR P X Qf (ce) (sl) E 3121 [some (.ref b), some (gr P 0), some (gr P 166), some (gr P 177), some (gr P 178), some (.int (nI m)), none, none, none, none] [.int r2, .int r1] h2 x
  refine GR_icmp_eqT (pc := 3121) (tgt := 3182) hC hR dL_law_3121 (by decide) ?_
  exact GR.wide (GR.less (kk) (g_le_at (And.intro rfl (And.intro rfl (And.intro rfl (And.intro rfl (And.intro rfl (And.intro rfl trivial))))))))
set_option maxRecDepth 20000 in
set_option maxHeartbeats 2000000 in
theorem lc_57 {P : GP} {X : GX} {α : Type} {Qf : α → State → Prop} {E : Option α} {ce sl b n m : Nat} {xs : Nat → Int32} {g : GM} {x : GE} {g1 : GM} {x1 : GE} {k : Int32} {h1 : GM} {r1 : Int32} (hC : GC P X RL cL_law 10 room_1) (hF : g_sh P = g_full) (hf : g_on P 179) (hX : va_X b n xs X.2.2.2.2.1 X.2.2.2.2.1.heap) (hbs : b < X.2.2.2.2.1.heap.size) (hbA : ¬ X.2.2.2.2.2.2.2.2.2.2 b) (hn : n ≤ 3072) (hm : m + 6 ≤ n) (hcs : ce + 1 ≤ 601024 ∧ sl + 6 ≤ 7293033) (hL : (f_X10_outputByte g (xs (m + 1))).bind (lw_F x false ltb_0) = some (g1, x1, k)) (hM1 : (f_X11_outputByte g1 (xs (m + 1))) = some (h1, r1)) (hT : h1 166 9 = k) (hR : k = 0 → x1.1 0 = r1.toInt64) (kk : GR P X Qf (ce + 1) (sl + 6) E 3182 [some (.ref b), some (gr P 0), some (gr P 166), some (gr P 177), some (gr P 178), some (.int (nI m)), none, none, none, none] [] h1 x1) : GR P X Qf ce sl E 3126 [some (.ref b), some (gr P 0), some (gr P 166), some (gr P 177), some (gr P 178), some (.int (nI m)), none, none, none, none] [] g x := by
  have hcs0 : ce + 1 ≤ room_1.cells ∧ sl + 6 ≤ room_1.slots := ⟨by show _ ≤ 601024; omega, by show _ ≤ 7293033; omega⟩
  refine GR_aload_n (pc := 3126) hC dL_law_3126 rfl rfl ?_
  refine GR_arg (pc := 3127) (c := 1) hC hX hbs hbA hn (by omega) rfl rfl (by decide) rfl dL_law_3127 dL_law_3128 dL_law_3130 dL_law_3131 dL_law_3132 ?_
  refine GR_aload_n (pc := 3133) hC dL_law_3133 rfl rfl ?_
  refine GR_callSL (pc := 3134) (n := 3) (As := [gr P 0, .int (xs (m + 1)), gr P 177]) (b := (g1, x1, k)) hC (kL_outputByte hF hf) hL ⟨g_w_mem (List.mem_of_getElem? (i := 1386) (by decide +kernel)) (by decide +kernel), g_w_mem (List.mem_of_getElem? (i := 92) (by decide +kernel)) (by decide +kernel), g_w_mem (List.mem_of_getElem? (i := 1385) (by decide +kernel)) (by decide +kernel), g_w_mem (List.mem_of_getElem? (i := 1384) (by decide +kernel)) (by decide +kernel)⟩ ⟨by decide, by decide, by decide +kernel⟩ ⟨rfl, rfl⟩ ⟨by decide, by decide⟩ ⟨hcs.1, hcs.2⟩ rfl rfl (Nat.le_of_ble_eq_true rfl) dL_law_3134 ?_
  change GR P X Qf (ce + 1) (sl + 6) E 3137 [some (.ref b), some (gr P 0), some (gr P 166), some (gr P 177), some (gr P 178), some (.int (nI m)), none, none, none, none] [.int k] g1 x1
  refine GR_istore (pc := 3137) (L' := [some (.ref b), some (gr P 0), some (gr P 166), some (gr P 177), some (gr P 178), some (.int (nI m)), some (.int k), none, none, none]) hC dL_law_3137 (by decide) rfl rfl ?_
  refine GR_aload_n (pc := 3139) hC dL_law_3139 rfl rfl ?_
  refine GR_arg (pc := 3140) (c := 1) hC hX hbs hbA hn (by omega) rfl rfl (by decide) rfl dL_law_3140 dL_law_3141 dL_law_3143 dL_law_3144 dL_law_3145 ?_
  refine GR_callVK (pc := 3146) (As := [.int (xs (m + 1))]) (b := (h1, r1)) hC (k_X11_outputByte (hf.mono (by decide))) hM1 MYC_X11_outputByte MIC_X11_outputByte (g_w_mem (List.mem_of_getElem? (i := 1976) (by decide +kernel)) (by decide +kernel)) (sh_166 (hf.mono (by decide))) rfl rfl ⟨rfl, rfl⟩ ⟨by decide, by decide⟩ hcs0 rfl rfl (Nat.le_of_ble_eq_true rfl) dL_law_3146 ?_
  change GR P X Qf (ce + 1) (sl + 6) E 3149 [some (.ref b), some (gr P 0), some (gr P 166), some (gr P 177), some (gr P 178), some (.int (nI m)), some (.int k), none, none, none] [.int r1] h1 x1
  refine GR_istore (pc := 3149) (L' := [some (.ref b), some (gr P 0), some (gr P 166), some (gr P 177), some (gr P 178), some (.int (nI m)), some (.int k), some (.int r1), none, none]) hC dL_law_3149 (by decide) rfl rfl ?_
  refine GR_aload_n (pc := 3151) hC dL_law_3151 rfl rfl ?_
  refine GR_callVK (pc := 3152) (As := []) (E0 := ((f_X11_thrown h1).map (fun r => (h1, r)))) (b := (h1, h1 166 9)) hC (k_X11_thrown (hf.mono (by decide))) rfl MYC_X11_thrown MIC_X11_thrown (g_w_mem (List.mem_of_getElem? (i := 1392) (by decide +kernel)) (by decide +kernel)) (sh_166 (hf.mono (by decide))) rfl rfl ⟨rfl, rfl⟩ ⟨by decide, by decide⟩ hcs0 rfl rfl (Nat.le_of_ble_eq_true rfl) dL_law_3152 ?_
  change GR P X Qf (ce + 1) (sl + 6) E 3155 [some (.ref b), some (gr P 0), some (gr P 166), some (gr P 177), some (gr P 178), some (.int (nI m)), some (.int k), some (.int r1), none, none] [.int (h1 166 9)] h1 x1
  refine GR_iload (pc := 3155) hC dL_law_3155 rfl ?_
  refine GR_icmp_eqT (pc := 3157) (tgt := 3162) hC hT dL_law_3157 (by decide) ?_
  refine GR_iload (pc := 3162) hC dL_law_3162 rfl ?_
  by_cases hk : k = 0
  · refine GR_if_neF (pc := 3164) (tgt := 3179) hC hk dL_law_3164 (by decide) ?_
    refine GR_aload_n (pc := 3167) hC dL_law_3167 rfl rfl ?_
    refine GR_iconst (pc := 3168) (v := 0) hC dL_law_3168 rfl ?_
    refine GR_lald (pc := 3169) hC hF rfl dL_law_3169 ?_
    refine GR_iload (pc := 3170) hC dL_law_3170 rfl ?_
    refine GR_i2l (pc := 3172) hC dL_law_3172 ?_
    refine GR_lcmp (pc := 3173) hC dL_law_3173 ?_
    refine GR_if_eqT (pc := 3174) (tgt := 3179) hC (by rw [hR hk]; exact g_lcmp_self _) dL_law_3174 (by decide) ?_
    refine GR_goto (pc := 3179) (tgt := 3182) hC dL_law_3179 (by decide) ?_
    exact GR.less kk (g_le_at (And.intro rfl (And.intro rfl (And.intro rfl (And.intro rfl (And.intro rfl (And.intro rfl trivial)))))))
  · refine GR_if_neT (pc := 3164) (tgt := 3179) hC hk dL_law_3164 (by decide) ?_
    refine GR_goto (pc := 3179) (tgt := 3182) hC dL_law_3179 (by decide) ?_
    exact GR.less kk (g_le_at (And.intro rfl (And.intro rfl (And.intro rfl (And.intro rfl (And.intro rfl (And.intro rfl trivial)))))))
