/-! ===== the law's own methods ===== -/
def lw_v (b : Bool) (v : Int32) : Int64 := if b = true then (if v = 0 then 0 else 1) else v.toInt64
def lw_F (x : GE) (b : Bool) (tab : Nat → Option Int32) (q : GM × (Int32 ⊕ Nat)) : Option (GM × GE × Int32) := match q.2 with
  | .inl v => some (q.1, (vp_updL x.1 0 (lw_v b v), x.2), 0)
  | .inr k => (tab k).map (fun c => (q.1, x, c))
def ltb_0 : Nat → Option Int32 := fun k => match k with
  | 0 => some 1
  | _ => none
def ltb_01 : Nat → Option Int32 := fun k => match k with
  | 0 => some 1
  | 1 => some 2
  | _ => none
def ltb_012 : Nat → Option Int32 := fun k => match k with
  | 0 => some 1
  | 1 => some 2
  | 2 => some 3
  | _ => none
def ltb_02 : Nat → Option Int32 := fun k => match k with
  | 0 => some 1
  | 2 => some 2
  | _ => none
def ltb_1 : Nat → Option Int32 := fun k => match k with
  | 1 => some 1
  | _ => none
def ltb_2 : Nat → Option Int32 := fun k => match k with
  | 2 => some 1
  | _ => none
def ltb_3 : Nat → Option Int32 := fun k => match k with
  | 3 => some 1
  | _ => none
theorem MYL_X10_append : g_MY yX10_append cX10_append 6 (some .int) 5 := ⟨g_w_mem (List.mem_of_getElem? (i := 752) (by decide +kernel)) (by decide +kernel), g_w_mem (List.mem_of_getElem? (i := 93) (by decide +kernel)) (by decide +kernel), by decide +kernel, by decide +kernel, by decide +kernel⟩
theorem MIL_X10_append : Cond.instanceMethod yX10_append ∈ g_w ∧ Cond.selects yX10_append.cls yX10_append yX10_append ∈ g_w := ⟨g_w_mem (List.mem_of_getElem? (i := 750) (by decide +kernel)) (by decide +kernel), g_w_mem (List.mem_of_getElem? (i := 751) (by decide +kernel)) (by decide +kernel)⟩
theorem MYL_X10_truncate : g_MY yX10_truncate cX10_truncate 2 (some .int) 1 := ⟨g_w_mem (List.mem_of_getElem? (i := 832) (by decide +kernel)) (by decide +kernel), g_w_mem (List.mem_of_getElem? (i := 93) (by decide +kernel)) (by decide +kernel), by decide +kernel, by decide +kernel, by decide +kernel⟩
theorem MIL_X10_truncate : Cond.instanceMethod yX10_truncate ∈ g_w ∧ Cond.selects yX10_truncate.cls yX10_truncate yX10_truncate ∈ g_w := ⟨g_w_mem (List.mem_of_getElem? (i := 830) (by decide +kernel)) (by decide +kernel), g_w_mem (List.mem_of_getElem? (i := 831) (by decide +kernel)) (by decide +kernel)⟩
theorem MYL_X10_load : g_MY yX10_load cX10_load 3 (some .int) 0 := ⟨g_w_mem (List.mem_of_getElem? (i := 855) (by decide +kernel)) (by decide +kernel), g_w_mem (List.mem_of_getElem? (i := 93) (by decide +kernel)) (by decide +kernel), by decide +kernel, by decide +kernel, by decide +kernel⟩
theorem MIL_X10_load : Cond.instanceMethod yX10_load ∈ g_w ∧ Cond.selects yX10_load.cls yX10_load yX10_load ∈ g_w := ⟨g_w_mem (List.mem_of_getElem? (i := 853) (by decide +kernel)) (by decide +kernel), g_w_mem (List.mem_of_getElem? (i := 854) (by decide +kernel)) (by decide +kernel)⟩
theorem MYL_X10_capacity : g_MY yX10_capacity cX10_capacity 2 (some .int) 1 := ⟨g_w_mem (List.mem_of_getElem? (i := 865) (by decide +kernel)) (by decide +kernel), g_w_mem (List.mem_of_getElem? (i := 93) (by decide +kernel)) (by decide +kernel), by decide +kernel, by decide +kernel, by decide +kernel⟩
theorem MIL_X10_capacity : Cond.instanceMethod yX10_capacity ∈ g_w ∧ Cond.selects yX10_capacity.cls yX10_capacity yX10_capacity ∈ g_w := ⟨g_w_mem (List.mem_of_getElem? (i := 863) (by decide +kernel)) (by decide +kernel), g_w_mem (List.mem_of_getElem? (i := 864) (by decide +kernel)) (by decide +kernel)⟩
theorem MYL_X10_available : g_MY yX10_available cX10_available 2 (some .int) 1 := ⟨g_w_mem (List.mem_of_getElem? (i := 900) (by decide +kernel)) (by decide +kernel), g_w_mem (List.mem_of_getElem? (i := 93) (by decide +kernel)) (by decide +kernel), by decide +kernel, by decide +kernel, by decide +kernel⟩
theorem MIL_X10_available : Cond.instanceMethod yX10_available ∈ g_w ∧ Cond.selects yX10_available.cls yX10_available yX10_available ∈ g_w := ⟨g_w_mem (List.mem_of_getElem? (i := 898) (by decide +kernel)) (by decide +kernel), g_w_mem (List.mem_of_getElem? (i := 899) (by decide +kernel)) (by decide +kernel)⟩
theorem MYL_X10_maximum : g_MY yX10_maximum cX10_maximum 3 (some .int) 2 := ⟨g_w_mem (List.mem_of_getElem? (i := 915) (by decide +kernel)) (by decide +kernel), g_w_mem (List.mem_of_getElem? (i := 93) (by decide +kernel)) (by decide +kernel), by decide +kernel, by decide +kernel, by decide +kernel⟩
theorem MIL_X10_maximum : Cond.instanceMethod yX10_maximum ∈ g_w ∧ Cond.selects yX10_maximum.cls yX10_maximum yX10_maximum ∈ g_w := ⟨g_w_mem (List.mem_of_getElem? (i := 913) (by decide +kernel)) (by decide +kernel), g_w_mem (List.mem_of_getElem? (i := 914) (by decide +kernel)) (by decide +kernel)⟩
theorem MYL_X10_allocation : g_MY yX10_allocation cX10_allocation 3 (some .int) 2 := ⟨g_w_mem (List.mem_of_getElem? (i := 925) (by decide +kernel)) (by decide +kernel), g_w_mem (List.mem_of_getElem? (i := 93) (by decide +kernel)) (by decide +kernel), by decide +kernel, by decide +kernel, by decide +kernel⟩
theorem MIL_X10_allocation : Cond.instanceMethod yX10_allocation ∈ g_w ∧ Cond.selects yX10_allocation.cls yX10_allocation yX10_allocation ∈ g_w := ⟨g_w_mem (List.mem_of_getElem? (i := 923) (by decide +kernel)) (by decide +kernel), g_w_mem (List.mem_of_getElem? (i := 924) (by decide +kernel)) (by decide +kernel)⟩
theorem MYL_X10_need : g_MY yX10_need cX10_need 3 (some .int) 2 := ⟨g_w_mem (List.mem_of_getElem? (i := 932) (by decide +kernel)) (by decide +kernel), g_w_mem (List.mem_of_getElem? (i := 93) (by decide +kernel)) (by decide +kernel), by decide +kernel, by decide +kernel, by decide +kernel⟩
theorem MIL_X10_need : Cond.instanceMethod yX10_need ∈ g_w ∧ Cond.selects yX10_need.cls yX10_need yX10_need ∈ g_w := ⟨g_w_mem (List.mem_of_getElem? (i := 930) (by decide +kernel)) (by decide +kernel), g_w_mem (List.mem_of_getElem? (i := 931) (by decide +kernel)) (by decide +kernel)⟩
theorem MYL_X10_herdNameByte : g_MY yX10_herdNameByte cX10_herdNameByte 3 (some .int) 2 := ⟨g_w_mem (List.mem_of_getElem? (i := 940) (by decide +kernel)) (by decide +kernel), g_w_mem (List.mem_of_getElem? (i := 93) (by decide +kernel)) (by decide +kernel), by decide +kernel, by decide +kernel, by decide +kernel⟩
theorem MIL_X10_herdNameByte : Cond.instanceMethod yX10_herdNameByte ∈ g_w ∧ Cond.selects yX10_herdNameByte.cls yX10_herdNameByte yX10_herdNameByte ∈ g_w := ⟨g_w_mem (List.mem_of_getElem? (i := 938) (by decide +kernel)) (by decide +kernel), g_w_mem (List.mem_of_getElem? (i := 939) (by decide +kernel)) (by decide +kernel)⟩
theorem MYL_X10_pastureNameByte : g_MY yX10_pastureNameByte cX10_pastureNameByte 3 (some .int) 2 := ⟨g_w_mem (List.mem_of_getElem? (i := 950) (by decide +kernel)) (by decide +kernel), g_w_mem (List.mem_of_getElem? (i := 93) (by decide +kernel)) (by decide +kernel), by decide +kernel, by decide +kernel, by decide +kernel⟩
theorem MIL_X10_pastureNameByte : Cond.instanceMethod yX10_pastureNameByte ∈ g_w ∧ Cond.selects yX10_pastureNameByte.cls yX10_pastureNameByte yX10_pastureNameByte ∈ g_w := ⟨g_w_mem (List.mem_of_getElem? (i := 948) (by decide +kernel)) (by decide +kernel), g_w_mem (List.mem_of_getElem? (i := 949) (by decide +kernel)) (by decide +kernel)⟩
theorem MYL_X10_findHerd : g_MY yX10_findHerd cX10_findHerd 2 (some .int) 0 := ⟨g_w_mem (List.mem_of_getElem? (i := 958) (by decide +kernel)) (by decide +kernel), g_w_mem (List.mem_of_getElem? (i := 93) (by decide +kernel)) (by decide +kernel), by decide +kernel, by decide +kernel, by decide +kernel⟩
theorem MIL_X10_findHerd : Cond.instanceMethod yX10_findHerd ∈ g_w ∧ Cond.selects yX10_findHerd.cls yX10_findHerd yX10_findHerd ∈ g_w := ⟨g_w_mem (List.mem_of_getElem? (i := 956) (by decide +kernel)) (by decide +kernel), g_w_mem (List.mem_of_getElem? (i := 957) (by decide +kernel)) (by decide +kernel)⟩
theorem MYL_X10_canFinish : g_MY yX10_canFinish cX10_canFinish 2 (some .boolean) 1 := ⟨g_w_mem (List.mem_of_getElem? (i := 982) (by decide +kernel)) (by decide +kernel), g_w_mem (List.mem_of_getElem? (i := 93) (by decide +kernel)) (by decide +kernel), by decide +kernel, by decide +kernel, by decide +kernel⟩
theorem MIL_X10_canFinish : Cond.instanceMethod yX10_canFinish ∈ g_w ∧ Cond.selects yX10_canFinish.cls yX10_canFinish yX10_canFinish ∈ g_w := ⟨g_w_mem (List.mem_of_getElem? (i := 980) (by decide +kernel)) (by decide +kernel), g_w_mem (List.mem_of_getElem? (i := 981) (by decide +kernel)) (by decide +kernel)⟩
theorem MYL_X10_whyNotGranted : g_MY yX10_whyNotGranted cX10_whyNotGranted 4 (some .int) 3 := ⟨g_w_mem (List.mem_of_getElem? (i := 996) (by decide +kernel)) (by decide +kernel), g_w_mem (List.mem_of_getElem? (i := 93) (by decide +kernel)) (by decide +kernel), by decide +kernel, by decide +kernel, by decide +kernel⟩
theorem MIL_X10_whyNotGranted : Cond.instanceMethod yX10_whyNotGranted ∈ g_w ∧ Cond.selects yX10_whyNotGranted.cls yX10_whyNotGranted yX10_whyNotGranted ∈ g_w := ⟨g_w_mem (List.mem_of_getElem? (i := 994) (by decide +kernel)) (by decide +kernel), g_w_mem (List.mem_of_getElem? (i := 995) (by decide +kernel)) (by decide +kernel)⟩
theorem MYL_X10_largestGrant : g_MY yX10_largestGrant cX10_largestGrant 3 (some .int) 2 := ⟨g_w_mem (List.mem_of_getElem? (i := 1012) (by decide +kernel)) (by decide +kernel), g_w_mem (List.mem_of_getElem? (i := 93) (by decide +kernel)) (by decide +kernel), by decide +kernel, by decide +kernel, by decide +kernel⟩
theorem MIL_X10_largestGrant : Cond.instanceMethod yX10_largestGrant ∈ g_w ∧ Cond.selects yX10_largestGrant.cls yX10_largestGrant yX10_largestGrant ∈ g_w := ⟨g_w_mem (List.mem_of_getElem? (i := 1010) (by decide +kernel)) (by decide +kernel), g_w_mem (List.mem_of_getElem? (i := 1011) (by decide +kernel)) (by decide +kernel)⟩
theorem MYL_X10_safeCapacity : g_MY yX10_safeCapacity cX10_safeCapacity 2 (some .int) 1 := ⟨g_w_mem (List.mem_of_getElem? (i := 1030) (by decide +kernel)) (by decide +kernel), g_w_mem (List.mem_of_getElem? (i := 93) (by decide +kernel)) (by decide +kernel), by decide +kernel, by decide +kernel, by decide +kernel⟩
theorem MIL_X10_safeCapacity : Cond.instanceMethod yX10_safeCapacity ∈ g_w ∧ Cond.selects yX10_safeCapacity.cls yX10_safeCapacity yX10_safeCapacity ∈ g_w := ⟨g_w_mem (List.mem_of_getElem? (i := 1028) (by decide +kernel)) (by decide +kernel), g_w_mem (List.mem_of_getElem? (i := 1029) (by decide +kernel)) (by decide +kernel)⟩
theorem MYL_X10_isWaiting : g_MY yX10_isWaiting cX10_isWaiting 2 (some .boolean) 1 := ⟨g_w_mem (List.mem_of_getElem? (i := 1042) (by decide +kernel)) (by decide +kernel), g_w_mem (List.mem_of_getElem? (i := 93) (by decide +kernel)) (by decide +kernel), by decide +kernel, by decide +kernel, by decide +kernel⟩
theorem MIL_X10_isWaiting : Cond.instanceMethod yX10_isWaiting ∈ g_w ∧ Cond.selects yX10_isWaiting.cls yX10_isWaiting yX10_isWaiting ∈ g_w := ⟨g_w_mem (List.mem_of_getElem? (i := 1040) (by decide +kernel)) (by decide +kernel), g_w_mem (List.mem_of_getElem? (i := 1041) (by decide +kernel)) (by decide +kernel)⟩
theorem MYL_X10_requestedPasture : g_MY yX10_requestedPasture cX10_requestedPasture 2 (some .int) 1 := ⟨g_w_mem (List.mem_of_getElem? (i := 1049) (by decide +kernel)) (by decide +kernel), g_w_mem (List.mem_of_getElem? (i := 93) (by decide +kernel)) (by decide +kernel), by decide +kernel, by decide +kernel, by decide +kernel⟩
theorem MIL_X10_requestedPasture : Cond.instanceMethod yX10_requestedPasture ∈ g_w ∧ Cond.selects yX10_requestedPasture.cls yX10_requestedPasture yX10_requestedPasture ∈ g_w := ⟨g_w_mem (List.mem_of_getElem? (i := 1047) (by decide +kernel)) (by decide +kernel), g_w_mem (List.mem_of_getElem? (i := 1048) (by decide +kernel)) (by decide +kernel)⟩
theorem MYL_X10_requestedAmount : g_MY yX10_requestedAmount cX10_requestedAmount 2 (some .int) 1 := ⟨g_w_mem (List.mem_of_getElem? (i := 1056) (by decide +kernel)) (by decide +kernel), g_w_mem (List.mem_of_getElem? (i := 93) (by decide +kernel)) (by decide +kernel), by decide +kernel, by decide +kernel, by decide +kernel⟩
theorem MIL_X10_requestedAmount : Cond.instanceMethod yX10_requestedAmount ∈ g_w ∧ Cond.selects yX10_requestedAmount.cls yX10_requestedAmount yX10_requestedAmount ∈ g_w := ⟨g_w_mem (List.mem_of_getElem? (i := 1054) (by decide +kernel)) (by decide +kernel), g_w_mem (List.mem_of_getElem? (i := 1055) (by decide +kernel)) (by decide +kernel)⟩
theorem MYL_X10_waitsFor : g_MY yX10_waitsFor cX10_waitsFor 3 (some .boolean) 2 := ⟨g_w_mem (List.mem_of_getElem? (i := 1063) (by decide +kernel)) (by decide +kernel), g_w_mem (List.mem_of_getElem? (i := 93) (by decide +kernel)) (by decide +kernel), by decide +kernel, by decide +kernel, by decide +kernel⟩
theorem MIL_X10_waitsFor : Cond.instanceMethod yX10_waitsFor ∈ g_w ∧ Cond.selects yX10_waitsFor.cls yX10_waitsFor yX10_waitsFor ∈ g_w := ⟨g_w_mem (List.mem_of_getElem? (i := 1061) (by decide +kernel)) (by decide +kernel), g_w_mem (List.mem_of_getElem? (i := 1062) (by decide +kernel)) (by decide +kernel)⟩
theorem MYL_X10_isDeadlocked : g_MY yX10_isDeadlocked cX10_isDeadlocked 2 (some .boolean) 1 := ⟨g_w_mem (List.mem_of_getElem? (i := 1079) (by decide +kernel)) (by decide +kernel), g_w_mem (List.mem_of_getElem? (i := 93) (by decide +kernel)) (by decide +kernel), by decide +kernel, by decide +kernel, by decide +kernel⟩
theorem MIL_X10_isDeadlocked : Cond.instanceMethod yX10_isDeadlocked ∈ g_w ∧ Cond.selects yX10_isDeadlocked.cls yX10_isDeadlocked yX10_isDeadlocked ∈ g_w := ⟨g_w_mem (List.mem_of_getElem? (i := 1077) (by decide +kernel)) (by decide +kernel), g_w_mem (List.mem_of_getElem? (i := 1078) (by decide +kernel)) (by decide +kernel)⟩
theorem MYL_X10_debt : g_MY yX10_debt cX10_debt 3 (some .int) 2 := ⟨g_w_mem (List.mem_of_getElem? (i := 1087) (by decide +kernel)) (by decide +kernel), g_w_mem (List.mem_of_getElem? (i := 93) (by decide +kernel)) (by decide +kernel), by decide +kernel, by decide +kernel, by decide +kernel⟩
theorem MIL_X10_debt : Cond.instanceMethod yX10_debt ∈ g_w ∧ Cond.selects yX10_debt.cls yX10_debt yX10_debt ∈ g_w := ⟨g_w_mem (List.mem_of_getElem? (i := 1085) (by decide +kernel)) (by decide +kernel), g_w_mem (List.mem_of_getElem? (i := 1086) (by decide +kernel)) (by decide +kernel)⟩
theorem MYL_X10_totalDebt : g_MY yX10_totalDebt cX10_totalDebt 2 (some .int) 1 := ⟨g_w_mem (List.mem_of_getElem? (i := 1095) (by decide +kernel)) (by decide +kernel), g_w_mem (List.mem_of_getElem? (i := 93) (by decide +kernel)) (by decide +kernel), by decide +kernel, by decide +kernel, by decide +kernel⟩
theorem MIL_X10_totalDebt : Cond.instanceMethod yX10_totalDebt ∈ g_w ∧ Cond.selects yX10_totalDebt.cls yX10_totalDebt yX10_totalDebt ∈ g_w := ⟨g_w_mem (List.mem_of_getElem? (i := 1093) (by decide +kernel)) (by decide +kernel), g_w_mem (List.mem_of_getElem? (i := 1094) (by decide +kernel)) (by decide +kernel)⟩
theorem MYL_X10_totalClaims : g_MY yX10_totalClaims cX10_totalClaims 2 (some .int) 1 := ⟨g_w_mem (List.mem_of_getElem? (i := 1102) (by decide +kernel)) (by decide +kernel), g_w_mem (List.mem_of_getElem? (i := 93) (by decide +kernel)) (by decide +kernel), by decide +kernel, by decide +kernel, by decide +kernel⟩
theorem MIL_X10_totalClaims : Cond.instanceMethod yX10_totalClaims ∈ g_w ∧ Cond.selects yX10_totalClaims.cls yX10_totalClaims yX10_totalClaims ∈ g_w := ⟨g_w_mem (List.mem_of_getElem? (i := 1100) (by decide +kernel)) (by decide +kernel), g_w_mem (List.mem_of_getElem? (i := 1101) (by decide +kernel)) (by decide +kernel)⟩
theorem MYL_X10_closedCycleLength : g_MY yX10_closedCycleLength cX10_closedCycleLength 3 (some .int) 2 := ⟨g_w_mem (List.mem_of_getElem? (i := 1109) (by decide +kernel)) (by decide +kernel), g_w_mem (List.mem_of_getElem? (i := 93) (by decide +kernel)) (by decide +kernel), by decide +kernel, by decide +kernel, by decide +kernel⟩
theorem MIL_X10_closedCycleLength : Cond.instanceMethod yX10_closedCycleLength ∈ g_w ∧ Cond.selects yX10_closedCycleLength.cls yX10_closedCycleLength yX10_closedCycleLength ∈ g_w := ⟨g_w_mem (List.mem_of_getElem? (i := 1107) (by decide +kernel)) (by decide +kernel), g_w_mem (List.mem_of_getElem? (i := 1108) (by decide +kernel)) (by decide +kernel)⟩
theorem MYL_X10_debtDepth : g_MY yX10_debtDepth cX10_debtDepth 2 (some .int) 1 := ⟨g_w_mem (List.mem_of_getElem? (i := 1124) (by decide +kernel)) (by decide +kernel), g_w_mem (List.mem_of_getElem? (i := 93) (by decide +kernel)) (by decide +kernel), by decide +kernel, by decide +kernel, by decide +kernel⟩
theorem MIL_X10_debtDepth : Cond.instanceMethod yX10_debtDepth ∈ g_w ∧ Cond.selects yX10_debtDepth.cls yX10_debtDepth yX10_debtDepth ∈ g_w := ⟨g_w_mem (List.mem_of_getElem? (i := 1122) (by decide +kernel)) (by decide +kernel), g_w_mem (List.mem_of_getElem? (i := 1123) (by decide +kernel)) (by decide +kernel)⟩
theorem MYL_X10_settlementOrder : g_MY yX10_settlementOrder cX10_settlementOrder 2 (some .int) 1 := ⟨g_w_mem (List.mem_of_getElem? (i := 1135) (by decide +kernel)) (by decide +kernel), g_w_mem (List.mem_of_getElem? (i := 93) (by decide +kernel)) (by decide +kernel), by decide +kernel, by decide +kernel, by decide +kernel⟩
theorem MIL_X10_settlementOrder : Cond.instanceMethod yX10_settlementOrder ∈ g_w ∧ Cond.selects yX10_settlementOrder.cls yX10_settlementOrder yX10_settlementOrder ∈ g_w := ⟨g_w_mem (List.mem_of_getElem? (i := 1133) (by decide +kernel)) (by decide +kernel), g_w_mem (List.mem_of_getElem? (i := 1134) (by decide +kernel)) (by decide +kernel)⟩
theorem MYL_X10_transitiveClaims : g_MY yX10_transitiveClaims cX10_transitiveClaims 3 (some .int) 1 := ⟨g_w_mem (List.mem_of_getElem? (i := 1150) (by decide +kernel)) (by decide +kernel), g_w_mem (List.mem_of_getElem? (i := 93) (by decide +kernel)) (by decide +kernel), by decide +kernel, by decide +kernel, by decide +kernel⟩
theorem MIL_X10_transitiveClaims : Cond.instanceMethod yX10_transitiveClaims ∈ g_w ∧ Cond.selects yX10_transitiveClaims.cls yX10_transitiveClaims yX10_transitiveClaims ∈ g_w := ⟨g_w_mem (List.mem_of_getElem? (i := 1148) (by decide +kernel)) (by decide +kernel), g_w_mem (List.mem_of_getElem? (i := 1149) (by decide +kernel)) (by decide +kernel)⟩
theorem MYL_X10_request : g_MY yX10_request cX10_request 4 (some .boolean) 3 := ⟨g_w_mem (List.mem_of_getElem? (i := 1166) (by decide +kernel)) (by decide +kernel), g_w_mem (List.mem_of_getElem? (i := 93) (by decide +kernel)) (by decide +kernel), by decide +kernel, by decide +kernel, by decide +kernel⟩
theorem MIL_X10_request : Cond.instanceMethod yX10_request ∈ g_w ∧ Cond.selects yX10_request.cls yX10_request yX10_request ∈ g_w := ⟨g_w_mem (List.mem_of_getElem? (i := 1164) (by decide +kernel)) (by decide +kernel), g_w_mem (List.mem_of_getElem? (i := 1165) (by decide +kernel)) (by decide +kernel)⟩
theorem MYL_X10_release : g_MY yX10_release cX10_release 4 (some .int) 3 := ⟨g_w_mem (List.mem_of_getElem? (i := 1193) (by decide +kernel)) (by decide +kernel), g_w_mem (List.mem_of_getElem? (i := 93) (by decide +kernel)) (by decide +kernel), by decide +kernel, by decide +kernel, by decide +kernel⟩
theorem MIL_X10_release : Cond.instanceMethod yX10_release ∈ g_w ∧ Cond.selects yX10_release.cls yX10_release yX10_release ∈ g_w := ⟨g_w_mem (List.mem_of_getElem? (i := 1191) (by decide +kernel)) (by decide +kernel), g_w_mem (List.mem_of_getElem? (i := 1192) (by decide +kernel)) (by decide +kernel)⟩
theorem MYL_X10_finish : g_MY yX10_finish cX10_finish 2 (some .int) 1 := ⟨g_w_mem (List.mem_of_getElem? (i := 1208) (by decide +kernel)) (by decide +kernel), g_w_mem (List.mem_of_getElem? (i := 93) (by decide +kernel)) (by decide +kernel), by decide +kernel, by decide +kernel, by decide +kernel⟩
theorem MIL_X10_finish : Cond.instanceMethod yX10_finish ∈ g_w ∧ Cond.selects yX10_finish.cls yX10_finish yX10_finish ∈ g_w := ⟨g_w_mem (List.mem_of_getElem? (i := 1206) (by decide +kernel)) (by decide +kernel), g_w_mem (List.mem_of_getElem? (i := 1207) (by decide +kernel)) (by decide +kernel)⟩
theorem MYL_X10_cancel : g_MY yX10_cancel cX10_cancel 2 (some .int) 1 := ⟨g_w_mem (List.mem_of_getElem? (i := 1216) (by decide +kernel)) (by decide +kernel), g_w_mem (List.mem_of_getElem? (i := 93) (by decide +kernel)) (by decide +kernel), by decide +kernel, by decide +kernel, by decide +kernel⟩
theorem MIL_X10_cancel : Cond.instanceMethod yX10_cancel ∈ g_w ∧ Cond.selects yX10_cancel.cls yX10_cancel yX10_cancel ∈ g_w := ⟨g_w_mem (List.mem_of_getElem? (i := 1214) (by decide +kernel)) (by decide +kernel), g_w_mem (List.mem_of_getElem? (i := 1215) (by decide +kernel)) (by decide +kernel)⟩
theorem MYL_X10_setCapacity : g_MY yX10_setCapacity cX10_setCapacity 3 (some .int) 2 := ⟨g_w_mem (List.mem_of_getElem? (i := 1230) (by decide +kernel)) (by decide +kernel), g_w_mem (List.mem_of_getElem? (i := 93) (by decide +kernel)) (by decide +kernel), by decide +kernel, by decide +kernel, by decide +kernel⟩
theorem MIL_X10_setCapacity : Cond.instanceMethod yX10_setCapacity ∈ g_w ∧ Cond.selects yX10_setCapacity.cls yX10_setCapacity yX10_setCapacity ∈ g_w := ⟨g_w_mem (List.mem_of_getElem? (i := 1228) (by decide +kernel)) (by decide +kernel), g_w_mem (List.mem_of_getElem? (i := 1229) (by decide +kernel)) (by decide +kernel)⟩
theorem MYL_X10_setMaximum : g_MY yX10_setMaximum cX10_setMaximum 4 (some .int) 3 := ⟨g_w_mem (List.mem_of_getElem? (i := 1245) (by decide +kernel)) (by decide +kernel), g_w_mem (List.mem_of_getElem? (i := 93) (by decide +kernel)) (by decide +kernel), by decide +kernel, by decide +kernel, by decide +kernel⟩
theorem MIL_X10_setMaximum : Cond.instanceMethod yX10_setMaximum ∈ g_w ∧ Cond.selects yX10_setMaximum.cls yX10_setMaximum yX10_setMaximum ∈ g_w := ⟨g_w_mem (List.mem_of_getElem? (i := 1243) (by decide +kernel)) (by decide +kernel), g_w_mem (List.mem_of_getElem? (i := 1244) (by decide +kernel)) (by decide +kernel)⟩
theorem MYL_X10_lend : g_MY yX10_lend cX10_lend 4 (some .int) 3 := ⟨g_w_mem (List.mem_of_getElem? (i := 1263) (by decide +kernel)) (by decide +kernel), g_w_mem (List.mem_of_getElem? (i := 93) (by decide +kernel)) (by decide +kernel), by decide +kernel, by decide +kernel, by decide +kernel⟩
theorem MIL_X10_lend : Cond.instanceMethod yX10_lend ∈ g_w ∧ Cond.selects yX10_lend.cls yX10_lend yX10_lend ∈ g_w := ⟨g_w_mem (List.mem_of_getElem? (i := 1261) (by decide +kernel)) (by decide +kernel), g_w_mem (List.mem_of_getElem? (i := 1262) (by decide +kernel)) (by decide +kernel)⟩
theorem MYL_X10_repay : g_MY yX10_repay cX10_repay 4 (some .int) 3 := ⟨g_w_mem (List.mem_of_getElem? (i := 1282) (by decide +kernel)) (by decide +kernel), g_w_mem (List.mem_of_getElem? (i := 93) (by decide +kernel)) (by decide +kernel), by decide +kernel, by decide +kernel, by decide +kernel⟩
theorem MIL_X10_repay : Cond.instanceMethod yX10_repay ∈ g_w ∧ Cond.selects yX10_repay.cls yX10_repay yX10_repay ∈ g_w := ⟨g_w_mem (List.mem_of_getElem? (i := 1280) (by decide +kernel)) (by decide +kernel), g_w_mem (List.mem_of_getElem? (i := 1281) (by decide +kernel)) (by decide +kernel)⟩
theorem MYL_X10_runScript : g_MY yX10_runScript cX10_runScript 3 (some .int) 0 := ⟨g_w_mem (List.mem_of_getElem? (i := 1292) (by decide +kernel)) (by decide +kernel), g_w_mem (List.mem_of_getElem? (i := 93) (by decide +kernel)) (by decide +kernel), by decide +kernel, by decide +kernel, by decide +kernel⟩
theorem MIL_X10_runScript : Cond.instanceMethod yX10_runScript ∈ g_w ∧ Cond.selects yX10_runScript.cls yX10_runScript yX10_runScript ∈ g_w := ⟨g_w_mem (List.mem_of_getElem? (i := 1290) (by decide +kernel)) (by decide +kernel), g_w_mem (List.mem_of_getElem? (i := 1291) (by decide +kernel)) (by decide +kernel)⟩
theorem MYL_X10_undo : g_MY yX10_undo cX10_undo 1 (some .int) 0 := ⟨g_w_mem (List.mem_of_getElem? (i := 1360) (by decide +kernel)) (by decide +kernel), g_w_mem (List.mem_of_getElem? (i := 93) (by decide +kernel)) (by decide +kernel), by decide +kernel, by decide +kernel, by decide +kernel⟩
theorem MIL_X10_undo : Cond.instanceMethod yX10_undo ∈ g_w ∧ Cond.selects yX10_undo.cls yX10_undo yX10_undo ∈ g_w := ⟨g_w_mem (List.mem_of_getElem? (i := 1358) (by decide +kernel)) (by decide +kernel), g_w_mem (List.mem_of_getElem? (i := 1359) (by decide +kernel)) (by decide +kernel)⟩
theorem MYL_X10_save : g_MY yX10_save cX10_save 2 (some .int) 1 := ⟨g_w_mem (List.mem_of_getElem? (i := 1372) (by decide +kernel)) (by decide +kernel), g_w_mem (List.mem_of_getElem? (i := 93) (by decide +kernel)) (by decide +kernel), by decide +kernel, by decide +kernel, by decide +kernel⟩
theorem MIL_X10_save : Cond.instanceMethod yX10_save ∈ g_w ∧ Cond.selects yX10_save.cls yX10_save yX10_save ∈ g_w := ⟨g_w_mem (List.mem_of_getElem? (i := 1370) (by decide +kernel)) (by decide +kernel), g_w_mem (List.mem_of_getElem? (i := 1371) (by decide +kernel)) (by decide +kernel)⟩
theorem MYL_X10_restore : g_MY yX10_restore cX10_restore 2 (some .int) 1 := ⟨g_w_mem (List.mem_of_getElem? (i := 1382) (by decide +kernel)) (by decide +kernel), g_w_mem (List.mem_of_getElem? (i := 93) (by decide +kernel)) (by decide +kernel), by decide +kernel, by decide +kernel, by decide +kernel⟩
theorem MIL_X10_restore : Cond.instanceMethod yX10_restore ∈ g_w ∧ Cond.selects yX10_restore.cls yX10_restore yX10_restore ∈ g_w := ⟨g_w_mem (List.mem_of_getElem? (i := 1380) (by decide +kernel)) (by decide +kernel), g_w_mem (List.mem_of_getElem? (i := 1381) (by decide +kernel)) (by decide +kernel)⟩
theorem MYL_X10_outputByte : g_MY yX10_outputByte cX10_outputByte 2 (some .int) 1 := ⟨g_w_mem (List.mem_of_getElem? (i := 1390) (by decide +kernel)) (by decide +kernel), g_w_mem (List.mem_of_getElem? (i := 93) (by decide +kernel)) (by decide +kernel), by decide +kernel, by decide +kernel, by decide +kernel⟩
theorem MIL_X10_outputByte : Cond.instanceMethod yX10_outputByte ∈ g_w ∧ Cond.selects yX10_outputByte.cls yX10_outputByte yX10_outputByte ∈ g_w := ⟨g_w_mem (List.mem_of_getElem? (i := 1388) (by decide +kernel)) (by decide +kernel), g_w_mem (List.mem_of_getElem? (i := 1389) (by decide +kernel)) (by decide +kernel)⟩
set_option maxRecDepth 20000 in
set_option maxHeartbeats 2000000 in
theorem kL_append {P : GP} {x : GE} {p1 : Int32} {p2 : Int32} {p3 : Int32} {p4 : Int32} {p5 : Int32} {g : GM} (hF : g_sh P = g_full) (hf : g_on P 179) : KL P yL_append cL_append 8 [(0, 16, 19, 13)] ⟨7, 1, 6, 125⟩ [gr P 0, .int p1, .int p2, .int p3, .int p4, .int p5, gr P 177] g x ((f_X10_append g p1 p2 p3 p4 p5).bind (lw_F x false ltb_2)) := by
  refine KL.ofW (by decide) rfl (Nat.le_of_ble_eq_true rfl) (fun X hC hr hT => ?_)
  change GR P X (g_QL P X) 0 0 _ 0 [some (gr P 0), some (.int p1), some (.int p2), some (.int p3), some (.int p4), some (.int p5), some (gr P 177), none] [] g x
  refine GR_aload (pc := 0) hC dL_append_0 rfl ?_
  refine GR_iconst (pc := 2) (v := 0) hC dL_append_2 rfl ?_
  refine GR_aload_n (pc := 3) hC dL_append_3 rfl rfl ?_
  refine GR_iload_n (pc := 4) hC dL_append_4 rfl rfl ?_
  refine GR_iload_n (pc := 5) hC dL_append_5 rfl rfl ?_
  refine GR_iload_n (pc := 6) hC dL_append_6 rfl rfl ?_
  refine GR_iload (pc := 7) hC dL_append_7 rfl ?_
  refine GR_iload (pc := 9) hC dL_append_9 rfl ?_
  refine GR_callVC (pc := 11) (As := [.int p1, .int p2, .int p3, .int p4, .int p5]) (E0 := f_X10_append g p1 p2 p3 p4 p5) (F := lw_F x false ltb_2) hC hT (k_X10_append (hf.mono (by decide))) MYL_X10_append MIL_X10_append (g_w_mem (List.mem_of_getElem? (i := 749) (by decide +kernel)) (by decide +kernel)) (sh_0 (hf.mono (by decide))) rfl rfl ⟨rfl, rfl⟩ ⟨by decide, by decide⟩ ⟨by decide, by decide⟩ rfl rfl (Nat.le_of_ble_eq_true rfl) dL_append_11 ?_ ?_
  · intro g1 r
    refine GR_i2l (pc := 14) hC dL_append_14 ?_
    refine GR_last (pc := 15) hC hF rfl dL_append_15 ?_
    refine GR_goto (pc := 16) (tgt := 23) hC dL_append_16 (by decide) ?_
    refine GR_iconst (pc := 23) (v := 0) hC dL_append_23 rfl ?_
    exact GR_iretL (pc := 24) hC ⟨by decide, by decide⟩ hr dL_append_24
  · intro g1 k
    rcases k with _ | _ | _ | _ | k
    · exact Or.inl rfl
    · exact Or.inl rfl
    · refine Or.inr ⟨19, ⟨[], ⟨0, 16, 19, 13⟩, [], "java/lang/IllegalStateException", rfl, rfl, (fun w hw => (List.not_mem_nil hw).elim), by decide, by decide, g_w_mem (List.mem_of_getElem? (i := 748) (by decide +kernel)) (by decide +kernel), rfl⟩, fun q9 => ?_⟩
      refine GR_astore (pc := 19) (L' := [some (gr P 0), some (.int p1), some (.int p2), some (.int p3), some (.int p4), some (.int p5), some (gr P 177), some (.ref q9)]) hC dL_append_19 (by decide) rfl rfl ?_
      refine GR_iconst (pc := 21) (v := 1) hC dL_append_21 rfl ?_
      exact GR_iretL (pc := 22) hC ⟨by decide, by decide⟩ hr dL_append_22
    · exact Or.inl rfl
    · exact Or.inl rfl
set_option maxRecDepth 20000 in
set_option maxHeartbeats 2000000 in
theorem kL_truncate {P : GP} {x : GE} {p1 : Int32} {g : GM} (hF : g_sh P = g_full) (hf : g_on P 179) : KL P yL_truncate cL_truncate 4 [(0, 9, 12, 19)] ⟨7, 1, 6, 121⟩ [gr P 0, .int p1, gr P 177] g x ((f_X10_truncate g p1).bind (lw_F x false ltb_1)) := by
  refine KL.ofW (by decide) rfl (Nat.le_of_ble_eq_true rfl) (fun X hC hr hT => ?_)
  change GR P X (g_QL P X) 0 0 _ 0 [some (gr P 0), some (.int p1), some (gr P 177), none] [] g x
  refine GR_aload_n (pc := 0) hC dL_truncate_0 rfl rfl ?_
  refine GR_iconst (pc := 1) (v := 0) hC dL_truncate_1 rfl ?_
  refine GR_aload_n (pc := 2) hC dL_truncate_2 rfl rfl ?_
  refine GR_iload_n (pc := 3) hC dL_truncate_3 rfl rfl ?_
  refine GR_callVC (pc := 4) (As := [.int p1]) (E0 := f_X10_truncate g p1) (F := lw_F x false ltb_1) hC hT (k_X10_truncate (hf.mono (by decide))) MYL_X10_truncate MIL_X10_truncate (g_w_mem (List.mem_of_getElem? (i := 829) (by decide +kernel)) (by decide +kernel)) (sh_0 (hf.mono (by decide))) rfl rfl ⟨rfl, rfl⟩ ⟨by decide, by decide⟩ ⟨by decide, by decide⟩ rfl rfl (Nat.le_of_ble_eq_true rfl) dL_truncate_4 ?_ ?_
  · intro g1 r
    refine GR_i2l (pc := 7) hC dL_truncate_7 ?_
    refine GR_last (pc := 8) hC hF rfl dL_truncate_8 ?_
    refine GR_goto (pc := 9) (tgt := 15) hC dL_truncate_9 (by decide) ?_
    refine GR_iconst (pc := 15) (v := 0) hC dL_truncate_15 rfl ?_
    exact GR_iretL (pc := 16) hC ⟨by decide, by decide⟩ hr dL_truncate_16
  · intro g1 k
    rcases k with _ | _ | _ | _ | k
    · exact Or.inl rfl
    · refine Or.inr ⟨12, ⟨[], ⟨0, 9, 12, 19⟩, [], "java/lang/IllegalArgumentException", rfl, rfl, (fun w hw => (List.not_mem_nil hw).elim), by decide, by decide, g_w_mem (List.mem_of_getElem? (i := 828) (by decide +kernel)) (by decide +kernel), rfl⟩, fun q9 => ?_⟩
      refine GR_astore_n (pc := 12) (L' := [some (gr P 0), some (.int p1), some (gr P 177), some (.ref q9)]) hC dL_truncate_12 rfl (by decide) rfl rfl ?_
      refine GR_iconst (pc := 13) (v := 1) hC dL_truncate_13 rfl ?_
      exact GR_iretL (pc := 14) hC ⟨by decide, by decide⟩ hr dL_truncate_14
    · exact Or.inl rfl
    · exact Or.inl rfl
    · exact Or.inl rfl
set_option maxRecDepth 20000 in
set_option maxHeartbeats 2000000 in
theorem kL_load {P : GP} {x : GE} {g : GM} (hF : g_sh P = g_full) (hf : g_on P 179) : KL P yL_load cL_load 3 [(0, 8, 11, 19)] ⟨10, 1, 6, 241⟩ [gr P 0, gr P 177] g x ((f_X10_load g).bind (lw_F x false ltb_1)) := by
  refine KL.ofW (by decide) rfl (Nat.le_of_ble_eq_true rfl) (fun X hC hr hT => ?_)
  change GR P X (g_QL P X) 0 0 _ 0 [some (gr P 0), some (gr P 177), none] [] g x
  refine GR_aload_n (pc := 0) hC dL_load_0 rfl rfl ?_
  refine GR_iconst (pc := 1) (v := 0) hC dL_load_1 rfl ?_
  refine GR_aload_n (pc := 2) hC dL_load_2 rfl rfl ?_
  refine GR_callVC (pc := 3) (As := []) (E0 := f_X10_load g) (F := lw_F x false ltb_1) hC hT (k_X10_load (hf.mono (by decide))) MYL_X10_load MIL_X10_load (g_w_mem (List.mem_of_getElem? (i := 852) (by decide +kernel)) (by decide +kernel)) (sh_0 (hf.mono (by decide))) rfl rfl ⟨rfl, rfl⟩ ⟨by decide, by decide⟩ ⟨by decide, by decide⟩ rfl rfl (Nat.le_of_ble_eq_true rfl) dL_load_3 ?_ ?_
  · intro g1 r
    refine GR_i2l (pc := 6) hC dL_load_6 ?_
    refine GR_last (pc := 7) hC hF rfl dL_load_7 ?_
    refine GR_goto (pc := 8) (tgt := 14) hC dL_load_8 (by decide) ?_
    refine GR_iconst (pc := 14) (v := 0) hC dL_load_14 rfl ?_
    exact GR_iretL (pc := 15) hC ⟨by decide, by decide⟩ hr dL_load_15
  · intro g1 k
    rcases k with _ | _ | _ | _ | k
    · exact Or.inl rfl
    · refine Or.inr ⟨11, ⟨[], ⟨0, 8, 11, 19⟩, [], "java/lang/IllegalArgumentException", rfl, rfl, (fun w hw => (List.not_mem_nil hw).elim), by decide, by decide, g_w_mem (List.mem_of_getElem? (i := 828) (by decide +kernel)) (by decide +kernel), rfl⟩, fun q9 => ?_⟩
      refine GR_astore_n (pc := 11) (L' := [some (gr P 0), some (gr P 177), some (.ref q9)]) hC dL_load_11 rfl (by decide) rfl rfl ?_
      refine GR_iconst (pc := 12) (v := 1) hC dL_load_12 rfl ?_
      exact GR_iretL (pc := 13) hC ⟨by decide, by decide⟩ hr dL_load_13
    · exact Or.inl rfl
    · exact Or.inl rfl
    · exact Or.inl rfl
set_option maxRecDepth 20000 in
set_option maxHeartbeats 2000000 in
theorem kL_capacity {P : GP} {x : GE} {p1 : Int32} {g : GM} (hF : g_sh P = g_full) (hf : g_on P 179) : KL P yL_capacity cL_capacity 4 [(0, 9, 12, 28)] ⟨8, 1, 6, 141⟩ [gr P 0, .int p1, gr P 177] g x ((f_X10_capacity g p1).bind (lw_F x false ltb_0)) := by
  refine KL.ofW (by decide) rfl (Nat.le_of_ble_eq_true rfl) (fun X hC hr hT => ?_)
  change GR P X (g_QL P X) 0 0 _ 0 [some (gr P 0), some (.int p1), some (gr P 177), none] [] g x
  refine GR_aload_n (pc := 0) hC dL_capacity_0 rfl rfl ?_
  refine GR_iconst (pc := 1) (v := 0) hC dL_capacity_1 rfl ?_
  refine GR_aload_n (pc := 2) hC dL_capacity_2 rfl rfl ?_
  refine GR_iload_n (pc := 3) hC dL_capacity_3 rfl rfl ?_
  refine GR_callVC (pc := 4) (As := [.int p1]) (E0 := f_X10_capacity g p1) (F := lw_F x false ltb_0) hC hT (k_X10_capacity (hf.mono (by decide))) MYL_X10_capacity MIL_X10_capacity (g_w_mem (List.mem_of_getElem? (i := 862) (by decide +kernel)) (by decide +kernel)) (sh_0 (hf.mono (by decide))) rfl rfl ⟨rfl, rfl⟩ ⟨by decide, by decide⟩ ⟨by decide, by decide⟩ rfl rfl (Nat.le_of_ble_eq_true rfl) dL_capacity_4 ?_ ?_
  · intro g1 r
    refine GR_i2l (pc := 7) hC dL_capacity_7 ?_
    refine GR_last (pc := 8) hC hF rfl dL_capacity_8 ?_
    refine GR_goto (pc := 9) (tgt := 15) hC dL_capacity_9 (by decide) ?_
    refine GR_iconst (pc := 15) (v := 0) hC dL_capacity_15 rfl ?_
    exact GR_iretL (pc := 16) hC ⟨by decide, by decide⟩ hr dL_capacity_16
  · intro g1 k
    rcases k with _ | _ | _ | _ | k
    · refine Or.inr ⟨12, ⟨[], ⟨0, 9, 12, 28⟩, [], "java/lang/IndexOutOfBoundsException", rfl, rfl, (fun w hw => (List.not_mem_nil hw).elim), by decide, by decide, g_w_mem (List.mem_of_getElem? (i := 861) (by decide +kernel)) (by decide +kernel), rfl⟩, fun q9 => ?_⟩
      refine GR_astore_n (pc := 12) (L' := [some (gr P 0), some (.int p1), some (gr P 177), some (.ref q9)]) hC dL_capacity_12 rfl (by decide) rfl rfl ?_
      refine GR_iconst (pc := 13) (v := 1) hC dL_capacity_13 rfl ?_
      exact GR_iretL (pc := 14) hC ⟨by decide, by decide⟩ hr dL_capacity_14
    · exact Or.inl rfl
    · exact Or.inl rfl
    · exact Or.inl rfl
    · exact Or.inl rfl
set_option maxRecDepth 20000 in
set_option maxHeartbeats 2000000 in
theorem kL_available {P : GP} {x : GE} {p1 : Int32} {g : GM} (hF : g_sh P = g_full) (hf : g_on P 179) : KL P yL_available cL_available 4 [(0, 9, 12, 28)] ⟨8, 1, 6, 141⟩ [gr P 0, .int p1, gr P 177] g x ((f_X10_available g p1).bind (lw_F x false ltb_0)) := by
  refine KL.ofW (by decide) rfl (Nat.le_of_ble_eq_true rfl) (fun X hC hr hT => ?_)
  change GR P X (g_QL P X) 0 0 _ 0 [some (gr P 0), some (.int p1), some (gr P 177), none] [] g x
  refine GR_aload_n (pc := 0) hC dL_available_0 rfl rfl ?_
  refine GR_iconst (pc := 1) (v := 0) hC dL_available_1 rfl ?_
  refine GR_aload_n (pc := 2) hC dL_available_2 rfl rfl ?_
  refine GR_iload_n (pc := 3) hC dL_available_3 rfl rfl ?_
  refine GR_callVC (pc := 4) (As := [.int p1]) (E0 := f_X10_available g p1) (F := lw_F x false ltb_0) hC hT (k_X10_available (hf.mono (by decide))) MYL_X10_available MIL_X10_available (g_w_mem (List.mem_of_getElem? (i := 897) (by decide +kernel)) (by decide +kernel)) (sh_0 (hf.mono (by decide))) rfl rfl ⟨rfl, rfl⟩ ⟨by decide, by decide⟩ ⟨by decide, by decide⟩ rfl rfl (Nat.le_of_ble_eq_true rfl) dL_available_4 ?_ ?_
  · intro g1 r
    refine GR_i2l (pc := 7) hC dL_available_7 ?_
    refine GR_last (pc := 8) hC hF rfl dL_available_8 ?_
    refine GR_goto (pc := 9) (tgt := 15) hC dL_available_9 (by decide) ?_
    refine GR_iconst (pc := 15) (v := 0) hC dL_available_15 rfl ?_
    exact GR_iretL (pc := 16) hC ⟨by decide, by decide⟩ hr dL_available_16
  · intro g1 k
    rcases k with _ | _ | _ | _ | k
    · refine Or.inr ⟨12, ⟨[], ⟨0, 9, 12, 28⟩, [], "java/lang/IndexOutOfBoundsException", rfl, rfl, (fun w hw => (List.not_mem_nil hw).elim), by decide, by decide, g_w_mem (List.mem_of_getElem? (i := 861) (by decide +kernel)) (by decide +kernel), rfl⟩, fun q9 => ?_⟩
      refine GR_astore_n (pc := 12) (L' := [some (gr P 0), some (.int p1), some (gr P 177), some (.ref q9)]) hC dL_available_12 rfl (by decide) rfl rfl ?_
      refine GR_iconst (pc := 13) (v := 1) hC dL_available_13 rfl ?_
      exact GR_iretL (pc := 14) hC ⟨by decide, by decide⟩ hr dL_available_14
    · exact Or.inl rfl
    · exact Or.inl rfl
    · exact Or.inl rfl
    · exact Or.inl rfl
set_option maxRecDepth 20000 in
set_option maxHeartbeats 2000000 in
theorem kL_maximum {P : GP} {x : GE} {p1 : Int32} {p2 : Int32} {g : GM} (hF : g_sh P = g_full) (hf : g_on P 179) : KL P yL_maximum cL_maximum 5 [(0, 10, 13, 28)] ⟨8, 1, 6, 142⟩ [gr P 0, .int p1, .int p2, gr P 177] g x ((f_X10_maximum g p1 p2).bind (lw_F x false ltb_0)) := by
  refine KL.ofW (by decide) rfl (Nat.le_of_ble_eq_true rfl) (fun X hC hr hT => ?_)
  change GR P X (g_QL P X) 0 0 _ 0 [some (gr P 0), some (.int p1), some (.int p2), some (gr P 177), none] [] g x
  refine GR_aload_n (pc := 0) hC dL_maximum_0 rfl rfl ?_
  refine GR_iconst (pc := 1) (v := 0) hC dL_maximum_1 rfl ?_
  refine GR_aload_n (pc := 2) hC dL_maximum_2 rfl rfl ?_
  refine GR_iload_n (pc := 3) hC dL_maximum_3 rfl rfl ?_
  refine GR_iload_n (pc := 4) hC dL_maximum_4 rfl rfl ?_
  refine GR_callVC (pc := 5) (As := [.int p1, .int p2]) (E0 := f_X10_maximum g p1 p2) (F := lw_F x false ltb_0) hC hT (k_X10_maximum (hf.mono (by decide))) MYL_X10_maximum MIL_X10_maximum (g_w_mem (List.mem_of_getElem? (i := 912) (by decide +kernel)) (by decide +kernel)) (sh_0 (hf.mono (by decide))) rfl rfl ⟨rfl, rfl⟩ ⟨by decide, by decide⟩ ⟨by decide, by decide⟩ rfl rfl (Nat.le_of_ble_eq_true rfl) dL_maximum_5 ?_ ?_
  · intro g1 r
    refine GR_i2l (pc := 8) hC dL_maximum_8 ?_
    refine GR_last (pc := 9) hC hF rfl dL_maximum_9 ?_
    refine GR_goto (pc := 10) (tgt := 17) hC dL_maximum_10 (by decide) ?_
    refine GR_iconst (pc := 17) (v := 0) hC dL_maximum_17 rfl ?_
    exact GR_iretL (pc := 18) hC ⟨by decide, by decide⟩ hr dL_maximum_18
  · intro g1 k
    rcases k with _ | _ | _ | _ | k
    · refine Or.inr ⟨13, ⟨[], ⟨0, 10, 13, 28⟩, [], "java/lang/IndexOutOfBoundsException", rfl, rfl, (fun w hw => (List.not_mem_nil hw).elim), by decide, by decide, g_w_mem (List.mem_of_getElem? (i := 861) (by decide +kernel)) (by decide +kernel), rfl⟩, fun q9 => ?_⟩
      refine GR_astore (pc := 13) (L' := [some (gr P 0), some (.int p1), some (.int p2), some (gr P 177), some (.ref q9)]) hC dL_maximum_13 (by decide) rfl rfl ?_
      refine GR_iconst (pc := 15) (v := 1) hC dL_maximum_15 rfl ?_
      exact GR_iretL (pc := 16) hC ⟨by decide, by decide⟩ hr dL_maximum_16
    · exact Or.inl rfl
    · exact Or.inl rfl
    · exact Or.inl rfl
    · exact Or.inl rfl
set_option maxRecDepth 20000 in
set_option maxHeartbeats 2000000 in
theorem kL_allocation {P : GP} {x : GE} {p1 : Int32} {p2 : Int32} {g : GM} (hF : g_sh P = g_full) (hf : g_on P 179) : KL P yL_allocation cL_allocation 5 [(0, 10, 13, 28)] ⟨8, 1, 6, 142⟩ [gr P 0, .int p1, .int p2, gr P 177] g x ((f_X10_allocation g p1 p2).bind (lw_F x false ltb_0)) := by
  refine KL.ofW (by decide) rfl (Nat.le_of_ble_eq_true rfl) (fun X hC hr hT => ?_)
  change GR P X (g_QL P X) 0 0 _ 0 [some (gr P 0), some (.int p1), some (.int p2), some (gr P 177), none] [] g x
  refine GR_aload_n (pc := 0) hC dL_allocation_0 rfl rfl ?_
  refine GR_iconst (pc := 1) (v := 0) hC dL_allocation_1 rfl ?_
  refine GR_aload_n (pc := 2) hC dL_allocation_2 rfl rfl ?_
  refine GR_iload_n (pc := 3) hC dL_allocation_3 rfl rfl ?_
  refine GR_iload_n (pc := 4) hC dL_allocation_4 rfl rfl ?_
  refine GR_callVC (pc := 5) (As := [.int p1, .int p2]) (E0 := f_X10_allocation g p1 p2) (F := lw_F x false ltb_0) hC hT (k_X10_allocation (hf.mono (by decide))) MYL_X10_allocation MIL_X10_allocation (g_w_mem (List.mem_of_getElem? (i := 922) (by decide +kernel)) (by decide +kernel)) (sh_0 (hf.mono (by decide))) rfl rfl ⟨rfl, rfl⟩ ⟨by decide, by decide⟩ ⟨by decide, by decide⟩ rfl rfl (Nat.le_of_ble_eq_true rfl) dL_allocation_5 ?_ ?_
  · intro g1 r
    refine GR_i2l (pc := 8) hC dL_allocation_8 ?_
    refine GR_last (pc := 9) hC hF rfl dL_allocation_9 ?_
    refine GR_goto (pc := 10) (tgt := 17) hC dL_allocation_10 (by decide) ?_
    refine GR_iconst (pc := 17) (v := 0) hC dL_allocation_17 rfl ?_
    exact GR_iretL (pc := 18) hC ⟨by decide, by decide⟩ hr dL_allocation_18
  · intro g1 k
    rcases k with _ | _ | _ | _ | k
    · refine Or.inr ⟨13, ⟨[], ⟨0, 10, 13, 28⟩, [], "java/lang/IndexOutOfBoundsException", rfl, rfl, (fun w hw => (List.not_mem_nil hw).elim), by decide, by decide, g_w_mem (List.mem_of_getElem? (i := 861) (by decide +kernel)) (by decide +kernel), rfl⟩, fun q9 => ?_⟩
      refine GR_astore (pc := 13) (L' := [some (gr P 0), some (.int p1), some (.int p2), some (gr P 177), some (.ref q9)]) hC dL_allocation_13 (by decide) rfl rfl ?_
      refine GR_iconst (pc := 15) (v := 1) hC dL_allocation_15 rfl ?_
      exact GR_iretL (pc := 16) hC ⟨by decide, by decide⟩ hr dL_allocation_16
    · exact Or.inl rfl
    · exact Or.inl rfl
    · exact Or.inl rfl
    · exact Or.inl rfl
set_option maxRecDepth 20000 in
set_option maxHeartbeats 2000000 in
theorem kL_need {P : GP} {x : GE} {p1 : Int32} {p2 : Int32} {g : GM} (hF : g_sh P = g_full) (hf : g_on P 179) : KL P yL_need cL_need 5 [(0, 10, 13, 28)] ⟨8, 1, 6, 142⟩ [gr P 0, .int p1, .int p2, gr P 177] g x ((f_X10_need g p1 p2).bind (lw_F x false ltb_0)) := by
  refine KL.ofW (by decide) rfl (Nat.le_of_ble_eq_true rfl) (fun X hC hr hT => ?_)
  change GR P X (g_QL P X) 0 0 _ 0 [some (gr P 0), some (.int p1), some (.int p2), some (gr P 177), none] [] g x
  refine GR_aload_n (pc := 0) hC dL_need_0 rfl rfl ?_
  refine GR_iconst (pc := 1) (v := 0) hC dL_need_1 rfl ?_
  refine GR_aload_n (pc := 2) hC dL_need_2 rfl rfl ?_
  refine GR_iload_n (pc := 3) hC dL_need_3 rfl rfl ?_
  refine GR_iload_n (pc := 4) hC dL_need_4 rfl rfl ?_
  refine GR_callVC (pc := 5) (As := [.int p1, .int p2]) (E0 := f_X10_need g p1 p2) (F := lw_F x false ltb_0) hC hT (k_X10_need (hf.mono (by decide))) MYL_X10_need MIL_X10_need (g_w_mem (List.mem_of_getElem? (i := 929) (by decide +kernel)) (by decide +kernel)) (sh_0 (hf.mono (by decide))) rfl rfl ⟨rfl, rfl⟩ ⟨by decide, by decide⟩ ⟨by decide, by decide⟩ rfl rfl (Nat.le_of_ble_eq_true rfl) dL_need_5 ?_ ?_
  · intro g1 r
    refine GR_i2l (pc := 8) hC dL_need_8 ?_
    refine GR_last (pc := 9) hC hF rfl dL_need_9 ?_
    refine GR_goto (pc := 10) (tgt := 17) hC dL_need_10 (by decide) ?_
    refine GR_iconst (pc := 17) (v := 0) hC dL_need_17 rfl ?_
    exact GR_iretL (pc := 18) hC ⟨by decide, by decide⟩ hr dL_need_18
  · intro g1 k
    rcases k with _ | _ | _ | _ | k
    · refine Or.inr ⟨13, ⟨[], ⟨0, 10, 13, 28⟩, [], "java/lang/IndexOutOfBoundsException", rfl, rfl, (fun w hw => (List.not_mem_nil hw).elim), by decide, by decide, g_w_mem (List.mem_of_getElem? (i := 861) (by decide +kernel)) (by decide +kernel), rfl⟩, fun q9 => ?_⟩
      refine GR_astore (pc := 13) (L' := [some (gr P 0), some (.int p1), some (.int p2), some (gr P 177), some (.ref q9)]) hC dL_need_13 (by decide) rfl rfl ?_
      refine GR_iconst (pc := 15) (v := 1) hC dL_need_15 rfl ?_
      exact GR_iretL (pc := 16) hC ⟨by decide, by decide⟩ hr dL_need_16
    · exact Or.inl rfl
    · exact Or.inl rfl
    · exact Or.inl rfl
    · exact Or.inl rfl
set_option maxRecDepth 20000 in
set_option maxHeartbeats 2000000 in
theorem kL_herdNameByte {P : GP} {x : GE} {p1 : Int32} {p2 : Int32} {g : GM} (hF : g_sh P = g_full) (hf : g_on P 179) : KL P yL_herdNameByte cL_herdNameByte 5 [(0, 10, 13, 28)] ⟨8, 1, 6, 142⟩ [gr P 0, .int p1, .int p2, gr P 177] g x ((f_X10_herdNameByte g p1 p2).bind (lw_F x false ltb_0)) := by
  refine KL.ofW (by decide) rfl (Nat.le_of_ble_eq_true rfl) (fun X hC hr hT => ?_)
  change GR P X (g_QL P X) 0 0 _ 0 [some (gr P 0), some (.int p1), some (.int p2), some (gr P 177), none] [] g x
  refine GR_aload_n (pc := 0) hC dL_herdNameByte_0 rfl rfl ?_
  refine GR_iconst (pc := 1) (v := 0) hC dL_herdNameByte_1 rfl ?_
  refine GR_aload_n (pc := 2) hC dL_herdNameByte_2 rfl rfl ?_
  refine GR_iload_n (pc := 3) hC dL_herdNameByte_3 rfl rfl ?_
  refine GR_iload_n (pc := 4) hC dL_herdNameByte_4 rfl rfl ?_
  refine GR_callVC (pc := 5) (As := [.int p1, .int p2]) (E0 := f_X10_herdNameByte g p1 p2) (F := lw_F x false ltb_0) hC hT (k_X10_herdNameByte (hf.mono (by decide))) MYL_X10_herdNameByte MIL_X10_herdNameByte (g_w_mem (List.mem_of_getElem? (i := 937) (by decide +kernel)) (by decide +kernel)) (sh_0 (hf.mono (by decide))) rfl rfl ⟨rfl, rfl⟩ ⟨by decide, by decide⟩ ⟨by decide, by decide⟩ rfl rfl (Nat.le_of_ble_eq_true rfl) dL_herdNameByte_5 ?_ ?_
  · intro g1 r
    refine GR_i2l (pc := 8) hC dL_herdNameByte_8 ?_
    refine GR_last (pc := 9) hC hF rfl dL_herdNameByte_9 ?_
    refine GR_goto (pc := 10) (tgt := 17) hC dL_herdNameByte_10 (by decide) ?_
    refine GR_iconst (pc := 17) (v := 0) hC dL_herdNameByte_17 rfl ?_
    exact GR_iretL (pc := 18) hC ⟨by decide, by decide⟩ hr dL_herdNameByte_18
  · intro g1 k
    rcases k with _ | _ | _ | _ | k
    · refine Or.inr ⟨13, ⟨[], ⟨0, 10, 13, 28⟩, [], "java/lang/IndexOutOfBoundsException", rfl, rfl, (fun w hw => (List.not_mem_nil hw).elim), by decide, by decide, g_w_mem (List.mem_of_getElem? (i := 861) (by decide +kernel)) (by decide +kernel), rfl⟩, fun q9 => ?_⟩
      refine GR_astore (pc := 13) (L' := [some (gr P 0), some (.int p1), some (.int p2), some (gr P 177), some (.ref q9)]) hC dL_herdNameByte_13 (by decide) rfl rfl ?_
      refine GR_iconst (pc := 15) (v := 1) hC dL_herdNameByte_15 rfl ?_
      exact GR_iretL (pc := 16) hC ⟨by decide, by decide⟩ hr dL_herdNameByte_16
    · exact Or.inl rfl
    · exact Or.inl rfl
    · exact Or.inl rfl
    · exact Or.inl rfl
set_option maxRecDepth 20000 in
set_option maxHeartbeats 2000000 in
theorem kL_pastureNameByte {P : GP} {x : GE} {p1 : Int32} {p2 : Int32} {g : GM} (hF : g_sh P = g_full) (hf : g_on P 179) : KL P yL_pastureNameByte cL_pastureNameByte 5 [(0, 10, 13, 28)] ⟨8, 1, 6, 142⟩ [gr P 0, .int p1, .int p2, gr P 177] g x ((f_X10_pastureNameByte g p1 p2).bind (lw_F x false ltb_0)) := by
  refine KL.ofW (by decide) rfl (Nat.le_of_ble_eq_true rfl) (fun X hC hr hT => ?_)
  change GR P X (g_QL P X) 0 0 _ 0 [some (gr P 0), some (.int p1), some (.int p2), some (gr P 177), none] [] g x
  refine GR_aload_n (pc := 0) hC dL_pastureNameByte_0 rfl rfl ?_
  refine GR_iconst (pc := 1) (v := 0) hC dL_pastureNameByte_1 rfl ?_
  refine GR_aload_n (pc := 2) hC dL_pastureNameByte_2 rfl rfl ?_
  refine GR_iload_n (pc := 3) hC dL_pastureNameByte_3 rfl rfl ?_
  refine GR_iload_n (pc := 4) hC dL_pastureNameByte_4 rfl rfl ?_
  refine GR_callVC (pc := 5) (As := [.int p1, .int p2]) (E0 := f_X10_pastureNameByte g p1 p2) (F := lw_F x false ltb_0) hC hT (k_X10_pastureNameByte (hf.mono (by decide))) MYL_X10_pastureNameByte MIL_X10_pastureNameByte (g_w_mem (List.mem_of_getElem? (i := 947) (by decide +kernel)) (by decide +kernel)) (sh_0 (hf.mono (by decide))) rfl rfl ⟨rfl, rfl⟩ ⟨by decide, by decide⟩ ⟨by decide, by decide⟩ rfl rfl (Nat.le_of_ble_eq_true rfl) dL_pastureNameByte_5 ?_ ?_
  · intro g1 r
    refine GR_i2l (pc := 8) hC dL_pastureNameByte_8 ?_
    refine GR_last (pc := 9) hC hF rfl dL_pastureNameByte_9 ?_
    refine GR_goto (pc := 10) (tgt := 17) hC dL_pastureNameByte_10 (by decide) ?_
    refine GR_iconst (pc := 17) (v := 0) hC dL_pastureNameByte_17 rfl ?_
    exact GR_iretL (pc := 18) hC ⟨by decide, by decide⟩ hr dL_pastureNameByte_18
  · intro g1 k
    rcases k with _ | _ | _ | _ | k
    · refine Or.inr ⟨13, ⟨[], ⟨0, 10, 13, 28⟩, [], "java/lang/IndexOutOfBoundsException", rfl, rfl, (fun w hw => (List.not_mem_nil hw).elim), by decide, by decide, g_w_mem (List.mem_of_getElem? (i := 861) (by decide +kernel)) (by decide +kernel), rfl⟩, fun q9 => ?_⟩
      refine GR_astore (pc := 13) (L' := [some (gr P 0), some (.int p1), some (.int p2), some (gr P 177), some (.ref q9)]) hC dL_pastureNameByte_13 (by decide) rfl rfl ?_
      refine GR_iconst (pc := 15) (v := 1) hC dL_pastureNameByte_15 rfl ?_
      exact GR_iretL (pc := 16) hC ⟨by decide, by decide⟩ hr dL_pastureNameByte_16
    · exact Or.inl rfl
    · exact Or.inl rfl
    · exact Or.inl rfl
    · exact Or.inl rfl
set_option maxRecDepth 20000 in
set_option maxHeartbeats 2000000 in
theorem kL_findHerd {P : GP} {x : GE} {g : GM} (hF : g_sh P = g_full) (hf : g_on P 179) : KL P yL_findHerd cL_findHerd 3 [(0, 8, 11, 52)] ⟨7, 1, 6, 121⟩ [gr P 0, gr P 177] g x ((f_X10_findHerd g).bind (lw_F x false ltb_3)) := by
  refine KL.ofW (by decide) rfl (Nat.le_of_ble_eq_true rfl) (fun X hC hr hT => ?_)
  change GR P X (g_QL P X) 0 0 _ 0 [some (gr P 0), some (gr P 177), none] [] g x
  refine GR_aload_n (pc := 0) hC dL_findHerd_0 rfl rfl ?_
  refine GR_iconst (pc := 1) (v := 0) hC dL_findHerd_1 rfl ?_
  refine GR_aload_n (pc := 2) hC dL_findHerd_2 rfl rfl ?_
  refine GR_callVC (pc := 3) (As := []) (E0 := f_X10_findHerd g) (F := lw_F x false ltb_3) hC hT (k_X10_findHerd (hf.mono (by decide))) MYL_X10_findHerd MIL_X10_findHerd (g_w_mem (List.mem_of_getElem? (i := 955) (by decide +kernel)) (by decide +kernel)) (sh_0 (hf.mono (by decide))) rfl rfl ⟨rfl, rfl⟩ ⟨by decide, by decide⟩ ⟨by decide, by decide⟩ rfl rfl (Nat.le_of_ble_eq_true rfl) dL_findHerd_3 ?_ ?_
  · intro g1 r
    refine GR_i2l (pc := 6) hC dL_findHerd_6 ?_
    refine GR_last (pc := 7) hC hF rfl dL_findHerd_7 ?_
    refine GR_goto (pc := 8) (tgt := 14) hC dL_findHerd_8 (by decide) ?_
    refine GR_iconst (pc := 14) (v := 0) hC dL_findHerd_14 rfl ?_
    exact GR_iretL (pc := 15) hC ⟨by decide, by decide⟩ hr dL_findHerd_15
  · intro g1 k
    rcases k with _ | _ | _ | _ | k
    · exact Or.inl rfl
    · exact Or.inl rfl
    · exact Or.inl rfl
    · refine Or.inr ⟨11, ⟨[], ⟨0, 8, 11, 52⟩, [], "java/util/NoSuchElementException", rfl, rfl, (fun w hw => (List.not_mem_nil hw).elim), by decide, by decide, g_w_mem (List.mem_of_getElem? (i := 954) (by decide +kernel)) (by decide +kernel), rfl⟩, fun q9 => ?_⟩
      refine GR_astore_n (pc := 11) (L' := [some (gr P 0), some (gr P 177), some (.ref q9)]) hC dL_findHerd_11 rfl (by decide) rfl rfl ?_
      refine GR_iconst (pc := 12) (v := 1) hC dL_findHerd_12 rfl ?_
      exact GR_iretL (pc := 13) hC ⟨by decide, by decide⟩ hr dL_findHerd_13
    · exact Or.inl rfl
set_option maxRecDepth 20000 in
set_option maxHeartbeats 2000000 in
theorem kL_canFinish {P : GP} {x : GE} {p1 : Int32} {g : GM} (hF : g_sh P = g_full) (hf : g_on P 179) : KL P yL_canFinish cL_canFinish 4 [(0, 16, 19, 28)] ⟨8, 1, 6, 141⟩ [gr P 0, .int p1, gr P 177] g x ((f_X10_canFinish g p1).bind (lw_F x true ltb_0)) := by
  refine KL.ofW (by decide) rfl (Nat.le_of_ble_eq_true rfl) (fun X hC hr hT => ?_)
  change GR P X (g_QL P X) 0 0 _ 0 [some (gr P 0), some (.int p1), some (gr P 177), none] [] g x
  refine GR_aload_n (pc := 0) hC dL_canFinish_0 rfl rfl ?_
  refine GR_iconst (pc := 1) (v := 0) hC dL_canFinish_1 rfl ?_
  refine GR_aload_n (pc := 2) hC dL_canFinish_2 rfl rfl ?_
  refine GR_iload_n (pc := 3) hC dL_canFinish_3 rfl rfl ?_
  refine GR_callVC (pc := 4) (As := [.int p1]) (E0 := f_X10_canFinish g p1) (F := lw_F x true ltb_0) hC hT (k_X10_canFinish (hf.mono (by decide))) MYL_X10_canFinish MIL_X10_canFinish (g_w_mem (List.mem_of_getElem? (i := 979) (by decide +kernel)) (by decide +kernel)) (sh_0 (hf.mono (by decide))) rfl rfl ⟨rfl, rfl⟩ ⟨by decide, by decide⟩ ⟨by decide, by decide⟩ rfl rfl (Nat.le_of_ble_eq_true rfl) dL_canFinish_4 ?_ ?_
  · intro g1 r
    refine GR.eq (E' := if r = 0 then some (g1, ((vp_updL x.1 0 0, x.2) : GE), (0 : Int32)) else some (g1, ((vp_updL x.1 0 1, x.2) : GE), (0 : Int32))) (by show lw_F x true ltb_0 (g1, .inl r) = _; unfold lw_F lw_v; by_cases h : r = 0 <;> simp [h]) ?_
    refine GR_if_eq (pc := 7) (tgt := 14) hC dL_canFinish_7 (by decide) ?_ ?_
    · refine GR_lconst (pc := 14) (v := 0) hC dL_canFinish_14 rfl ?_
      refine GR_last (pc := 15) hC hF rfl dL_canFinish_15 ?_
      refine GR_goto (pc := 16) (tgt := 22) hC dL_canFinish_16 (by decide) ?_
      refine GR_iconst (pc := 22) (v := 0) hC dL_canFinish_22 rfl ?_
      exact GR_iretL (pc := 23) hC ⟨by decide, by decide⟩ hr dL_canFinish_23
    · refine GR_lconst (pc := 10) (v := 1) hC dL_canFinish_10 rfl ?_
      refine GR_goto (pc := 11) (tgt := 15) hC dL_canFinish_11 (by decide) ?_
      refine GR_last (pc := 15) hC hF rfl dL_canFinish_15 ?_
      refine GR_goto (pc := 16) (tgt := 22) hC dL_canFinish_16 (by decide) ?_
      refine GR_iconst (pc := 22) (v := 0) hC dL_canFinish_22 rfl ?_
      exact GR_iretL (pc := 23) hC ⟨by decide, by decide⟩ hr dL_canFinish_23
  · intro g1 k
    rcases k with _ | _ | _ | _ | k
    · refine Or.inr ⟨19, ⟨[], ⟨0, 16, 19, 28⟩, [], "java/lang/IndexOutOfBoundsException", rfl, rfl, (fun w hw => (List.not_mem_nil hw).elim), by decide, by decide, g_w_mem (List.mem_of_getElem? (i := 861) (by decide +kernel)) (by decide +kernel), rfl⟩, fun q9 => ?_⟩
      refine GR_astore_n (pc := 19) (L' := [some (gr P 0), some (.int p1), some (gr P 177), some (.ref q9)]) hC dL_canFinish_19 rfl (by decide) rfl rfl ?_
      refine GR_iconst (pc := 20) (v := 1) hC dL_canFinish_20 rfl ?_
      exact GR_iretL (pc := 21) hC ⟨by decide, by decide⟩ hr dL_canFinish_21
    · exact Or.inl rfl
    · exact Or.inl rfl
    · exact Or.inl rfl
    · exact Or.inl rfl
set_option maxRecDepth 20000 in
set_option maxHeartbeats 2000000 in
theorem kL_whyNotGranted {P : GP} {x : GE} {p1 : Int32} {p2 : Int32} {p3 : Int32} {g : GM} (hF : g_sh P = g_full) (hf : g_on P 179) : KL P yL_whyNotGranted cL_whyNotGranted 6 [(0, 12, 15, 28), (0, 12, 19, 19)] ⟨8, 1, 6, 143⟩ [gr P 0, .int p1, .int p2, .int p3, gr P 177] g x ((f_X10_whyNotGranted g p1 p2 p3).bind (lw_F x false ltb_01)) := by
  refine KL.ofW (by decide) rfl (Nat.le_of_ble_eq_true rfl) (fun X hC hr hT => ?_)
  change GR P X (g_QL P X) 0 0 _ 0 [some (gr P 0), some (.int p1), some (.int p2), some (.int p3), some (gr P 177), none] [] g x
  refine GR_aload (pc := 0) hC dL_whyNotGranted_0 rfl ?_
  refine GR_iconst (pc := 2) (v := 0) hC dL_whyNotGranted_2 rfl ?_
  refine GR_aload_n (pc := 3) hC dL_whyNotGranted_3 rfl rfl ?_
  refine GR_iload_n (pc := 4) hC dL_whyNotGranted_4 rfl rfl ?_
  refine GR_iload_n (pc := 5) hC dL_whyNotGranted_5 rfl rfl ?_
  refine GR_iload_n (pc := 6) hC dL_whyNotGranted_6 rfl rfl ?_
  refine GR_callVC (pc := 7) (As := [.int p1, .int p2, .int p3]) (E0 := f_X10_whyNotGranted g p1 p2 p3) (F := lw_F x false ltb_01) hC hT (k_X10_whyNotGranted (hf.mono (by decide))) MYL_X10_whyNotGranted MIL_X10_whyNotGranted (g_w_mem (List.mem_of_getElem? (i := 993) (by decide +kernel)) (by decide +kernel)) (sh_0 (hf.mono (by decide))) rfl rfl ⟨rfl, rfl⟩ ⟨by decide, by decide⟩ ⟨by decide, by decide⟩ rfl rfl (Nat.le_of_ble_eq_true rfl) dL_whyNotGranted_7 ?_ ?_
  · intro g1 r
    refine GR_i2l (pc := 10) hC dL_whyNotGranted_10 ?_
    refine GR_last (pc := 11) hC hF rfl dL_whyNotGranted_11 ?_
    refine GR_goto (pc := 12) (tgt := 23) hC dL_whyNotGranted_12 (by decide) ?_
    refine GR_iconst (pc := 23) (v := 0) hC dL_whyNotGranted_23 rfl ?_
    exact GR_iretL (pc := 24) hC ⟨by decide, by decide⟩ hr dL_whyNotGranted_24
  · intro g1 k
    rcases k with _ | _ | _ | _ | k
    · refine Or.inr ⟨15, ⟨[], ⟨0, 12, 15, 28⟩, [⟨0, 12, 19, 19⟩], "java/lang/IndexOutOfBoundsException", rfl, rfl, (fun w hw => (List.not_mem_nil hw).elim), by decide, by decide, g_w_mem (List.mem_of_getElem? (i := 861) (by decide +kernel)) (by decide +kernel), rfl⟩, fun q9 => ?_⟩
      refine GR_astore (pc := 15) (L' := [some (gr P 0), some (.int p1), some (.int p2), some (.int p3), some (gr P 177), some (.ref q9)]) hC dL_whyNotGranted_15 (by decide) rfl rfl ?_
      refine GR_iconst (pc := 17) (v := 1) hC dL_whyNotGranted_17 rfl ?_
      exact GR_iretL (pc := 18) hC ⟨by decide, by decide⟩ hr dL_whyNotGranted_18
    · refine Or.inr ⟨19, ⟨[⟨0, 12, 15, 28⟩], ⟨0, 12, 19, 19⟩, [], "java/lang/IllegalArgumentException", rfl, rfl, (fun w hw => by
        simp only [List.mem_cons, List.mem_singleton, List.not_mem_nil, or_false] at hw
        rcases hw with rfl
        · exact Or.inr ⟨by decide, "java/lang/IndexOutOfBoundsException", g_w_mem (List.mem_of_getElem? (i := 861) (by decide +kernel)) (by decide +kernel), by decide +kernel⟩), by decide, by decide, g_w_mem (List.mem_of_getElem? (i := 828) (by decide +kernel)) (by decide +kernel), rfl⟩, fun q9 => ?_⟩
      refine GR_astore (pc := 19) (L' := [some (gr P 0), some (.int p1), some (.int p2), some (.int p3), some (gr P 177), some (.ref q9)]) hC dL_whyNotGranted_19 (by decide) rfl rfl ?_
      refine GR_iconst (pc := 21) (v := 2) hC dL_whyNotGranted_21 rfl ?_
      exact GR_iretL (pc := 22) hC ⟨by decide, by decide⟩ hr dL_whyNotGranted_22
    · exact Or.inl rfl
    · exact Or.inl rfl
    · exact Or.inl rfl
set_option maxRecDepth 20000 in
set_option maxHeartbeats 2000000 in
theorem kL_largestGrant {P : GP} {x : GE} {p1 : Int32} {p2 : Int32} {g : GM} (hF : g_sh P = g_full) (hf : g_on P 179) : KL P yL_largestGrant cL_largestGrant 5 [(0, 10, 13, 28)] ⟨8, 1, 6, 144⟩ [gr P 0, .int p1, .int p2, gr P 177] g x ((f_X10_largestGrant g p1 p2).bind (lw_F x false ltb_0)) := by
  refine KL.ofW (by decide) rfl (Nat.le_of_ble_eq_true rfl) (fun X hC hr hT => ?_)
  change GR P X (g_QL P X) 0 0 _ 0 [some (gr P 0), some (.int p1), some (.int p2), some (gr P 177), none] [] g x
  refine GR_aload_n (pc := 0) hC dL_largestGrant_0 rfl rfl ?_
  refine GR_iconst (pc := 1) (v := 0) hC dL_largestGrant_1 rfl ?_
  refine GR_aload_n (pc := 2) hC dL_largestGrant_2 rfl rfl ?_
  refine GR_iload_n (pc := 3) hC dL_largestGrant_3 rfl rfl ?_
  refine GR_iload_n (pc := 4) hC dL_largestGrant_4 rfl rfl ?_
  refine GR_callVC (pc := 5) (As := [.int p1, .int p2]) (E0 := f_X10_largestGrant g p1 p2) (F := lw_F x false ltb_0) hC hT (k_X10_largestGrant (hf.mono (by decide))) MYL_X10_largestGrant MIL_X10_largestGrant (g_w_mem (List.mem_of_getElem? (i := 1009) (by decide +kernel)) (by decide +kernel)) (sh_0 (hf.mono (by decide))) rfl rfl ⟨rfl, rfl⟩ ⟨by decide, by decide⟩ ⟨by decide, by decide⟩ rfl rfl (Nat.le_of_ble_eq_true rfl) dL_largestGrant_5 ?_ ?_
  · intro g1 r
    refine GR_i2l (pc := 8) hC dL_largestGrant_8 ?_
    refine GR_last (pc := 9) hC hF rfl dL_largestGrant_9 ?_
    refine GR_goto (pc := 10) (tgt := 17) hC dL_largestGrant_10 (by decide) ?_
    refine GR_iconst (pc := 17) (v := 0) hC dL_largestGrant_17 rfl ?_
    exact GR_iretL (pc := 18) hC ⟨by decide, by decide⟩ hr dL_largestGrant_18
  · intro g1 k
    rcases k with _ | _ | _ | _ | k
    · refine Or.inr ⟨13, ⟨[], ⟨0, 10, 13, 28⟩, [], "java/lang/IndexOutOfBoundsException", rfl, rfl, (fun w hw => (List.not_mem_nil hw).elim), by decide, by decide, g_w_mem (List.mem_of_getElem? (i := 861) (by decide +kernel)) (by decide +kernel), rfl⟩, fun q9 => ?_⟩
      refine GR_astore (pc := 13) (L' := [some (gr P 0), some (.int p1), some (.int p2), some (gr P 177), some (.ref q9)]) hC dL_largestGrant_13 (by decide) rfl rfl ?_
      refine GR_iconst (pc := 15) (v := 1) hC dL_largestGrant_15 rfl ?_
      exact GR_iretL (pc := 16) hC ⟨by decide, by decide⟩ hr dL_largestGrant_16
    · exact Or.inl rfl
    · exact Or.inl rfl
    · exact Or.inl rfl
    · exact Or.inl rfl
set_option maxRecDepth 20000 in
set_option maxHeartbeats 2000000 in
theorem kL_safeCapacity {P : GP} {x : GE} {p1 : Int32} {g : GM} (hF : g_sh P = g_full) (hf : g_on P 179) : KL P yL_safeCapacity cL_safeCapacity 4 [(0, 9, 12, 28)] ⟨8, 1, 6, 141⟩ [gr P 0, .int p1, gr P 177] g x ((f_X10_safeCapacity g p1).bind (lw_F x false ltb_0)) := by
  refine KL.ofW (by decide) rfl (Nat.le_of_ble_eq_true rfl) (fun X hC hr hT => ?_)
  change GR P X (g_QL P X) 0 0 _ 0 [some (gr P 0), some (.int p1), some (gr P 177), none] [] g x
  refine GR_aload_n (pc := 0) hC dL_safeCapacity_0 rfl rfl ?_
  refine GR_iconst (pc := 1) (v := 0) hC dL_safeCapacity_1 rfl ?_
  refine GR_aload_n (pc := 2) hC dL_safeCapacity_2 rfl rfl ?_
  refine GR_iload_n (pc := 3) hC dL_safeCapacity_3 rfl rfl ?_
  refine GR_callVC (pc := 4) (As := [.int p1]) (E0 := f_X10_safeCapacity g p1) (F := lw_F x false ltb_0) hC hT (k_X10_safeCapacity (hf.mono (by decide))) MYL_X10_safeCapacity MIL_X10_safeCapacity (g_w_mem (List.mem_of_getElem? (i := 1027) (by decide +kernel)) (by decide +kernel)) (sh_0 (hf.mono (by decide))) rfl rfl ⟨rfl, rfl⟩ ⟨by decide, by decide⟩ ⟨by decide, by decide⟩ rfl rfl (Nat.le_of_ble_eq_true rfl) dL_safeCapacity_4 ?_ ?_
  · intro g1 r
    refine GR_i2l (pc := 7) hC dL_safeCapacity_7 ?_
    refine GR_last (pc := 8) hC hF rfl dL_safeCapacity_8 ?_
    refine GR_goto (pc := 9) (tgt := 15) hC dL_safeCapacity_9 (by decide) ?_
    refine GR_iconst (pc := 15) (v := 0) hC dL_safeCapacity_15 rfl ?_
    exact GR_iretL (pc := 16) hC ⟨by decide, by decide⟩ hr dL_safeCapacity_16
  · intro g1 k
    rcases k with _ | _ | _ | _ | k
    · refine Or.inr ⟨12, ⟨[], ⟨0, 9, 12, 28⟩, [], "java/lang/IndexOutOfBoundsException", rfl, rfl, (fun w hw => (List.not_mem_nil hw).elim), by decide, by decide, g_w_mem (List.mem_of_getElem? (i := 861) (by decide +kernel)) (by decide +kernel), rfl⟩, fun q9 => ?_⟩
      refine GR_astore_n (pc := 12) (L' := [some (gr P 0), some (.int p1), some (gr P 177), some (.ref q9)]) hC dL_safeCapacity_12 rfl (by decide) rfl rfl ?_
      refine GR_iconst (pc := 13) (v := 1) hC dL_safeCapacity_13 rfl ?_
      exact GR_iretL (pc := 14) hC ⟨by decide, by decide⟩ hr dL_safeCapacity_14
    · exact Or.inl rfl
    · exact Or.inl rfl
    · exact Or.inl rfl
    · exact Or.inl rfl
set_option maxRecDepth 20000 in
set_option maxHeartbeats 2000000 in
theorem kL_isWaiting {P : GP} {x : GE} {p1 : Int32} {g : GM} (hF : g_sh P = g_full) (hf : g_on P 179) : KL P yL_isWaiting cL_isWaiting 4 [(0, 16, 19, 28)] ⟨8, 1, 6, 141⟩ [gr P 0, .int p1, gr P 177] g x ((f_X10_isWaiting g p1).bind (lw_F x true ltb_0)) := by
  refine KL.ofW (by decide) rfl (Nat.le_of_ble_eq_true rfl) (fun X hC hr hT => ?_)
  change GR P X (g_QL P X) 0 0 _ 0 [some (gr P 0), some (.int p1), some (gr P 177), none] [] g x
  refine GR_aload_n (pc := 0) hC dL_isWaiting_0 rfl rfl ?_
  refine GR_iconst (pc := 1) (v := 0) hC dL_isWaiting_1 rfl ?_
  refine GR_aload_n (pc := 2) hC dL_isWaiting_2 rfl rfl ?_
  refine GR_iload_n (pc := 3) hC dL_isWaiting_3 rfl rfl ?_
  refine GR_callVC (pc := 4) (As := [.int p1]) (E0 := f_X10_isWaiting g p1) (F := lw_F x true ltb_0) hC hT (k_X10_isWaiting (hf.mono (by decide))) MYL_X10_isWaiting MIL_X10_isWaiting (g_w_mem (List.mem_of_getElem? (i := 1039) (by decide +kernel)) (by decide +kernel)) (sh_0 (hf.mono (by decide))) rfl rfl ⟨rfl, rfl⟩ ⟨by decide, by decide⟩ ⟨by decide, by decide⟩ rfl rfl (Nat.le_of_ble_eq_true rfl) dL_isWaiting_4 ?_ ?_
  · intro g1 r
    refine GR.eq (E' := if r = 0 then some (g1, ((vp_updL x.1 0 0, x.2) : GE), (0 : Int32)) else some (g1, ((vp_updL x.1 0 1, x.2) : GE), (0 : Int32))) (by show lw_F x true ltb_0 (g1, .inl r) = _; unfold lw_F lw_v; by_cases h : r = 0 <;> simp [h]) ?_
    refine GR_if_eq (pc := 7) (tgt := 14) hC dL_isWaiting_7 (by decide) ?_ ?_
    · refine GR_lconst (pc := 14) (v := 0) hC dL_isWaiting_14 rfl ?_
      refine GR_last (pc := 15) hC hF rfl dL_isWaiting_15 ?_
      refine GR_goto (pc := 16) (tgt := 22) hC dL_isWaiting_16 (by decide) ?_
      refine GR_iconst (pc := 22) (v := 0) hC dL_isWaiting_22 rfl ?_
      exact GR_iretL (pc := 23) hC ⟨by decide, by decide⟩ hr dL_isWaiting_23
    · refine GR_lconst (pc := 10) (v := 1) hC dL_isWaiting_10 rfl ?_
      refine GR_goto (pc := 11) (tgt := 15) hC dL_isWaiting_11 (by decide) ?_
      refine GR_last (pc := 15) hC hF rfl dL_isWaiting_15 ?_
      refine GR_goto (pc := 16) (tgt := 22) hC dL_isWaiting_16 (by decide) ?_
      refine GR_iconst (pc := 22) (v := 0) hC dL_isWaiting_22 rfl ?_
      exact GR_iretL (pc := 23) hC ⟨by decide, by decide⟩ hr dL_isWaiting_23
  · intro g1 k
    rcases k with _ | _ | _ | _ | k
    · refine Or.inr ⟨19, ⟨[], ⟨0, 16, 19, 28⟩, [], "java/lang/IndexOutOfBoundsException", rfl, rfl, (fun w hw => (List.not_mem_nil hw).elim), by decide, by decide, g_w_mem (List.mem_of_getElem? (i := 861) (by decide +kernel)) (by decide +kernel), rfl⟩, fun q9 => ?_⟩
      refine GR_astore_n (pc := 19) (L' := [some (gr P 0), some (.int p1), some (gr P 177), some (.ref q9)]) hC dL_isWaiting_19 rfl (by decide) rfl rfl ?_
      refine GR_iconst (pc := 20) (v := 1) hC dL_isWaiting_20 rfl ?_
      exact GR_iretL (pc := 21) hC ⟨by decide, by decide⟩ hr dL_isWaiting_21
    · exact Or.inl rfl
    · exact Or.inl rfl
    · exact Or.inl rfl
    · exact Or.inl rfl
set_option maxRecDepth 20000 in
set_option maxHeartbeats 2000000 in
theorem kL_requestedPasture {P : GP} {x : GE} {p1 : Int32} {g : GM} (hF : g_sh P = g_full) (hf : g_on P 179) : KL P yL_requestedPasture cL_requestedPasture 4 [(0, 9, 12, 28)] ⟨8, 1, 6, 141⟩ [gr P 0, .int p1, gr P 177] g x ((f_X10_requestedPasture g p1).bind (lw_F x false ltb_0)) := by
  refine KL.ofW (by decide) rfl (Nat.le_of_ble_eq_true rfl) (fun X hC hr hT => ?_)
  change GR P X (g_QL P X) 0 0 _ 0 [some (gr P 0), some (.int p1), some (gr P 177), none] [] g x
  refine GR_aload_n (pc := 0) hC dL_requestedPasture_0 rfl rfl ?_
  refine GR_iconst (pc := 1) (v := 0) hC dL_requestedPasture_1 rfl ?_
  refine GR_aload_n (pc := 2) hC dL_requestedPasture_2 rfl rfl ?_
  refine GR_iload_n (pc := 3) hC dL_requestedPasture_3 rfl rfl ?_
  refine GR_callVC (pc := 4) (As := [.int p1]) (E0 := f_X10_requestedPasture g p1) (F := lw_F x false ltb_0) hC hT (k_X10_requestedPasture (hf.mono (by decide))) MYL_X10_requestedPasture MIL_X10_requestedPasture (g_w_mem (List.mem_of_getElem? (i := 1046) (by decide +kernel)) (by decide +kernel)) (sh_0 (hf.mono (by decide))) rfl rfl ⟨rfl, rfl⟩ ⟨by decide, by decide⟩ ⟨by decide, by decide⟩ rfl rfl (Nat.le_of_ble_eq_true rfl) dL_requestedPasture_4 ?_ ?_
  · intro g1 r
    refine GR_i2l (pc := 7) hC dL_requestedPasture_7 ?_
    refine GR_last (pc := 8) hC hF rfl dL_requestedPasture_8 ?_
    refine GR_goto (pc := 9) (tgt := 15) hC dL_requestedPasture_9 (by decide) ?_
    refine GR_iconst (pc := 15) (v := 0) hC dL_requestedPasture_15 rfl ?_
    exact GR_iretL (pc := 16) hC ⟨by decide, by decide⟩ hr dL_requestedPasture_16
  · intro g1 k
    rcases k with _ | _ | _ | _ | k
    · refine Or.inr ⟨12, ⟨[], ⟨0, 9, 12, 28⟩, [], "java/lang/IndexOutOfBoundsException", rfl, rfl, (fun w hw => (List.not_mem_nil hw).elim), by decide, by decide, g_w_mem (List.mem_of_getElem? (i := 861) (by decide +kernel)) (by decide +kernel), rfl⟩, fun q9 => ?_⟩
      refine GR_astore_n (pc := 12) (L' := [some (gr P 0), some (.int p1), some (gr P 177), some (.ref q9)]) hC dL_requestedPasture_12 rfl (by decide) rfl rfl ?_
      refine GR_iconst (pc := 13) (v := 1) hC dL_requestedPasture_13 rfl ?_
      exact GR_iretL (pc := 14) hC ⟨by decide, by decide⟩ hr dL_requestedPasture_14
    · exact Or.inl rfl
    · exact Or.inl rfl
    · exact Or.inl rfl
    · exact Or.inl rfl
set_option maxRecDepth 20000 in
set_option maxHeartbeats 2000000 in
theorem kL_requestedAmount {P : GP} {x : GE} {p1 : Int32} {g : GM} (hF : g_sh P = g_full) (hf : g_on P 179) : KL P yL_requestedAmount cL_requestedAmount 4 [(0, 9, 12, 28)] ⟨8, 1, 6, 141⟩ [gr P 0, .int p1, gr P 177] g x ((f_X10_requestedAmount g p1).bind (lw_F x false ltb_0)) := by
  refine KL.ofW (by decide) rfl (Nat.le_of_ble_eq_true rfl) (fun X hC hr hT => ?_)
  change GR P X (g_QL P X) 0 0 _ 0 [some (gr P 0), some (.int p1), some (gr P 177), none] [] g x
  refine GR_aload_n (pc := 0) hC dL_requestedAmount_0 rfl rfl ?_
  refine GR_iconst (pc := 1) (v := 0) hC dL_requestedAmount_1 rfl ?_
  refine GR_aload_n (pc := 2) hC dL_requestedAmount_2 rfl rfl ?_
  refine GR_iload_n (pc := 3) hC dL_requestedAmount_3 rfl rfl ?_
  refine GR_callVC (pc := 4) (As := [.int p1]) (E0 := f_X10_requestedAmount g p1) (F := lw_F x false ltb_0) hC hT (k_X10_requestedAmount (hf.mono (by decide))) MYL_X10_requestedAmount MIL_X10_requestedAmount (g_w_mem (List.mem_of_getElem? (i := 1053) (by decide +kernel)) (by decide +kernel)) (sh_0 (hf.mono (by decide))) rfl rfl ⟨rfl, rfl⟩ ⟨by decide, by decide⟩ ⟨by decide, by decide⟩ rfl rfl (Nat.le_of_ble_eq_true rfl) dL_requestedAmount_4 ?_ ?_
  · intro g1 r
    refine GR_i2l (pc := 7) hC dL_requestedAmount_7 ?_
    refine GR_last (pc := 8) hC hF rfl dL_requestedAmount_8 ?_
    refine GR_goto (pc := 9) (tgt := 15) hC dL_requestedAmount_9 (by decide) ?_
    refine GR_iconst (pc := 15) (v := 0) hC dL_requestedAmount_15 rfl ?_
    exact GR_iretL (pc := 16) hC ⟨by decide, by decide⟩ hr dL_requestedAmount_16
  · intro g1 k
    rcases k with _ | _ | _ | _ | k
    · refine Or.inr ⟨12, ⟨[], ⟨0, 9, 12, 28⟩, [], "java/lang/IndexOutOfBoundsException", rfl, rfl, (fun w hw => (List.not_mem_nil hw).elim), by decide, by decide, g_w_mem (List.mem_of_getElem? (i := 861) (by decide +kernel)) (by decide +kernel), rfl⟩, fun q9 => ?_⟩
      refine GR_astore_n (pc := 12) (L' := [some (gr P 0), some (.int p1), some (gr P 177), some (.ref q9)]) hC dL_requestedAmount_12 rfl (by decide) rfl rfl ?_
      refine GR_iconst (pc := 13) (v := 1) hC dL_requestedAmount_13 rfl ?_
      exact GR_iretL (pc := 14) hC ⟨by decide, by decide⟩ hr dL_requestedAmount_14
    · exact Or.inl rfl
    · exact Or.inl rfl
    · exact Or.inl rfl
    · exact Or.inl rfl
set_option maxRecDepth 20000 in
set_option maxHeartbeats 2000000 in
theorem kL_waitsFor {P : GP} {x : GE} {p1 : Int32} {p2 : Int32} {g : GM} (hF : g_sh P = g_full) (hf : g_on P 179) : KL P yL_waitsFor cL_waitsFor 5 [(0, 17, 20, 28)] ⟨8, 1, 6, 142⟩ [gr P 0, .int p1, .int p2, gr P 177] g x ((f_X10_waitsFor g p1 p2).bind (lw_F x true ltb_0)) := by
  refine KL.ofW (by decide) rfl (Nat.le_of_ble_eq_true rfl) (fun X hC hr hT => ?_)
  change GR P X (g_QL P X) 0 0 _ 0 [some (gr P 0), some (.int p1), some (.int p2), some (gr P 177), none] [] g x
  refine GR_aload_n (pc := 0) hC dL_waitsFor_0 rfl rfl ?_
  refine GR_iconst (pc := 1) (v := 0) hC dL_waitsFor_1 rfl ?_
  refine GR_aload_n (pc := 2) hC dL_waitsFor_2 rfl rfl ?_
  refine GR_iload_n (pc := 3) hC dL_waitsFor_3 rfl rfl ?_
  refine GR_iload_n (pc := 4) hC dL_waitsFor_4 rfl rfl ?_
  refine GR_callVC (pc := 5) (As := [.int p1, .int p2]) (E0 := f_X10_waitsFor g p1 p2) (F := lw_F x true ltb_0) hC hT (k_X10_waitsFor (hf.mono (by decide))) MYL_X10_waitsFor MIL_X10_waitsFor (g_w_mem (List.mem_of_getElem? (i := 1060) (by decide +kernel)) (by decide +kernel)) (sh_0 (hf.mono (by decide))) rfl rfl ⟨rfl, rfl⟩ ⟨by decide, by decide⟩ ⟨by decide, by decide⟩ rfl rfl (Nat.le_of_ble_eq_true rfl) dL_waitsFor_5 ?_ ?_
  · intro g1 r
    refine GR.eq (E' := if r = 0 then some (g1, ((vp_updL x.1 0 0, x.2) : GE), (0 : Int32)) else some (g1, ((vp_updL x.1 0 1, x.2) : GE), (0 : Int32))) (by show lw_F x true ltb_0 (g1, .inl r) = _; unfold lw_F lw_v; by_cases h : r = 0 <;> simp [h]) ?_
    refine GR_if_eq (pc := 8) (tgt := 15) hC dL_waitsFor_8 (by decide) ?_ ?_
    · refine GR_lconst (pc := 15) (v := 0) hC dL_waitsFor_15 rfl ?_
      refine GR_last (pc := 16) hC hF rfl dL_waitsFor_16 ?_
      refine GR_goto (pc := 17) (tgt := 24) hC dL_waitsFor_17 (by decide) ?_
      refine GR_iconst (pc := 24) (v := 0) hC dL_waitsFor_24 rfl ?_
      exact GR_iretL (pc := 25) hC ⟨by decide, by decide⟩ hr dL_waitsFor_25
    · refine GR_lconst (pc := 11) (v := 1) hC dL_waitsFor_11 rfl ?_
      refine GR_goto (pc := 12) (tgt := 16) hC dL_waitsFor_12 (by decide) ?_
      refine GR_last (pc := 16) hC hF rfl dL_waitsFor_16 ?_
      refine GR_goto (pc := 17) (tgt := 24) hC dL_waitsFor_17 (by decide) ?_
      refine GR_iconst (pc := 24) (v := 0) hC dL_waitsFor_24 rfl ?_
      exact GR_iretL (pc := 25) hC ⟨by decide, by decide⟩ hr dL_waitsFor_25
  · intro g1 k
    rcases k with _ | _ | _ | _ | k
    · refine Or.inr ⟨20, ⟨[], ⟨0, 17, 20, 28⟩, [], "java/lang/IndexOutOfBoundsException", rfl, rfl, (fun w hw => (List.not_mem_nil hw).elim), by decide, by decide, g_w_mem (List.mem_of_getElem? (i := 861) (by decide +kernel)) (by decide +kernel), rfl⟩, fun q9 => ?_⟩
      refine GR_astore (pc := 20) (L' := [some (gr P 0), some (.int p1), some (.int p2), some (gr P 177), some (.ref q9)]) hC dL_waitsFor_20 (by decide) rfl rfl ?_
      refine GR_iconst (pc := 22) (v := 1) hC dL_waitsFor_22 rfl ?_
      exact GR_iretL (pc := 23) hC ⟨by decide, by decide⟩ hr dL_waitsFor_23
    · exact Or.inl rfl
    · exact Or.inl rfl
    · exact Or.inl rfl
    · exact Or.inl rfl
set_option maxRecDepth 20000 in
set_option maxHeartbeats 2000000 in
theorem kL_isDeadlocked {P : GP} {x : GE} {p1 : Int32} {g : GM} (hF : g_sh P = g_full) (hf : g_on P 179) : KL P yL_isDeadlocked cL_isDeadlocked 4 [(0, 16, 19, 28)] ⟨8, 1, 6, 141⟩ [gr P 0, .int p1, gr P 177] g x ((f_X10_isDeadlocked g p1).bind (lw_F x true ltb_0)) := by
  refine KL.ofW (by decide) rfl (Nat.le_of_ble_eq_true rfl) (fun X hC hr hT => ?_)
  change GR P X (g_QL P X) 0 0 _ 0 [some (gr P 0), some (.int p1), some (gr P 177), none] [] g x
  refine GR_aload_n (pc := 0) hC dL_isDeadlocked_0 rfl rfl ?_
  refine GR_iconst (pc := 1) (v := 0) hC dL_isDeadlocked_1 rfl ?_
  refine GR_aload_n (pc := 2) hC dL_isDeadlocked_2 rfl rfl ?_
  refine GR_iload_n (pc := 3) hC dL_isDeadlocked_3 rfl rfl ?_
  refine GR_callVC (pc := 4) (As := [.int p1]) (E0 := f_X10_isDeadlocked g p1) (F := lw_F x true ltb_0) hC hT (k_X10_isDeadlocked (hf.mono (by decide))) MYL_X10_isDeadlocked MIL_X10_isDeadlocked (g_w_mem (List.mem_of_getElem? (i := 1076) (by decide +kernel)) (by decide +kernel)) (sh_0 (hf.mono (by decide))) rfl rfl ⟨rfl, rfl⟩ ⟨by decide, by decide⟩ ⟨by decide, by decide⟩ rfl rfl (Nat.le_of_ble_eq_true rfl) dL_isDeadlocked_4 ?_ ?_
  · intro g1 r
    refine GR.eq (E' := if r = 0 then some (g1, ((vp_updL x.1 0 0, x.2) : GE), (0 : Int32)) else some (g1, ((vp_updL x.1 0 1, x.2) : GE), (0 : Int32))) (by show lw_F x true ltb_0 (g1, .inl r) = _; unfold lw_F lw_v; by_cases h : r = 0 <;> simp [h]) ?_
    refine GR_if_eq (pc := 7) (tgt := 14) hC dL_isDeadlocked_7 (by decide) ?_ ?_
    · refine GR_lconst (pc := 14) (v := 0) hC dL_isDeadlocked_14 rfl ?_
      refine GR_last (pc := 15) hC hF rfl dL_isDeadlocked_15 ?_
      refine GR_goto (pc := 16) (tgt := 22) hC dL_isDeadlocked_16 (by decide) ?_
      refine GR_iconst (pc := 22) (v := 0) hC dL_isDeadlocked_22 rfl ?_
      exact GR_iretL (pc := 23) hC ⟨by decide, by decide⟩ hr dL_isDeadlocked_23
    · refine GR_lconst (pc := 10) (v := 1) hC dL_isDeadlocked_10 rfl ?_
      refine GR_goto (pc := 11) (tgt := 15) hC dL_isDeadlocked_11 (by decide) ?_
      refine GR_last (pc := 15) hC hF rfl dL_isDeadlocked_15 ?_
      refine GR_goto (pc := 16) (tgt := 22) hC dL_isDeadlocked_16 (by decide) ?_
      refine GR_iconst (pc := 22) (v := 0) hC dL_isDeadlocked_22 rfl ?_
      exact GR_iretL (pc := 23) hC ⟨by decide, by decide⟩ hr dL_isDeadlocked_23
  · intro g1 k
    rcases k with _ | _ | _ | _ | k
    · refine Or.inr ⟨19, ⟨[], ⟨0, 16, 19, 28⟩, [], "java/lang/IndexOutOfBoundsException", rfl, rfl, (fun w hw => (List.not_mem_nil hw).elim), by decide, by decide, g_w_mem (List.mem_of_getElem? (i := 861) (by decide +kernel)) (by decide +kernel), rfl⟩, fun q9 => ?_⟩
      refine GR_astore_n (pc := 19) (L' := [some (gr P 0), some (.int p1), some (gr P 177), some (.ref q9)]) hC dL_isDeadlocked_19 rfl (by decide) rfl rfl ?_
      refine GR_iconst (pc := 20) (v := 1) hC dL_isDeadlocked_20 rfl ?_
      exact GR_iretL (pc := 21) hC ⟨by decide, by decide⟩ hr dL_isDeadlocked_21
    · exact Or.inl rfl
    · exact Or.inl rfl
    · exact Or.inl rfl
    · exact Or.inl rfl
set_option maxRecDepth 20000 in
set_option maxHeartbeats 2000000 in
theorem kL_debt {P : GP} {x : GE} {p1 : Int32} {p2 : Int32} {g : GM} (hF : g_sh P = g_full) (hf : g_on P 179) : KL P yL_debt cL_debt 5 [(0, 10, 13, 28)] ⟨8, 1, 6, 142⟩ [gr P 0, .int p1, .int p2, gr P 177] g x ((f_X10_debt g p1 p2).bind (lw_F x false ltb_0)) := by
  refine KL.ofW (by decide) rfl (Nat.le_of_ble_eq_true rfl) (fun X hC hr hT => ?_)
  change GR P X (g_QL P X) 0 0 _ 0 [some (gr P 0), some (.int p1), some (.int p2), some (gr P 177), none] [] g x
  refine GR_aload_n (pc := 0) hC dL_debt_0 rfl rfl ?_
  refine GR_iconst (pc := 1) (v := 0) hC dL_debt_1 rfl ?_
  refine GR_aload_n (pc := 2) hC dL_debt_2 rfl rfl ?_
  refine GR_iload_n (pc := 3) hC dL_debt_3 rfl rfl ?_
  refine GR_iload_n (pc := 4) hC dL_debt_4 rfl rfl ?_
  refine GR_callVC (pc := 5) (As := [.int p1, .int p2]) (E0 := f_X10_debt g p1 p2) (F := lw_F x false ltb_0) hC hT (k_X10_debt (hf.mono (by decide))) MYL_X10_debt MIL_X10_debt (g_w_mem (List.mem_of_getElem? (i := 1084) (by decide +kernel)) (by decide +kernel)) (sh_0 (hf.mono (by decide))) rfl rfl ⟨rfl, rfl⟩ ⟨by decide, by decide⟩ ⟨by decide, by decide⟩ rfl rfl (Nat.le_of_ble_eq_true rfl) dL_debt_5 ?_ ?_
  · intro g1 r
    refine GR_i2l (pc := 8) hC dL_debt_8 ?_
    refine GR_last (pc := 9) hC hF rfl dL_debt_9 ?_
    refine GR_goto (pc := 10) (tgt := 17) hC dL_debt_10 (by decide) ?_
    refine GR_iconst (pc := 17) (v := 0) hC dL_debt_17 rfl ?_
    exact GR_iretL (pc := 18) hC ⟨by decide, by decide⟩ hr dL_debt_18
  · intro g1 k
    rcases k with _ | _ | _ | _ | k
    · refine Or.inr ⟨13, ⟨[], ⟨0, 10, 13, 28⟩, [], "java/lang/IndexOutOfBoundsException", rfl, rfl, (fun w hw => (List.not_mem_nil hw).elim), by decide, by decide, g_w_mem (List.mem_of_getElem? (i := 861) (by decide +kernel)) (by decide +kernel), rfl⟩, fun q9 => ?_⟩
      refine GR_astore (pc := 13) (L' := [some (gr P 0), some (.int p1), some (.int p2), some (gr P 177), some (.ref q9)]) hC dL_debt_13 (by decide) rfl rfl ?_
      refine GR_iconst (pc := 15) (v := 1) hC dL_debt_15 rfl ?_
      exact GR_iretL (pc := 16) hC ⟨by decide, by decide⟩ hr dL_debt_16
    · exact Or.inl rfl
    · exact Or.inl rfl
    · exact Or.inl rfl
    · exact Or.inl rfl
set_option maxRecDepth 20000 in
set_option maxHeartbeats 2000000 in
theorem kL_totalDebt {P : GP} {x : GE} {p1 : Int32} {g : GM} (hF : g_sh P = g_full) (hf : g_on P 179) : KL P yL_totalDebt cL_totalDebt 4 [(0, 9, 12, 28)] ⟨8, 1, 6, 141⟩ [gr P 0, .int p1, gr P 177] g x ((f_X10_totalDebt g p1).bind (lw_F x false ltb_0)) := by
  refine KL.ofW (by decide) rfl (Nat.le_of_ble_eq_true rfl) (fun X hC hr hT => ?_)
  change GR P X (g_QL P X) 0 0 _ 0 [some (gr P 0), some (.int p1), some (gr P 177), none] [] g x
  refine GR_aload_n (pc := 0) hC dL_totalDebt_0 rfl rfl ?_
  refine GR_iconst (pc := 1) (v := 0) hC dL_totalDebt_1 rfl ?_
  refine GR_aload_n (pc := 2) hC dL_totalDebt_2 rfl rfl ?_
  refine GR_iload_n (pc := 3) hC dL_totalDebt_3 rfl rfl ?_
  refine GR_callVC (pc := 4) (As := [.int p1]) (E0 := f_X10_totalDebt g p1) (F := lw_F x false ltb_0) hC hT (k_X10_totalDebt (hf.mono (by decide))) MYL_X10_totalDebt MIL_X10_totalDebt (g_w_mem (List.mem_of_getElem? (i := 1092) (by decide +kernel)) (by decide +kernel)) (sh_0 (hf.mono (by decide))) rfl rfl ⟨rfl, rfl⟩ ⟨by decide, by decide⟩ ⟨by decide, by decide⟩ rfl rfl (Nat.le_of_ble_eq_true rfl) dL_totalDebt_4 ?_ ?_
  · intro g1 r
    refine GR_i2l (pc := 7) hC dL_totalDebt_7 ?_
    refine GR_last (pc := 8) hC hF rfl dL_totalDebt_8 ?_
    refine GR_goto (pc := 9) (tgt := 15) hC dL_totalDebt_9 (by decide) ?_
    refine GR_iconst (pc := 15) (v := 0) hC dL_totalDebt_15 rfl ?_
    exact GR_iretL (pc := 16) hC ⟨by decide, by decide⟩ hr dL_totalDebt_16
  · intro g1 k
    rcases k with _ | _ | _ | _ | k
    · refine Or.inr ⟨12, ⟨[], ⟨0, 9, 12, 28⟩, [], "java/lang/IndexOutOfBoundsException", rfl, rfl, (fun w hw => (List.not_mem_nil hw).elim), by decide, by decide, g_w_mem (List.mem_of_getElem? (i := 861) (by decide +kernel)) (by decide +kernel), rfl⟩, fun q9 => ?_⟩
      refine GR_astore_n (pc := 12) (L' := [some (gr P 0), some (.int p1), some (gr P 177), some (.ref q9)]) hC dL_totalDebt_12 rfl (by decide) rfl rfl ?_
      refine GR_iconst (pc := 13) (v := 1) hC dL_totalDebt_13 rfl ?_
      exact GR_iretL (pc := 14) hC ⟨by decide, by decide⟩ hr dL_totalDebt_14
    · exact Or.inl rfl
    · exact Or.inl rfl
    · exact Or.inl rfl
    · exact Or.inl rfl
set_option maxRecDepth 20000 in
set_option maxHeartbeats 2000000 in
theorem kL_totalClaims {P : GP} {x : GE} {p1 : Int32} {g : GM} (hF : g_sh P = g_full) (hf : g_on P 179) : KL P yL_totalClaims cL_totalClaims 4 [(0, 9, 12, 28)] ⟨8, 1, 6, 141⟩ [gr P 0, .int p1, gr P 177] g x ((f_X10_totalClaims g p1).bind (lw_F x false ltb_0)) := by
  refine KL.ofW (by decide) rfl (Nat.le_of_ble_eq_true rfl) (fun X hC hr hT => ?_)
  change GR P X (g_QL P X) 0 0 _ 0 [some (gr P 0), some (.int p1), some (gr P 177), none] [] g x
  refine GR_aload_n (pc := 0) hC dL_totalClaims_0 rfl rfl ?_
  refine GR_iconst (pc := 1) (v := 0) hC dL_totalClaims_1 rfl ?_
  refine GR_aload_n (pc := 2) hC dL_totalClaims_2 rfl rfl ?_
  refine GR_iload_n (pc := 3) hC dL_totalClaims_3 rfl rfl ?_
  refine GR_callVC (pc := 4) (As := [.int p1]) (E0 := f_X10_totalClaims g p1) (F := lw_F x false ltb_0) hC hT (k_X10_totalClaims (hf.mono (by decide))) MYL_X10_totalClaims MIL_X10_totalClaims (g_w_mem (List.mem_of_getElem? (i := 1099) (by decide +kernel)) (by decide +kernel)) (sh_0 (hf.mono (by decide))) rfl rfl ⟨rfl, rfl⟩ ⟨by decide, by decide⟩ ⟨by decide, by decide⟩ rfl rfl (Nat.le_of_ble_eq_true rfl) dL_totalClaims_4 ?_ ?_
  · intro g1 r
    refine GR_i2l (pc := 7) hC dL_totalClaims_7 ?_
    refine GR_last (pc := 8) hC hF rfl dL_totalClaims_8 ?_
    refine GR_goto (pc := 9) (tgt := 15) hC dL_totalClaims_9 (by decide) ?_
    refine GR_iconst (pc := 15) (v := 0) hC dL_totalClaims_15 rfl ?_
    exact GR_iretL (pc := 16) hC ⟨by decide, by decide⟩ hr dL_totalClaims_16
  · intro g1 k
    rcases k with _ | _ | _ | _ | k
    · refine Or.inr ⟨12, ⟨[], ⟨0, 9, 12, 28⟩, [], "java/lang/IndexOutOfBoundsException", rfl, rfl, (fun w hw => (List.not_mem_nil hw).elim), by decide, by decide, g_w_mem (List.mem_of_getElem? (i := 861) (by decide +kernel)) (by decide +kernel), rfl⟩, fun q9 => ?_⟩
      refine GR_astore_n (pc := 12) (L' := [some (gr P 0), some (.int p1), some (gr P 177), some (.ref q9)]) hC dL_totalClaims_12 rfl (by decide) rfl rfl ?_
      refine GR_iconst (pc := 13) (v := 1) hC dL_totalClaims_13 rfl ?_
      exact GR_iretL (pc := 14) hC ⟨by decide, by decide⟩ hr dL_totalClaims_14
    · exact Or.inl rfl
    · exact Or.inl rfl
    · exact Or.inl rfl
    · exact Or.inl rfl
set_option maxRecDepth 20000 in
set_option maxHeartbeats 2000000 in
theorem kL_closedCycleLength {P : GP} {x : GE} {p1 : Int32} {p2 : Int32} {g : GM} (hF : g_sh P = g_full) (hf : g_on P 179) : KL P yL_closedCycleLength cL_closedCycleLength 5 [(0, 10, 13, 28)] ⟨8, 1, 6, 142⟩ [gr P 0, .int p1, .int p2, gr P 177] g x ((f_X10_closedCycleLength g p1 p2).bind (lw_F x false ltb_0)) := by
  refine KL.ofW (by decide) rfl (Nat.le_of_ble_eq_true rfl) (fun X hC hr hT => ?_)
  change GR P X (g_QL P X) 0 0 _ 0 [some (gr P 0), some (.int p1), some (.int p2), some (gr P 177), none] [] g x
  refine GR_aload_n (pc := 0) hC dL_closedCycleLength_0 rfl rfl ?_
  refine GR_iconst (pc := 1) (v := 0) hC dL_closedCycleLength_1 rfl ?_
  refine GR_aload_n (pc := 2) hC dL_closedCycleLength_2 rfl rfl ?_
  refine GR_iload_n (pc := 3) hC dL_closedCycleLength_3 rfl rfl ?_
  refine GR_iload_n (pc := 4) hC dL_closedCycleLength_4 rfl rfl ?_
  refine GR_callVC (pc := 5) (As := [.int p1, .int p2]) (E0 := f_X10_closedCycleLength g p1 p2) (F := lw_F x false ltb_0) hC hT (k_X10_closedCycleLength (hf.mono (by decide))) MYL_X10_closedCycleLength MIL_X10_closedCycleLength (g_w_mem (List.mem_of_getElem? (i := 1106) (by decide +kernel)) (by decide +kernel)) (sh_0 (hf.mono (by decide))) rfl rfl ⟨rfl, rfl⟩ ⟨by decide, by decide⟩ ⟨by decide, by decide⟩ rfl rfl (Nat.le_of_ble_eq_true rfl) dL_closedCycleLength_5 ?_ ?_
  · intro g1 r
    refine GR_i2l (pc := 8) hC dL_closedCycleLength_8 ?_
    refine GR_last (pc := 9) hC hF rfl dL_closedCycleLength_9 ?_
    refine GR_goto (pc := 10) (tgt := 17) hC dL_closedCycleLength_10 (by decide) ?_
    refine GR_iconst (pc := 17) (v := 0) hC dL_closedCycleLength_17 rfl ?_
    exact GR_iretL (pc := 18) hC ⟨by decide, by decide⟩ hr dL_closedCycleLength_18
  · intro g1 k
    rcases k with _ | _ | _ | _ | k
    · refine Or.inr ⟨13, ⟨[], ⟨0, 10, 13, 28⟩, [], "java/lang/IndexOutOfBoundsException", rfl, rfl, (fun w hw => (List.not_mem_nil hw).elim), by decide, by decide, g_w_mem (List.mem_of_getElem? (i := 861) (by decide +kernel)) (by decide +kernel), rfl⟩, fun q9 => ?_⟩
      refine GR_astore (pc := 13) (L' := [some (gr P 0), some (.int p1), some (.int p2), some (gr P 177), some (.ref q9)]) hC dL_closedCycleLength_13 (by decide) rfl rfl ?_
      refine GR_iconst (pc := 15) (v := 1) hC dL_closedCycleLength_15 rfl ?_
      exact GR_iretL (pc := 16) hC ⟨by decide, by decide⟩ hr dL_closedCycleLength_16
    · exact Or.inl rfl
    · exact Or.inl rfl
    · exact Or.inl rfl
    · exact Or.inl rfl
set_option maxRecDepth 20000 in
set_option maxHeartbeats 2000000 in
theorem kL_debtDepth {P : GP} {x : GE} {p1 : Int32} {g : GM} (hF : g_sh P = g_full) (hf : g_on P 179) : KL P yL_debtDepth cL_debtDepth 4 [(0, 9, 12, 28)] ⟨8, 1, 6, 141⟩ [gr P 0, .int p1, gr P 177] g x ((f_X10_debtDepth g p1).bind (lw_F x false ltb_0)) := by
  refine KL.ofW (by decide) rfl (Nat.le_of_ble_eq_true rfl) (fun X hC hr hT => ?_)
  change GR P X (g_QL P X) 0 0 _ 0 [some (gr P 0), some (.int p1), some (gr P 177), none] [] g x
  refine GR_aload_n (pc := 0) hC dL_debtDepth_0 rfl rfl ?_
  refine GR_iconst (pc := 1) (v := 0) hC dL_debtDepth_1 rfl ?_
  refine GR_aload_n (pc := 2) hC dL_debtDepth_2 rfl rfl ?_
  refine GR_iload_n (pc := 3) hC dL_debtDepth_3 rfl rfl ?_
  refine GR_callVC (pc := 4) (As := [.int p1]) (E0 := f_X10_debtDepth g p1) (F := lw_F x false ltb_0) hC hT (k_X10_debtDepth (hf.mono (by decide))) MYL_X10_debtDepth MIL_X10_debtDepth (g_w_mem (List.mem_of_getElem? (i := 1121) (by decide +kernel)) (by decide +kernel)) (sh_0 (hf.mono (by decide))) rfl rfl ⟨rfl, rfl⟩ ⟨by decide, by decide⟩ ⟨by decide, by decide⟩ rfl rfl (Nat.le_of_ble_eq_true rfl) dL_debtDepth_4 ?_ ?_
  · intro g1 r
    refine GR_i2l (pc := 7) hC dL_debtDepth_7 ?_
    refine GR_last (pc := 8) hC hF rfl dL_debtDepth_8 ?_
    refine GR_goto (pc := 9) (tgt := 15) hC dL_debtDepth_9 (by decide) ?_
    refine GR_iconst (pc := 15) (v := 0) hC dL_debtDepth_15 rfl ?_
    exact GR_iretL (pc := 16) hC ⟨by decide, by decide⟩ hr dL_debtDepth_16
  · intro g1 k
    rcases k with _ | _ | _ | _ | k
    · refine Or.inr ⟨12, ⟨[], ⟨0, 9, 12, 28⟩, [], "java/lang/IndexOutOfBoundsException", rfl, rfl, (fun w hw => (List.not_mem_nil hw).elim), by decide, by decide, g_w_mem (List.mem_of_getElem? (i := 861) (by decide +kernel)) (by decide +kernel), rfl⟩, fun q9 => ?_⟩
      refine GR_astore_n (pc := 12) (L' := [some (gr P 0), some (.int p1), some (gr P 177), some (.ref q9)]) hC dL_debtDepth_12 rfl (by decide) rfl rfl ?_
      refine GR_iconst (pc := 13) (v := 1) hC dL_debtDepth_13 rfl ?_
      exact GR_iretL (pc := 14) hC ⟨by decide, by decide⟩ hr dL_debtDepth_14
    · exact Or.inl rfl
    · exact Or.inl rfl
    · exact Or.inl rfl
    · exact Or.inl rfl
set_option maxRecDepth 20000 in
set_option maxHeartbeats 2000000 in
theorem kL_settlementOrder {P : GP} {x : GE} {p1 : Int32} {g : GM} (hF : g_sh P = g_full) (hf : g_on P 179) : KL P yL_settlementOrder cL_settlementOrder 4 [(0, 9, 12, 28)] ⟨8, 1, 6, 141⟩ [gr P 0, .int p1, gr P 177] g x ((f_X10_settlementOrder g p1).bind (lw_F x false ltb_0)) := by
  refine KL.ofW (by decide) rfl (Nat.le_of_ble_eq_true rfl) (fun X hC hr hT => ?_)
  change GR P X (g_QL P X) 0 0 _ 0 [some (gr P 0), some (.int p1), some (gr P 177), none] [] g x
  refine GR_aload_n (pc := 0) hC dL_settlementOrder_0 rfl rfl ?_
  refine GR_iconst (pc := 1) (v := 0) hC dL_settlementOrder_1 rfl ?_
  refine GR_aload_n (pc := 2) hC dL_settlementOrder_2 rfl rfl ?_
  refine GR_iload_n (pc := 3) hC dL_settlementOrder_3 rfl rfl ?_
  refine GR_callVC (pc := 4) (As := [.int p1]) (E0 := f_X10_settlementOrder g p1) (F := lw_F x false ltb_0) hC hT (k_X10_settlementOrder (hf.mono (by decide))) MYL_X10_settlementOrder MIL_X10_settlementOrder (g_w_mem (List.mem_of_getElem? (i := 1132) (by decide +kernel)) (by decide +kernel)) (sh_0 (hf.mono (by decide))) rfl rfl ⟨rfl, rfl⟩ ⟨by decide, by decide⟩ ⟨by decide, by decide⟩ rfl rfl (Nat.le_of_ble_eq_true rfl) dL_settlementOrder_4 ?_ ?_
  · intro g1 r
    refine GR_i2l (pc := 7) hC dL_settlementOrder_7 ?_
    refine GR_last (pc := 8) hC hF rfl dL_settlementOrder_8 ?_
    refine GR_goto (pc := 9) (tgt := 15) hC dL_settlementOrder_9 (by decide) ?_
    refine GR_iconst (pc := 15) (v := 0) hC dL_settlementOrder_15 rfl ?_
    exact GR_iretL (pc := 16) hC ⟨by decide, by decide⟩ hr dL_settlementOrder_16
  · intro g1 k
    rcases k with _ | _ | _ | _ | k
    · refine Or.inr ⟨12, ⟨[], ⟨0, 9, 12, 28⟩, [], "java/lang/IndexOutOfBoundsException", rfl, rfl, (fun w hw => (List.not_mem_nil hw).elim), by decide, by decide, g_w_mem (List.mem_of_getElem? (i := 861) (by decide +kernel)) (by decide +kernel), rfl⟩, fun q9 => ?_⟩
      refine GR_astore_n (pc := 12) (L' := [some (gr P 0), some (.int p1), some (gr P 177), some (.ref q9)]) hC dL_settlementOrder_12 rfl (by decide) rfl rfl ?_
      refine GR_iconst (pc := 13) (v := 1) hC dL_settlementOrder_13 rfl ?_
      exact GR_iretL (pc := 14) hC ⟨by decide, by decide⟩ hr dL_settlementOrder_14
    · exact Or.inl rfl
    · exact Or.inl rfl
    · exact Or.inl rfl
    · exact Or.inl rfl
set_option maxRecDepth 20000 in
set_option maxHeartbeats 2000000 in
theorem kL_transitiveClaims {P : GP} {x : GE} {p1 : Int32} {g : GM} (hF : g_sh P = g_full) (hf : g_on P 179) : KL P yL_transitiveClaims cL_transitiveClaims 4 [(0, 9, 12, 28)] ⟨8, 1, 6, 142⟩ [gr P 0, .int p1, gr P 177] g x ((f_X10_transitiveClaims g p1).bind (lw_F x false ltb_0)) := by
  refine KL.ofW (by decide) rfl (Nat.le_of_ble_eq_true rfl) (fun X hC hr hT => ?_)
  change GR P X (g_QL P X) 0 0 _ 0 [some (gr P 0), some (.int p1), some (gr P 177), none] [] g x
  refine GR_aload_n (pc := 0) hC dL_transitiveClaims_0 rfl rfl ?_
  refine GR_iconst (pc := 1) (v := 0) hC dL_transitiveClaims_1 rfl ?_
  refine GR_aload_n (pc := 2) hC dL_transitiveClaims_2 rfl rfl ?_
  refine GR_iload_n (pc := 3) hC dL_transitiveClaims_3 rfl rfl ?_
  refine GR_callVC (pc := 4) (As := [.int p1]) (E0 := f_X10_transitiveClaims g p1) (F := lw_F x false ltb_0) hC hT (k_X10_transitiveClaims (hf.mono (by decide))) MYL_X10_transitiveClaims MIL_X10_transitiveClaims (g_w_mem (List.mem_of_getElem? (i := 1147) (by decide +kernel)) (by decide +kernel)) (sh_0 (hf.mono (by decide))) rfl rfl ⟨rfl, rfl⟩ ⟨by decide, by decide⟩ ⟨by decide, by decide⟩ rfl rfl (Nat.le_of_ble_eq_true rfl) dL_transitiveClaims_4 ?_ ?_
  · intro g1 r
    refine GR_i2l (pc := 7) hC dL_transitiveClaims_7 ?_
    refine GR_last (pc := 8) hC hF rfl dL_transitiveClaims_8 ?_
    refine GR_goto (pc := 9) (tgt := 15) hC dL_transitiveClaims_9 (by decide) ?_
    refine GR_iconst (pc := 15) (v := 0) hC dL_transitiveClaims_15 rfl ?_
    exact GR_iretL (pc := 16) hC ⟨by decide, by decide⟩ hr dL_transitiveClaims_16
  · intro g1 k
    rcases k with _ | _ | _ | _ | k
    · refine Or.inr ⟨12, ⟨[], ⟨0, 9, 12, 28⟩, [], "java/lang/IndexOutOfBoundsException", rfl, rfl, (fun w hw => (List.not_mem_nil hw).elim), by decide, by decide, g_w_mem (List.mem_of_getElem? (i := 861) (by decide +kernel)) (by decide +kernel), rfl⟩, fun q9 => ?_⟩
      refine GR_astore_n (pc := 12) (L' := [some (gr P 0), some (.int p1), some (gr P 177), some (.ref q9)]) hC dL_transitiveClaims_12 rfl (by decide) rfl rfl ?_
      refine GR_iconst (pc := 13) (v := 1) hC dL_transitiveClaims_13 rfl ?_
      exact GR_iretL (pc := 14) hC ⟨by decide, by decide⟩ hr dL_transitiveClaims_14
    · exact Or.inl rfl
    · exact Or.inl rfl
    · exact Or.inl rfl
    · exact Or.inl rfl
set_option maxRecDepth 20000 in
set_option maxHeartbeats 2000000 in
theorem kL_request {P : GP} {x : GE} {p1 : Int32} {p2 : Int32} {p3 : Int32} {g : GM} (hF : g_sh P = g_full) (hf : g_on P 179) : KL P yL_request cL_request 6 [(0, 19, 22, 28), (0, 19, 26, 19), (0, 19, 30, 13)] ⟨8, 1, 6, 146⟩ [gr P 0, .int p1, .int p2, .int p3, gr P 177] g x ((f_X10_request g p1 p2 p3).bind (lw_F x true ltb_012)) := by
  refine KL.ofW (by decide) rfl (Nat.le_of_ble_eq_true rfl) (fun X hC hr hT => ?_)
  change GR P X (g_QL P X) 0 0 _ 0 [some (gr P 0), some (.int p1), some (.int p2), some (.int p3), some (gr P 177), none] [] g x
  refine GR_aload (pc := 0) hC dL_request_0 rfl ?_
  refine GR_iconst (pc := 2) (v := 0) hC dL_request_2 rfl ?_
  refine GR_aload_n (pc := 3) hC dL_request_3 rfl rfl ?_
  refine GR_iload_n (pc := 4) hC dL_request_4 rfl rfl ?_
  refine GR_iload_n (pc := 5) hC dL_request_5 rfl rfl ?_
  refine GR_iload_n (pc := 6) hC dL_request_6 rfl rfl ?_
  refine GR_callVC (pc := 7) (As := [.int p1, .int p2, .int p3]) (E0 := f_X10_request g p1 p2 p3) (F := lw_F x true ltb_012) hC hT (k_X10_request (hf.mono (by decide))) MYL_X10_request MIL_X10_request (g_w_mem (List.mem_of_getElem? (i := 1163) (by decide +kernel)) (by decide +kernel)) (sh_0 (hf.mono (by decide))) rfl rfl ⟨rfl, rfl⟩ ⟨by decide, by decide⟩ ⟨by decide, by decide⟩ rfl rfl (Nat.le_of_ble_eq_true rfl) dL_request_7 ?_ ?_
  · intro g1 r
    refine GR.eq (E' := if r = 0 then some (g1, ((vp_updL x.1 0 0, x.2) : GE), (0 : Int32)) else some (g1, ((vp_updL x.1 0 1, x.2) : GE), (0 : Int32))) (by show lw_F x true ltb_012 (g1, .inl r) = _; unfold lw_F lw_v; by_cases h : r = 0 <;> simp [h]) ?_
    refine GR_if_eq (pc := 10) (tgt := 17) hC dL_request_10 (by decide) ?_ ?_
    · refine GR_lconst (pc := 17) (v := 0) hC dL_request_17 rfl ?_
      refine GR_last (pc := 18) hC hF rfl dL_request_18 ?_
      refine GR_goto (pc := 19) (tgt := 34) hC dL_request_19 (by decide) ?_
      refine GR_iconst (pc := 34) (v := 0) hC dL_request_34 rfl ?_
      exact GR_iretL (pc := 35) hC ⟨by decide, by decide⟩ hr dL_request_35
    · refine GR_lconst (pc := 13) (v := 1) hC dL_request_13 rfl ?_
      refine GR_goto (pc := 14) (tgt := 18) hC dL_request_14 (by decide) ?_
      refine GR_last (pc := 18) hC hF rfl dL_request_18 ?_
      refine GR_goto (pc := 19) (tgt := 34) hC dL_request_19 (by decide) ?_
      refine GR_iconst (pc := 34) (v := 0) hC dL_request_34 rfl ?_
      exact GR_iretL (pc := 35) hC ⟨by decide, by decide⟩ hr dL_request_35
  · intro g1 k
    rcases k with _ | _ | _ | _ | k
    · refine Or.inr ⟨22, ⟨[], ⟨0, 19, 22, 28⟩, [⟨0, 19, 26, 19⟩, ⟨0, 19, 30, 13⟩], "java/lang/IndexOutOfBoundsException", rfl, rfl, (fun w hw => (List.not_mem_nil hw).elim), by decide, by decide, g_w_mem (List.mem_of_getElem? (i := 861) (by decide +kernel)) (by decide +kernel), rfl⟩, fun q9 => ?_⟩
      refine GR_astore (pc := 22) (L' := [some (gr P 0), some (.int p1), some (.int p2), some (.int p3), some (gr P 177), some (.ref q9)]) hC dL_request_22 (by decide) rfl rfl ?_
      refine GR_iconst (pc := 24) (v := 1) hC dL_request_24 rfl ?_
      exact GR_iretL (pc := 25) hC ⟨by decide, by decide⟩ hr dL_request_25
    · refine Or.inr ⟨26, ⟨[⟨0, 19, 22, 28⟩], ⟨0, 19, 26, 19⟩, [⟨0, 19, 30, 13⟩], "java/lang/IllegalArgumentException", rfl, rfl, (fun w hw => by
        simp only [List.mem_cons, List.mem_singleton, List.not_mem_nil, or_false] at hw
        rcases hw with rfl
        · exact Or.inr ⟨by decide, "java/lang/IndexOutOfBoundsException", g_w_mem (List.mem_of_getElem? (i := 861) (by decide +kernel)) (by decide +kernel), by decide +kernel⟩), by decide, by decide, g_w_mem (List.mem_of_getElem? (i := 828) (by decide +kernel)) (by decide +kernel), rfl⟩, fun q9 => ?_⟩
      refine GR_astore (pc := 26) (L' := [some (gr P 0), some (.int p1), some (.int p2), some (.int p3), some (gr P 177), some (.ref q9)]) hC dL_request_26 (by decide) rfl rfl ?_
      refine GR_iconst (pc := 28) (v := 2) hC dL_request_28 rfl ?_
      exact GR_iretL (pc := 29) hC ⟨by decide, by decide⟩ hr dL_request_29
    · refine Or.inr ⟨30, ⟨[⟨0, 19, 22, 28⟩, ⟨0, 19, 26, 19⟩], ⟨0, 19, 30, 13⟩, [], "java/lang/IllegalStateException", rfl, rfl, (fun w hw => by
        simp only [List.mem_cons, List.mem_singleton, List.not_mem_nil, or_false] at hw
        rcases hw with rfl | rfl
        · exact Or.inr ⟨by decide, "java/lang/IndexOutOfBoundsException", g_w_mem (List.mem_of_getElem? (i := 861) (by decide +kernel)) (by decide +kernel), by decide +kernel⟩
        · exact Or.inr ⟨by decide, "java/lang/IllegalArgumentException", g_w_mem (List.mem_of_getElem? (i := 828) (by decide +kernel)) (by decide +kernel), by decide +kernel⟩), by decide, by decide, g_w_mem (List.mem_of_getElem? (i := 748) (by decide +kernel)) (by decide +kernel), rfl⟩, fun q9 => ?_⟩
      refine GR_astore (pc := 30) (L' := [some (gr P 0), some (.int p1), some (.int p2), some (.int p3), some (gr P 177), some (.ref q9)]) hC dL_request_30 (by decide) rfl rfl ?_
      refine GR_iconst (pc := 32) (v := 3) hC dL_request_32 rfl ?_
      exact GR_iretL (pc := 33) hC ⟨by decide, by decide⟩ hr dL_request_33
    · exact Or.inl rfl
    · exact Or.inl rfl
set_option maxRecDepth 20000 in
set_option maxHeartbeats 2000000 in
theorem kL_release {P : GP} {x : GE} {p1 : Int32} {p2 : Int32} {p3 : Int32} {g : GM} (hF : g_sh P = g_full) (hf : g_on P 179) : KL P yL_release cL_release 6 [(0, 12, 15, 28), (0, 12, 19, 19), (0, 12, 23, 13)] ⟨8, 1, 6, 150⟩ [gr P 0, .int p1, .int p2, .int p3, gr P 177] g x ((f_X10_release g p1 p2 p3).bind (lw_F x false ltb_012)) := by
  refine KL.ofW (by decide) rfl (Nat.le_of_ble_eq_true rfl) (fun X hC hr hT => ?_)
  change GR P X (g_QL P X) 0 0 _ 0 [some (gr P 0), some (.int p1), some (.int p2), some (.int p3), some (gr P 177), none] [] g x
  refine GR_aload (pc := 0) hC dL_release_0 rfl ?_
  refine GR_iconst (pc := 2) (v := 0) hC dL_release_2 rfl ?_
  refine GR_aload_n (pc := 3) hC dL_release_3 rfl rfl ?_
  refine GR_iload_n (pc := 4) hC dL_release_4 rfl rfl ?_
  refine GR_iload_n (pc := 5) hC dL_release_5 rfl rfl ?_
  refine GR_iload_n (pc := 6) hC dL_release_6 rfl rfl ?_
  refine GR_callVC (pc := 7) (As := [.int p1, .int p2, .int p3]) (E0 := f_X10_release g p1 p2 p3) (F := lw_F x false ltb_012) hC hT (k_X10_release (hf.mono (by decide))) MYL_X10_release MIL_X10_release (g_w_mem (List.mem_of_getElem? (i := 1190) (by decide +kernel)) (by decide +kernel)) (sh_0 (hf.mono (by decide))) rfl rfl ⟨rfl, rfl⟩ ⟨by decide, by decide⟩ ⟨by decide, by decide⟩ rfl rfl (Nat.le_of_ble_eq_true rfl) dL_release_7 ?_ ?_
  · intro g1 r
    refine GR_i2l (pc := 10) hC dL_release_10 ?_
    refine GR_last (pc := 11) hC hF rfl dL_release_11 ?_
    refine GR_goto (pc := 12) (tgt := 27) hC dL_release_12 (by decide) ?_
    refine GR_iconst (pc := 27) (v := 0) hC dL_release_27 rfl ?_
    exact GR_iretL (pc := 28) hC ⟨by decide, by decide⟩ hr dL_release_28
  · intro g1 k
    rcases k with _ | _ | _ | _ | k
    · refine Or.inr ⟨15, ⟨[], ⟨0, 12, 15, 28⟩, [⟨0, 12, 19, 19⟩, ⟨0, 12, 23, 13⟩], "java/lang/IndexOutOfBoundsException", rfl, rfl, (fun w hw => (List.not_mem_nil hw).elim), by decide, by decide, g_w_mem (List.mem_of_getElem? (i := 861) (by decide +kernel)) (by decide +kernel), rfl⟩, fun q9 => ?_⟩
      refine GR_astore (pc := 15) (L' := [some (gr P 0), some (.int p1), some (.int p2), some (.int p3), some (gr P 177), some (.ref q9)]) hC dL_release_15 (by decide) rfl rfl ?_
      refine GR_iconst (pc := 17) (v := 1) hC dL_release_17 rfl ?_
      exact GR_iretL (pc := 18) hC ⟨by decide, by decide⟩ hr dL_release_18
    · refine Or.inr ⟨19, ⟨[⟨0, 12, 15, 28⟩], ⟨0, 12, 19, 19⟩, [⟨0, 12, 23, 13⟩], "java/lang/IllegalArgumentException", rfl, rfl, (fun w hw => by
        simp only [List.mem_cons, List.mem_singleton, List.not_mem_nil, or_false] at hw
        rcases hw with rfl
        · exact Or.inr ⟨by decide, "java/lang/IndexOutOfBoundsException", g_w_mem (List.mem_of_getElem? (i := 861) (by decide +kernel)) (by decide +kernel), by decide +kernel⟩), by decide, by decide, g_w_mem (List.mem_of_getElem? (i := 828) (by decide +kernel)) (by decide +kernel), rfl⟩, fun q9 => ?_⟩
      refine GR_astore (pc := 19) (L' := [some (gr P 0), some (.int p1), some (.int p2), some (.int p3), some (gr P 177), some (.ref q9)]) hC dL_release_19 (by decide) rfl rfl ?_
      refine GR_iconst (pc := 21) (v := 2) hC dL_release_21 rfl ?_
      exact GR_iretL (pc := 22) hC ⟨by decide, by decide⟩ hr dL_release_22
    · refine Or.inr ⟨23, ⟨[⟨0, 12, 15, 28⟩, ⟨0, 12, 19, 19⟩], ⟨0, 12, 23, 13⟩, [], "java/lang/IllegalStateException", rfl, rfl, (fun w hw => by
        simp only [List.mem_cons, List.mem_singleton, List.not_mem_nil, or_false] at hw
        rcases hw with rfl | rfl
        · exact Or.inr ⟨by decide, "java/lang/IndexOutOfBoundsException", g_w_mem (List.mem_of_getElem? (i := 861) (by decide +kernel)) (by decide +kernel), by decide +kernel⟩
        · exact Or.inr ⟨by decide, "java/lang/IllegalArgumentException", g_w_mem (List.mem_of_getElem? (i := 828) (by decide +kernel)) (by decide +kernel), by decide +kernel⟩), by decide, by decide, g_w_mem (List.mem_of_getElem? (i := 748) (by decide +kernel)) (by decide +kernel), rfl⟩, fun q9 => ?_⟩
      refine GR_astore (pc := 23) (L' := [some (gr P 0), some (.int p1), some (.int p2), some (.int p3), some (gr P 177), some (.ref q9)]) hC dL_release_23 (by decide) rfl rfl ?_
      refine GR_iconst (pc := 25) (v := 3) hC dL_release_25 rfl ?_
      exact GR_iretL (pc := 26) hC ⟨by decide, by decide⟩ hr dL_release_26
    · exact Or.inl rfl
    · exact Or.inl rfl
set_option maxRecDepth 20000 in
set_option maxHeartbeats 2000000 in
theorem kL_finish {P : GP} {x : GE} {p1 : Int32} {g : GM} (hF : g_sh P = g_full) (hf : g_on P 179) : KL P yL_finish cL_finish 4 [(0, 9, 12, 28)] ⟨8, 1, 6, 147⟩ [gr P 0, .int p1, gr P 177] g x ((f_X10_finish g p1).bind (lw_F x false ltb_0)) := by
  refine KL.ofW (by decide) rfl (Nat.le_of_ble_eq_true rfl) (fun X hC hr hT => ?_)
  change GR P X (g_QL P X) 0 0 _ 0 [some (gr P 0), some (.int p1), some (gr P 177), none] [] g x
  refine GR_aload_n (pc := 0) hC dL_finish_0 rfl rfl ?_
  refine GR_iconst (pc := 1) (v := 0) hC dL_finish_1 rfl ?_
  refine GR_aload_n (pc := 2) hC dL_finish_2 rfl rfl ?_
  refine GR_iload_n (pc := 3) hC dL_finish_3 rfl rfl ?_
  refine GR_callVC (pc := 4) (As := [.int p1]) (E0 := f_X10_finish g p1) (F := lw_F x false ltb_0) hC hT (k_X10_finish (hf.mono (by decide))) MYL_X10_finish MIL_X10_finish (g_w_mem (List.mem_of_getElem? (i := 1205) (by decide +kernel)) (by decide +kernel)) (sh_0 (hf.mono (by decide))) rfl rfl ⟨rfl, rfl⟩ ⟨by decide, by decide⟩ ⟨by decide, by decide⟩ rfl rfl (Nat.le_of_ble_eq_true rfl) dL_finish_4 ?_ ?_
  · intro g1 r
    refine GR_i2l (pc := 7) hC dL_finish_7 ?_
    refine GR_last (pc := 8) hC hF rfl dL_finish_8 ?_
    refine GR_goto (pc := 9) (tgt := 15) hC dL_finish_9 (by decide) ?_
    refine GR_iconst (pc := 15) (v := 0) hC dL_finish_15 rfl ?_
    exact GR_iretL (pc := 16) hC ⟨by decide, by decide⟩ hr dL_finish_16
  · intro g1 k
    rcases k with _ | _ | _ | _ | k
    · refine Or.inr ⟨12, ⟨[], ⟨0, 9, 12, 28⟩, [], "java/lang/IndexOutOfBoundsException", rfl, rfl, (fun w hw => (List.not_mem_nil hw).elim), by decide, by decide, g_w_mem (List.mem_of_getElem? (i := 861) (by decide +kernel)) (by decide +kernel), rfl⟩, fun q9 => ?_⟩
      refine GR_astore_n (pc := 12) (L' := [some (gr P 0), some (.int p1), some (gr P 177), some (.ref q9)]) hC dL_finish_12 rfl (by decide) rfl rfl ?_
      refine GR_iconst (pc := 13) (v := 1) hC dL_finish_13 rfl ?_
      exact GR_iretL (pc := 14) hC ⟨by decide, by decide⟩ hr dL_finish_14
    · exact Or.inl rfl
    · exact Or.inl rfl
    · exact Or.inl rfl
    · exact Or.inl rfl
set_option maxRecDepth 20000 in
set_option maxHeartbeats 2000000 in
theorem kL_cancel {P : GP} {x : GE} {p1 : Int32} {g : GM} (hF : g_sh P = g_full) (hf : g_on P 179) : KL P yL_cancel cL_cancel 4 [(0, 9, 12, 28), (0, 9, 15, 13)] ⟨8, 1, 6, 146⟩ [gr P 0, .int p1, gr P 177] g x ((f_X10_cancel g p1).bind (lw_F x false ltb_02)) := by
  refine KL.ofW (by decide) rfl (Nat.le_of_ble_eq_true rfl) (fun X hC hr hT => ?_)
  change GR P X (g_QL P X) 0 0 _ 0 [some (gr P 0), some (.int p1), some (gr P 177), none] [] g x
  refine GR_aload_n (pc := 0) hC dL_cancel_0 rfl rfl ?_
  refine GR_iconst (pc := 1) (v := 0) hC dL_cancel_1 rfl ?_
  refine GR_aload_n (pc := 2) hC dL_cancel_2 rfl rfl ?_
  refine GR_iload_n (pc := 3) hC dL_cancel_3 rfl rfl ?_
  refine GR_callVC (pc := 4) (As := [.int p1]) (E0 := f_X10_cancel g p1) (F := lw_F x false ltb_02) hC hT (k_X10_cancel (hf.mono (by decide))) MYL_X10_cancel MIL_X10_cancel (g_w_mem (List.mem_of_getElem? (i := 1213) (by decide +kernel)) (by decide +kernel)) (sh_0 (hf.mono (by decide))) rfl rfl ⟨rfl, rfl⟩ ⟨by decide, by decide⟩ ⟨by decide, by decide⟩ rfl rfl (Nat.le_of_ble_eq_true rfl) dL_cancel_4 ?_ ?_
  · intro g1 r
    refine GR_i2l (pc := 7) hC dL_cancel_7 ?_
    refine GR_last (pc := 8) hC hF rfl dL_cancel_8 ?_
    refine GR_goto (pc := 9) (tgt := 18) hC dL_cancel_9 (by decide) ?_
    refine GR_iconst (pc := 18) (v := 0) hC dL_cancel_18 rfl ?_
    exact GR_iretL (pc := 19) hC ⟨by decide, by decide⟩ hr dL_cancel_19
  · intro g1 k
    rcases k with _ | _ | _ | _ | k
    · refine Or.inr ⟨12, ⟨[], ⟨0, 9, 12, 28⟩, [⟨0, 9, 15, 13⟩], "java/lang/IndexOutOfBoundsException", rfl, rfl, (fun w hw => (List.not_mem_nil hw).elim), by decide, by decide, g_w_mem (List.mem_of_getElem? (i := 861) (by decide +kernel)) (by decide +kernel), rfl⟩, fun q9 => ?_⟩
      refine GR_astore_n (pc := 12) (L' := [some (gr P 0), some (.int p1), some (gr P 177), some (.ref q9)]) hC dL_cancel_12 rfl (by decide) rfl rfl ?_
      refine GR_iconst (pc := 13) (v := 1) hC dL_cancel_13 rfl ?_
      exact GR_iretL (pc := 14) hC ⟨by decide, by decide⟩ hr dL_cancel_14
    · exact Or.inl rfl
    · refine Or.inr ⟨15, ⟨[⟨0, 9, 12, 28⟩], ⟨0, 9, 15, 13⟩, [], "java/lang/IllegalStateException", rfl, rfl, (fun w hw => by
        simp only [List.mem_cons, List.mem_singleton, List.not_mem_nil, or_false] at hw
        rcases hw with rfl
        · exact Or.inr ⟨by decide, "java/lang/IndexOutOfBoundsException", g_w_mem (List.mem_of_getElem? (i := 861) (by decide +kernel)) (by decide +kernel), by decide +kernel⟩), by decide, by decide, g_w_mem (List.mem_of_getElem? (i := 748) (by decide +kernel)) (by decide +kernel), rfl⟩, fun q9 => ?_⟩
      refine GR_astore_n (pc := 15) (L' := [some (gr P 0), some (.int p1), some (gr P 177), some (.ref q9)]) hC dL_cancel_15 rfl (by decide) rfl rfl ?_
      refine GR_iconst (pc := 16) (v := 2) hC dL_cancel_16 rfl ?_
      exact GR_iretL (pc := 17) hC ⟨by decide, by decide⟩ hr dL_cancel_17
    · exact Or.inl rfl
    · exact Or.inl rfl
set_option maxRecDepth 20000 in
set_option maxHeartbeats 2000000 in
theorem kL_setCapacity {P : GP} {x : GE} {p1 : Int32} {p2 : Int32} {g : GM} (hF : g_sh P = g_full) (hf : g_on P 179) : KL P yL_setCapacity cL_setCapacity 5 [(0, 10, 13, 28), (0, 10, 17, 19), (0, 10, 21, 13)] ⟨8, 1, 6, 148⟩ [gr P 0, .int p1, .int p2, gr P 177] g x ((f_X10_setCapacity g p1 p2).bind (lw_F x false ltb_012)) := by
  refine KL.ofW (by decide) rfl (Nat.le_of_ble_eq_true rfl) (fun X hC hr hT => ?_)
  change GR P X (g_QL P X) 0 0 _ 0 [some (gr P 0), some (.int p1), some (.int p2), some (gr P 177), none] [] g x
  refine GR_aload_n (pc := 0) hC dL_setCapacity_0 rfl rfl ?_
  refine GR_iconst (pc := 1) (v := 0) hC dL_setCapacity_1 rfl ?_
  refine GR_aload_n (pc := 2) hC dL_setCapacity_2 rfl rfl ?_
  refine GR_iload_n (pc := 3) hC dL_setCapacity_3 rfl rfl ?_
  refine GR_iload_n (pc := 4) hC dL_setCapacity_4 rfl rfl ?_
  refine GR_callVC (pc := 5) (As := [.int p1, .int p2]) (E0 := f_X10_setCapacity g p1 p2) (F := lw_F x false ltb_012) hC hT (k_X10_setCapacity (hf.mono (by decide))) MYL_X10_setCapacity MIL_X10_setCapacity (g_w_mem (List.mem_of_getElem? (i := 1227) (by decide +kernel)) (by decide +kernel)) (sh_0 (hf.mono (by decide))) rfl rfl ⟨rfl, rfl⟩ ⟨by decide, by decide⟩ ⟨by decide, by decide⟩ rfl rfl (Nat.le_of_ble_eq_true rfl) dL_setCapacity_5 ?_ ?_
  · intro g1 r
    refine GR_i2l (pc := 8) hC dL_setCapacity_8 ?_
    refine GR_last (pc := 9) hC hF rfl dL_setCapacity_9 ?_
    refine GR_goto (pc := 10) (tgt := 25) hC dL_setCapacity_10 (by decide) ?_
    refine GR_iconst (pc := 25) (v := 0) hC dL_setCapacity_25 rfl ?_
    exact GR_iretL (pc := 26) hC ⟨by decide, by decide⟩ hr dL_setCapacity_26
  · intro g1 k
    rcases k with _ | _ | _ | _ | k
    · refine Or.inr ⟨13, ⟨[], ⟨0, 10, 13, 28⟩, [⟨0, 10, 17, 19⟩, ⟨0, 10, 21, 13⟩], "java/lang/IndexOutOfBoundsException", rfl, rfl, (fun w hw => (List.not_mem_nil hw).elim), by decide, by decide, g_w_mem (List.mem_of_getElem? (i := 861) (by decide +kernel)) (by decide +kernel), rfl⟩, fun q9 => ?_⟩
      refine GR_astore (pc := 13) (L' := [some (gr P 0), some (.int p1), some (.int p2), some (gr P 177), some (.ref q9)]) hC dL_setCapacity_13 (by decide) rfl rfl ?_
      refine GR_iconst (pc := 15) (v := 1) hC dL_setCapacity_15 rfl ?_
      exact GR_iretL (pc := 16) hC ⟨by decide, by decide⟩ hr dL_setCapacity_16
    · refine Or.inr ⟨17, ⟨[⟨0, 10, 13, 28⟩], ⟨0, 10, 17, 19⟩, [⟨0, 10, 21, 13⟩], "java/lang/IllegalArgumentException", rfl, rfl, (fun w hw => by
        simp only [List.mem_cons, List.mem_singleton, List.not_mem_nil, or_false] at hw
        rcases hw with rfl
        · exact Or.inr ⟨by decide, "java/lang/IndexOutOfBoundsException", g_w_mem (List.mem_of_getElem? (i := 861) (by decide +kernel)) (by decide +kernel), by decide +kernel⟩), by decide, by decide, g_w_mem (List.mem_of_getElem? (i := 828) (by decide +kernel)) (by decide +kernel), rfl⟩, fun q9 => ?_⟩
      refine GR_astore (pc := 17) (L' := [some (gr P 0), some (.int p1), some (.int p2), some (gr P 177), some (.ref q9)]) hC dL_setCapacity_17 (by decide) rfl rfl ?_
      refine GR_iconst (pc := 19) (v := 2) hC dL_setCapacity_19 rfl ?_
      exact GR_iretL (pc := 20) hC ⟨by decide, by decide⟩ hr dL_setCapacity_20
    · refine Or.inr ⟨21, ⟨[⟨0, 10, 13, 28⟩, ⟨0, 10, 17, 19⟩], ⟨0, 10, 21, 13⟩, [], "java/lang/IllegalStateException", rfl, rfl, (fun w hw => by
        simp only [List.mem_cons, List.mem_singleton, List.not_mem_nil, or_false] at hw
        rcases hw with rfl | rfl
        · exact Or.inr ⟨by decide, "java/lang/IndexOutOfBoundsException", g_w_mem (List.mem_of_getElem? (i := 861) (by decide +kernel)) (by decide +kernel), by decide +kernel⟩
        · exact Or.inr ⟨by decide, "java/lang/IllegalArgumentException", g_w_mem (List.mem_of_getElem? (i := 828) (by decide +kernel)) (by decide +kernel), by decide +kernel⟩), by decide, by decide, g_w_mem (List.mem_of_getElem? (i := 748) (by decide +kernel)) (by decide +kernel), rfl⟩, fun q9 => ?_⟩
      refine GR_astore (pc := 21) (L' := [some (gr P 0), some (.int p1), some (.int p2), some (gr P 177), some (.ref q9)]) hC dL_setCapacity_21 (by decide) rfl rfl ?_
      refine GR_iconst (pc := 23) (v := 3) hC dL_setCapacity_23 rfl ?_
      exact GR_iretL (pc := 24) hC ⟨by decide, by decide⟩ hr dL_setCapacity_24
    · exact Or.inl rfl
    · exact Or.inl rfl
set_option maxRecDepth 20000 in
set_option maxHeartbeats 2000000 in
theorem kL_setMaximum {P : GP} {x : GE} {p1 : Int32} {p2 : Int32} {p3 : Int32} {g : GM} (hF : g_sh P = g_full) (hf : g_on P 179) : KL P yL_setMaximum cL_setMaximum 6 [(0, 12, 15, 28), (0, 12, 19, 19), (0, 12, 23, 13)] ⟨8, 1, 6, 150⟩ [gr P 0, .int p1, .int p2, .int p3, gr P 177] g x ((f_X10_setMaximum g p1 p2 p3).bind (lw_F x false ltb_012)) := by
  refine KL.ofW (by decide) rfl (Nat.le_of_ble_eq_true rfl) (fun X hC hr hT => ?_)
  change GR P X (g_QL P X) 0 0 _ 0 [some (gr P 0), some (.int p1), some (.int p2), some (.int p3), some (gr P 177), none] [] g x
  refine GR_aload (pc := 0) hC dL_setMaximum_0 rfl ?_
  refine GR_iconst (pc := 2) (v := 0) hC dL_setMaximum_2 rfl ?_
  refine GR_aload_n (pc := 3) hC dL_setMaximum_3 rfl rfl ?_
  refine GR_iload_n (pc := 4) hC dL_setMaximum_4 rfl rfl ?_
  refine GR_iload_n (pc := 5) hC dL_setMaximum_5 rfl rfl ?_
  refine GR_iload_n (pc := 6) hC dL_setMaximum_6 rfl rfl ?_
  refine GR_callVC (pc := 7) (As := [.int p1, .int p2, .int p3]) (E0 := f_X10_setMaximum g p1 p2 p3) (F := lw_F x false ltb_012) hC hT (k_X10_setMaximum (hf.mono (by decide))) MYL_X10_setMaximum MIL_X10_setMaximum (g_w_mem (List.mem_of_getElem? (i := 1242) (by decide +kernel)) (by decide +kernel)) (sh_0 (hf.mono (by decide))) rfl rfl ⟨rfl, rfl⟩ ⟨by decide, by decide⟩ ⟨by decide, by decide⟩ rfl rfl (Nat.le_of_ble_eq_true rfl) dL_setMaximum_7 ?_ ?_
  · intro g1 r
    refine GR_i2l (pc := 10) hC dL_setMaximum_10 ?_
    refine GR_last (pc := 11) hC hF rfl dL_setMaximum_11 ?_
    refine GR_goto (pc := 12) (tgt := 27) hC dL_setMaximum_12 (by decide) ?_
    refine GR_iconst (pc := 27) (v := 0) hC dL_setMaximum_27 rfl ?_
    exact GR_iretL (pc := 28) hC ⟨by decide, by decide⟩ hr dL_setMaximum_28
  · intro g1 k
    rcases k with _ | _ | _ | _ | k
    · refine Or.inr ⟨15, ⟨[], ⟨0, 12, 15, 28⟩, [⟨0, 12, 19, 19⟩, ⟨0, 12, 23, 13⟩], "java/lang/IndexOutOfBoundsException", rfl, rfl, (fun w hw => (List.not_mem_nil hw).elim), by decide, by decide, g_w_mem (List.mem_of_getElem? (i := 861) (by decide +kernel)) (by decide +kernel), rfl⟩, fun q9 => ?_⟩
      refine GR_astore (pc := 15) (L' := [some (gr P 0), some (.int p1), some (.int p2), some (.int p3), some (gr P 177), some (.ref q9)]) hC dL_setMaximum_15 (by decide) rfl rfl ?_
      refine GR_iconst (pc := 17) (v := 1) hC dL_setMaximum_17 rfl ?_
      exact GR_iretL (pc := 18) hC ⟨by decide, by decide⟩ hr dL_setMaximum_18
    · refine Or.inr ⟨19, ⟨[⟨0, 12, 15, 28⟩], ⟨0, 12, 19, 19⟩, [⟨0, 12, 23, 13⟩], "java/lang/IllegalArgumentException", rfl, rfl, (fun w hw => by
        simp only [List.mem_cons, List.mem_singleton, List.not_mem_nil, or_false] at hw
        rcases hw with rfl
        · exact Or.inr ⟨by decide, "java/lang/IndexOutOfBoundsException", g_w_mem (List.mem_of_getElem? (i := 861) (by decide +kernel)) (by decide +kernel), by decide +kernel⟩), by decide, by decide, g_w_mem (List.mem_of_getElem? (i := 828) (by decide +kernel)) (by decide +kernel), rfl⟩, fun q9 => ?_⟩
      refine GR_astore (pc := 19) (L' := [some (gr P 0), some (.int p1), some (.int p2), some (.int p3), some (gr P 177), some (.ref q9)]) hC dL_setMaximum_19 (by decide) rfl rfl ?_
      refine GR_iconst (pc := 21) (v := 2) hC dL_setMaximum_21 rfl ?_
      exact GR_iretL (pc := 22) hC ⟨by decide, by decide⟩ hr dL_setMaximum_22
    · refine Or.inr ⟨23, ⟨[⟨0, 12, 15, 28⟩, ⟨0, 12, 19, 19⟩], ⟨0, 12, 23, 13⟩, [], "java/lang/IllegalStateException", rfl, rfl, (fun w hw => by
        simp only [List.mem_cons, List.mem_singleton, List.not_mem_nil, or_false] at hw
        rcases hw with rfl | rfl
        · exact Or.inr ⟨by decide, "java/lang/IndexOutOfBoundsException", g_w_mem (List.mem_of_getElem? (i := 861) (by decide +kernel)) (by decide +kernel), by decide +kernel⟩
        · exact Or.inr ⟨by decide, "java/lang/IllegalArgumentException", g_w_mem (List.mem_of_getElem? (i := 828) (by decide +kernel)) (by decide +kernel), by decide +kernel⟩), by decide, by decide, g_w_mem (List.mem_of_getElem? (i := 748) (by decide +kernel)) (by decide +kernel), rfl⟩, fun q9 => ?_⟩
      refine GR_astore (pc := 23) (L' := [some (gr P 0), some (.int p1), some (.int p2), some (.int p3), some (gr P 177), some (.ref q9)]) hC dL_setMaximum_23 (by decide) rfl rfl ?_
      refine GR_iconst (pc := 25) (v := 3) hC dL_setMaximum_25 rfl ?_
      exact GR_iretL (pc := 26) hC ⟨by decide, by decide⟩ hr dL_setMaximum_26
    · exact Or.inl rfl
    · exact Or.inl rfl
set_option maxRecDepth 20000 in
set_option maxHeartbeats 2000000 in
theorem kL_lend {P : GP} {x : GE} {p1 : Int32} {p2 : Int32} {p3 : Int32} {g : GM} (hF : g_sh P = g_full) (hf : g_on P 179) : KL P yL_lend cL_lend 6 [(0, 12, 15, 28), (0, 12, 19, 19), (0, 12, 23, 13)] ⟨8, 1, 6, 146⟩ [gr P 0, .int p1, .int p2, .int p3, gr P 177] g x ((f_X10_lend g p1 p2 p3).bind (lw_F x false ltb_012)) := by
  refine KL.ofW (by decide) rfl (Nat.le_of_ble_eq_true rfl) (fun X hC hr hT => ?_)
  change GR P X (g_QL P X) 0 0 _ 0 [some (gr P 0), some (.int p1), some (.int p2), some (.int p3), some (gr P 177), none] [] g x
  refine GR_aload (pc := 0) hC dL_lend_0 rfl ?_
  refine GR_iconst (pc := 2) (v := 0) hC dL_lend_2 rfl ?_
  refine GR_aload_n (pc := 3) hC dL_lend_3 rfl rfl ?_
  refine GR_iload_n (pc := 4) hC dL_lend_4 rfl rfl ?_
  refine GR_iload_n (pc := 5) hC dL_lend_5 rfl rfl ?_
  refine GR_iload_n (pc := 6) hC dL_lend_6 rfl rfl ?_
  refine GR_callVC (pc := 7) (As := [.int p1, .int p2, .int p3]) (E0 := f_X10_lend g p1 p2 p3) (F := lw_F x false ltb_012) hC hT (k_X10_lend (hf.mono (by decide))) MYL_X10_lend MIL_X10_lend (g_w_mem (List.mem_of_getElem? (i := 1260) (by decide +kernel)) (by decide +kernel)) (sh_0 (hf.mono (by decide))) rfl rfl ⟨rfl, rfl⟩ ⟨by decide, by decide⟩ ⟨by decide, by decide⟩ rfl rfl (Nat.le_of_ble_eq_true rfl) dL_lend_7 ?_ ?_
  · intro g1 r
    refine GR_i2l (pc := 10) hC dL_lend_10 ?_
    refine GR_last (pc := 11) hC hF rfl dL_lend_11 ?_
    refine GR_goto (pc := 12) (tgt := 27) hC dL_lend_12 (by decide) ?_
    refine GR_iconst (pc := 27) (v := 0) hC dL_lend_27 rfl ?_
    exact GR_iretL (pc := 28) hC ⟨by decide, by decide⟩ hr dL_lend_28
  · intro g1 k
    rcases k with _ | _ | _ | _ | k
    · refine Or.inr ⟨15, ⟨[], ⟨0, 12, 15, 28⟩, [⟨0, 12, 19, 19⟩, ⟨0, 12, 23, 13⟩], "java/lang/IndexOutOfBoundsException", rfl, rfl, (fun w hw => (List.not_mem_nil hw).elim), by decide, by decide, g_w_mem (List.mem_of_getElem? (i := 861) (by decide +kernel)) (by decide +kernel), rfl⟩, fun q9 => ?_⟩
      refine GR_astore (pc := 15) (L' := [some (gr P 0), some (.int p1), some (.int p2), some (.int p3), some (gr P 177), some (.ref q9)]) hC dL_lend_15 (by decide) rfl rfl ?_
      refine GR_iconst (pc := 17) (v := 1) hC dL_lend_17 rfl ?_
      exact GR_iretL (pc := 18) hC ⟨by decide, by decide⟩ hr dL_lend_18
    · refine Or.inr ⟨19, ⟨[⟨0, 12, 15, 28⟩], ⟨0, 12, 19, 19⟩, [⟨0, 12, 23, 13⟩], "java/lang/IllegalArgumentException", rfl, rfl, (fun w hw => by
        simp only [List.mem_cons, List.mem_singleton, List.not_mem_nil, or_false] at hw
        rcases hw with rfl
        · exact Or.inr ⟨by decide, "java/lang/IndexOutOfBoundsException", g_w_mem (List.mem_of_getElem? (i := 861) (by decide +kernel)) (by decide +kernel), by decide +kernel⟩), by decide, by decide, g_w_mem (List.mem_of_getElem? (i := 828) (by decide +kernel)) (by decide +kernel), rfl⟩, fun q9 => ?_⟩
      refine GR_astore (pc := 19) (L' := [some (gr P 0), some (.int p1), some (.int p2), some (.int p3), some (gr P 177), some (.ref q9)]) hC dL_lend_19 (by decide) rfl rfl ?_
      refine GR_iconst (pc := 21) (v := 2) hC dL_lend_21 rfl ?_
      exact GR_iretL (pc := 22) hC ⟨by decide, by decide⟩ hr dL_lend_22
    · refine Or.inr ⟨23, ⟨[⟨0, 12, 15, 28⟩, ⟨0, 12, 19, 19⟩], ⟨0, 12, 23, 13⟩, [], "java/lang/IllegalStateException", rfl, rfl, (fun w hw => by
        simp only [List.mem_cons, List.mem_singleton, List.not_mem_nil, or_false] at hw
        rcases hw with rfl | rfl
        · exact Or.inr ⟨by decide, "java/lang/IndexOutOfBoundsException", g_w_mem (List.mem_of_getElem? (i := 861) (by decide +kernel)) (by decide +kernel), by decide +kernel⟩
        · exact Or.inr ⟨by decide, "java/lang/IllegalArgumentException", g_w_mem (List.mem_of_getElem? (i := 828) (by decide +kernel)) (by decide +kernel), by decide +kernel⟩), by decide, by decide, g_w_mem (List.mem_of_getElem? (i := 748) (by decide +kernel)) (by decide +kernel), rfl⟩, fun q9 => ?_⟩
      refine GR_astore (pc := 23) (L' := [some (gr P 0), some (.int p1), some (.int p2), some (.int p3), some (gr P 177), some (.ref q9)]) hC dL_lend_23 (by decide) rfl rfl ?_
      refine GR_iconst (pc := 25) (v := 3) hC dL_lend_25 rfl ?_
      exact GR_iretL (pc := 26) hC ⟨by decide, by decide⟩ hr dL_lend_26
    · exact Or.inl rfl
    · exact Or.inl rfl
set_option maxRecDepth 20000 in
set_option maxHeartbeats 2000000 in
theorem kL_repay {P : GP} {x : GE} {p1 : Int32} {p2 : Int32} {p3 : Int32} {g : GM} (hF : g_sh P = g_full) (hf : g_on P 179) : KL P yL_repay cL_repay 6 [(0, 12, 15, 28), (0, 12, 19, 19), (0, 12, 23, 13)] ⟨8, 1, 6, 146⟩ [gr P 0, .int p1, .int p2, .int p3, gr P 177] g x ((f_X10_repay g p1 p2 p3).bind (lw_F x false ltb_012)) := by
  refine KL.ofW (by decide) rfl (Nat.le_of_ble_eq_true rfl) (fun X hC hr hT => ?_)
  change GR P X (g_QL P X) 0 0 _ 0 [some (gr P 0), some (.int p1), some (.int p2), some (.int p3), some (gr P 177), none] [] g x
  refine GR_aload (pc := 0) hC dL_repay_0 rfl ?_
  refine GR_iconst (pc := 2) (v := 0) hC dL_repay_2 rfl ?_
  refine GR_aload_n (pc := 3) hC dL_repay_3 rfl rfl ?_
  refine GR_iload_n (pc := 4) hC dL_repay_4 rfl rfl ?_
  refine GR_iload_n (pc := 5) hC dL_repay_5 rfl rfl ?_
  refine GR_iload_n (pc := 6) hC dL_repay_6 rfl rfl ?_
  refine GR_callVC (pc := 7) (As := [.int p1, .int p2, .int p3]) (E0 := f_X10_repay g p1 p2 p3) (F := lw_F x false ltb_012) hC hT (k_X10_repay (hf.mono (by decide))) MYL_X10_repay MIL_X10_repay (g_w_mem (List.mem_of_getElem? (i := 1279) (by decide +kernel)) (by decide +kernel)) (sh_0 (hf.mono (by decide))) rfl rfl ⟨rfl, rfl⟩ ⟨by decide, by decide⟩ ⟨by decide, by decide⟩ rfl rfl (Nat.le_of_ble_eq_true rfl) dL_repay_7 ?_ ?_
  · intro g1 r
    refine GR_i2l (pc := 10) hC dL_repay_10 ?_
    refine GR_last (pc := 11) hC hF rfl dL_repay_11 ?_
    refine GR_goto (pc := 12) (tgt := 27) hC dL_repay_12 (by decide) ?_
    refine GR_iconst (pc := 27) (v := 0) hC dL_repay_27 rfl ?_
    exact GR_iretL (pc := 28) hC ⟨by decide, by decide⟩ hr dL_repay_28
  · intro g1 k
    rcases k with _ | _ | _ | _ | k
    · refine Or.inr ⟨15, ⟨[], ⟨0, 12, 15, 28⟩, [⟨0, 12, 19, 19⟩, ⟨0, 12, 23, 13⟩], "java/lang/IndexOutOfBoundsException", rfl, rfl, (fun w hw => (List.not_mem_nil hw).elim), by decide, by decide, g_w_mem (List.mem_of_getElem? (i := 861) (by decide +kernel)) (by decide +kernel), rfl⟩, fun q9 => ?_⟩
      refine GR_astore (pc := 15) (L' := [some (gr P 0), some (.int p1), some (.int p2), some (.int p3), some (gr P 177), some (.ref q9)]) hC dL_repay_15 (by decide) rfl rfl ?_
      refine GR_iconst (pc := 17) (v := 1) hC dL_repay_17 rfl ?_
      exact GR_iretL (pc := 18) hC ⟨by decide, by decide⟩ hr dL_repay_18
    · refine Or.inr ⟨19, ⟨[⟨0, 12, 15, 28⟩], ⟨0, 12, 19, 19⟩, [⟨0, 12, 23, 13⟩], "java/lang/IllegalArgumentException", rfl, rfl, (fun w hw => by
        simp only [List.mem_cons, List.mem_singleton, List.not_mem_nil, or_false] at hw
        rcases hw with rfl
        · exact Or.inr ⟨by decide, "java/lang/IndexOutOfBoundsException", g_w_mem (List.mem_of_getElem? (i := 861) (by decide +kernel)) (by decide +kernel), by decide +kernel⟩), by decide, by decide, g_w_mem (List.mem_of_getElem? (i := 828) (by decide +kernel)) (by decide +kernel), rfl⟩, fun q9 => ?_⟩
      refine GR_astore (pc := 19) (L' := [some (gr P 0), some (.int p1), some (.int p2), some (.int p3), some (gr P 177), some (.ref q9)]) hC dL_repay_19 (by decide) rfl rfl ?_
      refine GR_iconst (pc := 21) (v := 2) hC dL_repay_21 rfl ?_
      exact GR_iretL (pc := 22) hC ⟨by decide, by decide⟩ hr dL_repay_22
    · refine Or.inr ⟨23, ⟨[⟨0, 12, 15, 28⟩, ⟨0, 12, 19, 19⟩], ⟨0, 12, 23, 13⟩, [], "java/lang/IllegalStateException", rfl, rfl, (fun w hw => by
        simp only [List.mem_cons, List.mem_singleton, List.not_mem_nil, or_false] at hw
        rcases hw with rfl | rfl
        · exact Or.inr ⟨by decide, "java/lang/IndexOutOfBoundsException", g_w_mem (List.mem_of_getElem? (i := 861) (by decide +kernel)) (by decide +kernel), by decide +kernel⟩
        · exact Or.inr ⟨by decide, "java/lang/IllegalArgumentException", g_w_mem (List.mem_of_getElem? (i := 828) (by decide +kernel)) (by decide +kernel), by decide +kernel⟩), by decide, by decide, g_w_mem (List.mem_of_getElem? (i := 748) (by decide +kernel)) (by decide +kernel), rfl⟩, fun q9 => ?_⟩
      refine GR_astore (pc := 23) (L' := [some (gr P 0), some (.int p1), some (.int p2), some (.int p3), some (gr P 177), some (.ref q9)]) hC dL_repay_23 (by decide) rfl rfl ?_
      refine GR_iconst (pc := 25) (v := 3) hC dL_repay_25 rfl ?_
      exact GR_iretL (pc := 26) hC ⟨by decide, by decide⟩ hr dL_repay_26
    · exact Or.inl rfl
    · exact Or.inl rfl
set_option maxRecDepth 20000 in
set_option maxHeartbeats 2000000 in
theorem kL_runScript {P : GP} {x : GE} {g : GM} (hF : g_sh P = g_full) (hf : g_on P 179) : KL P yL_runScript cL_runScript 3 [(0, 8, 11, 19)] ⟨9, 1, 6, 221⟩ [gr P 0, gr P 177] g x ((f_X10_runScript g).bind (lw_F x false ltb_1)) := by
  refine KL.ofW (by decide) rfl (Nat.le_of_ble_eq_true rfl) (fun X hC hr hT => ?_)
  change GR P X (g_QL P X) 0 0 _ 0 [some (gr P 0), some (gr P 177), none] [] g x
  refine GR_aload_n (pc := 0) hC dL_runScript_0 rfl rfl ?_
  refine GR_iconst (pc := 1) (v := 0) hC dL_runScript_1 rfl ?_
  refine GR_aload_n (pc := 2) hC dL_runScript_2 rfl rfl ?_
  refine GR_callVC (pc := 3) (As := []) (E0 := f_X10_runScript g) (F := lw_F x false ltb_1) hC hT (k_X10_runScript (hf.mono (by decide))) MYL_X10_runScript MIL_X10_runScript (g_w_mem (List.mem_of_getElem? (i := 1289) (by decide +kernel)) (by decide +kernel)) (sh_0 (hf.mono (by decide))) rfl rfl ⟨rfl, rfl⟩ ⟨by decide, by decide⟩ ⟨by decide, by decide⟩ rfl rfl (Nat.le_of_ble_eq_true rfl) dL_runScript_3 ?_ ?_
  · intro g1 r
    refine GR_i2l (pc := 6) hC dL_runScript_6 ?_
    refine GR_last (pc := 7) hC hF rfl dL_runScript_7 ?_
    refine GR_goto (pc := 8) (tgt := 14) hC dL_runScript_8 (by decide) ?_
    refine GR_iconst (pc := 14) (v := 0) hC dL_runScript_14 rfl ?_
    exact GR_iretL (pc := 15) hC ⟨by decide, by decide⟩ hr dL_runScript_15
  · intro g1 k
    rcases k with _ | _ | _ | _ | k
    · exact Or.inl rfl
    · refine Or.inr ⟨11, ⟨[], ⟨0, 8, 11, 19⟩, [], "java/lang/IllegalArgumentException", rfl, rfl, (fun w hw => (List.not_mem_nil hw).elim), by decide, by decide, g_w_mem (List.mem_of_getElem? (i := 828) (by decide +kernel)) (by decide +kernel), rfl⟩, fun q9 => ?_⟩
      refine GR_astore_n (pc := 11) (L' := [some (gr P 0), some (gr P 177), some (.ref q9)]) hC dL_runScript_11 rfl (by decide) rfl rfl ?_
      refine GR_iconst (pc := 12) (v := 1) hC dL_runScript_12 rfl ?_
      exact GR_iretL (pc := 13) hC ⟨by decide, by decide⟩ hr dL_runScript_13
    · exact Or.inl rfl
    · exact Or.inl rfl
    · exact Or.inl rfl
set_option maxRecDepth 20000 in
set_option maxHeartbeats 2000000 in
theorem kL_undo {P : GP} {x : GE} {g : GM} (hF : g_sh P = g_full) (hf : g_on P 179) : KL P yL_undo cL_undo 3 [(0, 8, 11, 13)] ⟨7, 1, 6, 143⟩ [gr P 0, gr P 177] g x ((f_X10_undo g).bind (lw_F x false ltb_2)) := by
  refine KL.ofW (by decide) rfl (Nat.le_of_ble_eq_true rfl) (fun X hC hr hT => ?_)
  change GR P X (g_QL P X) 0 0 _ 0 [some (gr P 0), some (gr P 177), none] [] g x
  refine GR_aload_n (pc := 0) hC dL_undo_0 rfl rfl ?_
  refine GR_iconst (pc := 1) (v := 0) hC dL_undo_1 rfl ?_
  refine GR_aload_n (pc := 2) hC dL_undo_2 rfl rfl ?_
  refine GR_callVC (pc := 3) (As := []) (E0 := f_X10_undo g) (F := lw_F x false ltb_2) hC hT (k_X10_undo (hf.mono (by decide))) MYL_X10_undo MIL_X10_undo (g_w_mem (List.mem_of_getElem? (i := 1357) (by decide +kernel)) (by decide +kernel)) (sh_0 (hf.mono (by decide))) rfl rfl ⟨rfl, rfl⟩ ⟨by decide, by decide⟩ ⟨by decide, by decide⟩ rfl rfl (Nat.le_of_ble_eq_true rfl) dL_undo_3 ?_ ?_
  · intro g1 r
    refine GR_i2l (pc := 6) hC dL_undo_6 ?_
    refine GR_last (pc := 7) hC hF rfl dL_undo_7 ?_
    refine GR_goto (pc := 8) (tgt := 14) hC dL_undo_8 (by decide) ?_
    refine GR_iconst (pc := 14) (v := 0) hC dL_undo_14 rfl ?_
    exact GR_iretL (pc := 15) hC ⟨by decide, by decide⟩ hr dL_undo_15
  · intro g1 k
    rcases k with _ | _ | _ | _ | k
    · exact Or.inl rfl
    · exact Or.inl rfl
    · refine Or.inr ⟨11, ⟨[], ⟨0, 8, 11, 13⟩, [], "java/lang/IllegalStateException", rfl, rfl, (fun w hw => (List.not_mem_nil hw).elim), by decide, by decide, g_w_mem (List.mem_of_getElem? (i := 748) (by decide +kernel)) (by decide +kernel), rfl⟩, fun q9 => ?_⟩
      refine GR_astore_n (pc := 11) (L' := [some (gr P 0), some (gr P 177), some (.ref q9)]) hC dL_undo_11 rfl (by decide) rfl rfl ?_
      refine GR_iconst (pc := 12) (v := 1) hC dL_undo_12 rfl ?_
      exact GR_iretL (pc := 13) hC ⟨by decide, by decide⟩ hr dL_undo_13
    · exact Or.inl rfl
    · exact Or.inl rfl
set_option maxRecDepth 20000 in
set_option maxHeartbeats 2000000 in
theorem kL_save {P : GP} {x : GE} {p1 : Int32} {g : GM} (hF : g_sh P = g_full) (hf : g_on P 179) : KL P yL_save cL_save 4 [(0, 9, 12, 28)] ⟨8, 1, 6, 141⟩ [gr P 0, .int p1, gr P 177] g x ((f_X10_save g p1).bind (lw_F x false ltb_0)) := by
  refine KL.ofW (by decide) rfl (Nat.le_of_ble_eq_true rfl) (fun X hC hr hT => ?_)
  change GR P X (g_QL P X) 0 0 _ 0 [some (gr P 0), some (.int p1), some (gr P 177), none] [] g x
  refine GR_aload_n (pc := 0) hC dL_save_0 rfl rfl ?_
  refine GR_iconst (pc := 1) (v := 0) hC dL_save_1 rfl ?_
  refine GR_aload_n (pc := 2) hC dL_save_2 rfl rfl ?_
  refine GR_iload_n (pc := 3) hC dL_save_3 rfl rfl ?_
  refine GR_callVC (pc := 4) (As := [.int p1]) (E0 := f_X10_save g p1) (F := lw_F x false ltb_0) hC hT (k_X10_save (hf.mono (by decide))) MYL_X10_save MIL_X10_save (g_w_mem (List.mem_of_getElem? (i := 1369) (by decide +kernel)) (by decide +kernel)) (sh_0 (hf.mono (by decide))) rfl rfl ⟨rfl, rfl⟩ ⟨by decide, by decide⟩ ⟨by decide, by decide⟩ rfl rfl (Nat.le_of_ble_eq_true rfl) dL_save_4 ?_ ?_
  · intro g1 r
    refine GR_i2l (pc := 7) hC dL_save_7 ?_
    refine GR_last (pc := 8) hC hF rfl dL_save_8 ?_
    refine GR_goto (pc := 9) (tgt := 15) hC dL_save_9 (by decide) ?_
    refine GR_iconst (pc := 15) (v := 0) hC dL_save_15 rfl ?_
    exact GR_iretL (pc := 16) hC ⟨by decide, by decide⟩ hr dL_save_16
  · intro g1 k
    rcases k with _ | _ | _ | _ | k
    · refine Or.inr ⟨12, ⟨[], ⟨0, 9, 12, 28⟩, [], "java/lang/IndexOutOfBoundsException", rfl, rfl, (fun w hw => (List.not_mem_nil hw).elim), by decide, by decide, g_w_mem (List.mem_of_getElem? (i := 861) (by decide +kernel)) (by decide +kernel), rfl⟩, fun q9 => ?_⟩
      refine GR_astore_n (pc := 12) (L' := [some (gr P 0), some (.int p1), some (gr P 177), some (.ref q9)]) hC dL_save_12 rfl (by decide) rfl rfl ?_
      refine GR_iconst (pc := 13) (v := 1) hC dL_save_13 rfl ?_
      exact GR_iretL (pc := 14) hC ⟨by decide, by decide⟩ hr dL_save_14
    · exact Or.inl rfl
    · exact Or.inl rfl
    · exact Or.inl rfl
    · exact Or.inl rfl
set_option maxRecDepth 20000 in
set_option maxHeartbeats 2000000 in
theorem kL_restore {P : GP} {x : GE} {p1 : Int32} {g : GM} (hF : g_sh P = g_full) (hf : g_on P 179) : KL P yL_restore cL_restore 4 [(0, 9, 12, 28), (0, 9, 15, 13)] ⟨8, 1, 6, 141⟩ [gr P 0, .int p1, gr P 177] g x ((f_X10_restore g p1).bind (lw_F x false ltb_02)) := by
  refine KL.ofW (by decide) rfl (Nat.le_of_ble_eq_true rfl) (fun X hC hr hT => ?_)
  change GR P X (g_QL P X) 0 0 _ 0 [some (gr P 0), some (.int p1), some (gr P 177), none] [] g x
  refine GR_aload_n (pc := 0) hC dL_restore_0 rfl rfl ?_
  refine GR_iconst (pc := 1) (v := 0) hC dL_restore_1 rfl ?_
  refine GR_aload_n (pc := 2) hC dL_restore_2 rfl rfl ?_
  refine GR_iload_n (pc := 3) hC dL_restore_3 rfl rfl ?_
  refine GR_callVC (pc := 4) (As := [.int p1]) (E0 := f_X10_restore g p1) (F := lw_F x false ltb_02) hC hT (k_X10_restore (hf.mono (by decide))) MYL_X10_restore MIL_X10_restore (g_w_mem (List.mem_of_getElem? (i := 1379) (by decide +kernel)) (by decide +kernel)) (sh_0 (hf.mono (by decide))) rfl rfl ⟨rfl, rfl⟩ ⟨by decide, by decide⟩ ⟨by decide, by decide⟩ rfl rfl (Nat.le_of_ble_eq_true rfl) dL_restore_4 ?_ ?_
  · intro g1 r
    refine GR_i2l (pc := 7) hC dL_restore_7 ?_
    refine GR_last (pc := 8) hC hF rfl dL_restore_8 ?_
    refine GR_goto (pc := 9) (tgt := 18) hC dL_restore_9 (by decide) ?_
    refine GR_iconst (pc := 18) (v := 0) hC dL_restore_18 rfl ?_
    exact GR_iretL (pc := 19) hC ⟨by decide, by decide⟩ hr dL_restore_19
  · intro g1 k
    rcases k with _ | _ | _ | _ | k
    · refine Or.inr ⟨12, ⟨[], ⟨0, 9, 12, 28⟩, [⟨0, 9, 15, 13⟩], "java/lang/IndexOutOfBoundsException", rfl, rfl, (fun w hw => (List.not_mem_nil hw).elim), by decide, by decide, g_w_mem (List.mem_of_getElem? (i := 861) (by decide +kernel)) (by decide +kernel), rfl⟩, fun q9 => ?_⟩
      refine GR_astore_n (pc := 12) (L' := [some (gr P 0), some (.int p1), some (gr P 177), some (.ref q9)]) hC dL_restore_12 rfl (by decide) rfl rfl ?_
      refine GR_iconst (pc := 13) (v := 1) hC dL_restore_13 rfl ?_
      exact GR_iretL (pc := 14) hC ⟨by decide, by decide⟩ hr dL_restore_14
    · exact Or.inl rfl
    · refine Or.inr ⟨15, ⟨[⟨0, 9, 12, 28⟩], ⟨0, 9, 15, 13⟩, [], "java/lang/IllegalStateException", rfl, rfl, (fun w hw => by
        simp only [List.mem_cons, List.mem_singleton, List.not_mem_nil, or_false] at hw
        rcases hw with rfl
        · exact Or.inr ⟨by decide, "java/lang/IndexOutOfBoundsException", g_w_mem (List.mem_of_getElem? (i := 861) (by decide +kernel)) (by decide +kernel), by decide +kernel⟩), by decide, by decide, g_w_mem (List.mem_of_getElem? (i := 748) (by decide +kernel)) (by decide +kernel), rfl⟩, fun q9 => ?_⟩
      refine GR_astore_n (pc := 15) (L' := [some (gr P 0), some (.int p1), some (gr P 177), some (.ref q9)]) hC dL_restore_15 rfl (by decide) rfl rfl ?_
      refine GR_iconst (pc := 16) (v := 2) hC dL_restore_16 rfl ?_
      exact GR_iretL (pc := 17) hC ⟨by decide, by decide⟩ hr dL_restore_17
    · exact Or.inl rfl
    · exact Or.inl rfl
set_option maxRecDepth 20000 in
set_option maxHeartbeats 2000000 in
theorem kL_outputByte {P : GP} {x : GE} {p1 : Int32} {g : GM} (hF : g_sh P = g_full) (hf : g_on P 179) : KL P yL_outputByte cL_outputByte 4 [(0, 9, 12, 28)] ⟨7, 1, 6, 121⟩ [gr P 0, .int p1, gr P 177] g x ((f_X10_outputByte g p1).bind (lw_F x false ltb_0)) := by
  refine KL.ofW (by decide) rfl (Nat.le_of_ble_eq_true rfl) (fun X hC hr hT => ?_)
  change GR P X (g_QL P X) 0 0 _ 0 [some (gr P 0), some (.int p1), some (gr P 177), none] [] g x
  refine GR_aload_n (pc := 0) hC dL_outputByte_0 rfl rfl ?_
  refine GR_iconst (pc := 1) (v := 0) hC dL_outputByte_1 rfl ?_
  refine GR_aload_n (pc := 2) hC dL_outputByte_2 rfl rfl ?_
  refine GR_iload_n (pc := 3) hC dL_outputByte_3 rfl rfl ?_
  refine GR_callVC (pc := 4) (As := [.int p1]) (E0 := f_X10_outputByte g p1) (F := lw_F x false ltb_0) hC hT (k_X10_outputByte (hf.mono (by decide))) MYL_X10_outputByte MIL_X10_outputByte (g_w_mem (List.mem_of_getElem? (i := 1387) (by decide +kernel)) (by decide +kernel)) (sh_0 (hf.mono (by decide))) rfl rfl ⟨rfl, rfl⟩ ⟨by decide, by decide⟩ ⟨by decide, by decide⟩ rfl rfl (Nat.le_of_ble_eq_true rfl) dL_outputByte_4 ?_ ?_
  · intro g1 r
    refine GR_i2l (pc := 7) hC dL_outputByte_7 ?_
    refine GR_last (pc := 8) hC hF rfl dL_outputByte_8 ?_
    refine GR_goto (pc := 9) (tgt := 15) hC dL_outputByte_9 (by decide) ?_
    refine GR_iconst (pc := 15) (v := 0) hC dL_outputByte_15 rfl ?_
    exact GR_iretL (pc := 16) hC ⟨by decide, by decide⟩ hr dL_outputByte_16
  · intro g1 k
    rcases k with _ | _ | _ | _ | k
    · refine Or.inr ⟨12, ⟨[], ⟨0, 9, 12, 28⟩, [], "java/lang/IndexOutOfBoundsException", rfl, rfl, (fun w hw => (List.not_mem_nil hw).elim), by decide, by decide, g_w_mem (List.mem_of_getElem? (i := 861) (by decide +kernel)) (by decide +kernel), rfl⟩, fun q9 => ?_⟩
      refine GR_astore_n (pc := 12) (L' := [some (gr P 0), some (.int p1), some (gr P 177), some (.ref q9)]) hC dL_outputByte_12 rfl (by decide) rfl rfl ?_
      refine GR_iconst (pc := 13) (v := 1) hC dL_outputByte_13 rfl ?_
      exact GR_iretL (pc := 14) hC ⟨by decide, by decide⟩ hr dL_outputByte_14
    · exact Or.inl rfl
    · exact Or.inl rfl
    · exact Or.inl rfl
    · exact Or.inl rfl
