set_option maxRecDepth 20000 in
set_option maxHeartbeats 1000000 in
theorem k_X10_canFinish {P : GP} {p1 : Int32}{g : GM} (hf : g_on P 166) : KX P yX10_canFinish cX10_canFinish 2 (some .boolean) ⟨7, 1, 6, 120⟩ [gr P 0, .int p1] g (f_X10_canFinish g p1) := by
  refine KX.ofW (by decide) rfl (Nat.le_of_ble_eq_true rfl) (fun X x hC hr => ?_)
  unfold f_X10_canFinish
  change GR P X (g_QX P X x) 0 0 _ 0 [some (gr P 0), some (.int p1)] [] g x
  refine GR_aload_n (pc := 0) hC dX10_canFinish_0 rfl rfl ?_
  refine GR_getR (pc := 1) (r := 12) hC F_RX10_45 (sh_0 hf) rfl dX10_canFinish_1 ?_
  refine GR_iload_n (pc := 4) hC dX10_canFinish_4 rfl rfl ?_
  refine GR_callSP (pc := 5) (As := [gr P 12, .int p1]) hC (k_X2_ofHerd hf (g_S_12 hf)) MY_X2_ofHerd MS_X2_ofHerd ML_RX10_183 ⟨rfl, rfl⟩ ⟨by decide, by decide⟩ ⟨by decide, by decide⟩ rfl rfl (Nat.le_of_ble_eq_true rfl) dX10_canFinish_5 (fun v1 _ => ?_)
  refine GR_refuse2 (pc := 8) hC hr ML_RX10_129 (by decide) (Nat.le_of_ble_eq_true rfl) dX10_canFinish_8 ?_
  refine GR_aload_n (pc := 11) hC dX10_canFinish_11 rfl rfl ?_
  refine GR_getR (pc := 12) (r := 9) hC F_RX10_38 (sh_0 hf) rfl dX10_canFinish_12 ?_
  refine GR_aload_n (pc := 15) hC dX10_canFinish_15 rfl rfl ?_
  refine GR_getR (pc := 16) (r := 12) hC F_RX10_45 (sh_0 hf) rfl dX10_canFinish_16 ?_
  refine GR_iload_n (pc := 19) hC dX10_canFinish_19 rfl rfl ?_
  refine GR_callVI (pc := 20) (As := [gr P 12, .int p1]) hC (k_X0_finishesNow hf (g_S_12 hf)) MY_X0_finishesNow MI_X0_finishesNow ML_RX10_186 (sh_9 hf) rfl rfl ⟨rfl, rfl⟩ ⟨by decide, by decide⟩ ⟨by decide, by decide⟩ rfl rfl (Nat.le_of_ble_eq_true rfl) dX10_canFinish_20 (fun g3 v2 _ => ?_)
  exact GR_zretX (pc := 23) hC (by decide) hr dX10_canFinish_23
set_option maxRecDepth 20000 in
set_option maxHeartbeats 1000000 in
theorem k_X10_whyNotGranted {P : GP} {p1 : Int32} {p2 : Int32} {p3 : Int32}{g : GM} (hf : g_on P 166) : KX P yX10_whyNotGranted cX10_whyNotGranted 4 (some .int) ⟨7, 1, 6, 120⟩ [gr P 0, .int p1, .int p2, .int p3] g (f_X10_whyNotGranted g p1 p2 p3) := by
  refine KX.ofW (by decide) rfl (Nat.le_of_ble_eq_true rfl) (fun X x hC hr => ?_)
  unfold f_X10_whyNotGranted
  change GR P X (g_QX P X x) 0 0 _ 0 [some (gr P 0), some (.int p1), some (.int p2), some (.int p3)] [] g x
  refine GR_aload_n (pc := 0) hC dX10_whyNotGranted_0 rfl rfl ?_
  refine GR_getR (pc := 1) (r := 12) hC F_RX10_45 (sh_0 hf) rfl dX10_whyNotGranted_1 ?_
  refine GR_iload_n (pc := 4) hC dX10_whyNotGranted_4 rfl rfl ?_
  refine GR_iload_n (pc := 5) hC dX10_whyNotGranted_5 rfl rfl ?_
  refine GR_iload_n (pc := 6) hC dX10_whyNotGranted_6 rfl rfl ?_
  refine GR_callSP (pc := 7) (As := [gr P 12, .int p1, .int p2, .int p3]) hC (k_X2_ofUnits hf (g_S_12 hf)) MY_X2_ofUnits MS_X2_ofUnits ML_RX10_190 ⟨rfl, rfl⟩ ⟨by decide, by decide⟩ ⟨by decide, by decide⟩ rfl rfl (Nat.le_of_ble_eq_true rfl) dX10_whyNotGranted_7 (fun v1 _ => ?_)
  refine GR_refuse2 (pc := 10) hC hr ML_RX10_129 (by decide) (Nat.le_of_ble_eq_true rfl) dX10_whyNotGranted_10 ?_
  refine GR_aload_n (pc := 13) hC dX10_whyNotGranted_13 rfl rfl ?_
  refine GR_getR (pc := 14) (r := 9) hC F_RX10_38 (sh_0 hf) rfl dX10_whyNotGranted_14 ?_
  refine GR_aload_n (pc := 17) hC dX10_whyNotGranted_17 rfl rfl ?_
  refine GR_getR (pc := 18) (r := 12) hC F_RX10_45 (sh_0 hf) rfl dX10_whyNotGranted_18 ?_
  refine GR_iload_n (pc := 21) hC dX10_whyNotGranted_21 rfl rfl ?_
  refine GR_iload_n (pc := 22) hC dX10_whyNotGranted_22 rfl rfl ?_
  refine GR_iload_n (pc := 23) hC dX10_whyNotGranted_23 rfl rfl ?_
  refine GR_callVI (pc := 24) (As := [gr P 12, .int p1, .int p2, .int p3]) hC (k_X0_reasonAgainst hf (g_S_12 hf)) MY_X0_reasonAgainst MI_X0_reasonAgainst ML_RX10_194 (sh_9 hf) rfl rfl ⟨rfl, rfl⟩ ⟨by decide, by decide⟩ ⟨by decide, by decide⟩ rfl rfl (Nat.le_of_ble_eq_true rfl) dX10_whyNotGranted_24 (fun g3 v2 _ => ?_)
  exact GR_iretX (pc := 27) hC (by decide) hr dX10_whyNotGranted_27
set_option maxRecDepth 20000 in
set_option maxHeartbeats 1000000 in
theorem k_X10_largestGrant {P : GP} {p1 : Int32} {p2 : Int32}{g : GM} (hf : g_on P 166) : KX P yX10_largestGrant cX10_largestGrant 3 (some .int) ⟨7, 1, 6, 122⟩ [gr P 0, .int p1, .int p2] g (f_X10_largestGrant g p1 p2) := by
  refine KX.ofW (by decide) rfl (Nat.le_of_ble_eq_true rfl) (fun X x hC hr => ?_)
  unfold f_X10_largestGrant
  change GR P X (g_QX P X x) 0 0 _ 0 [some (gr P 0), some (.int p1), some (.int p2)] [] g x
  refine GR_aload_n (pc := 0) hC dX10_largestGrant_0 rfl rfl ?_
  refine GR_getR (pc := 1) (r := 12) hC F_RX10_45 (sh_0 hf) rfl dX10_largestGrant_1 ?_
  refine GR_iload_n (pc := 4) hC dX10_largestGrant_4 rfl rfl ?_
  refine GR_iload_n (pc := 5) hC dX10_largestGrant_5 rfl rfl ?_
  refine GR_callSP (pc := 6) (As := [gr P 12, .int p1, .int p2]) hC (k_X2_ofHerdOrPasture hf (g_S_12 hf)) MY_X2_ofHerdOrPasture MS_X2_ofHerdOrPasture ML_RX10_140 ⟨rfl, rfl⟩ ⟨by decide, by decide⟩ ⟨by decide, by decide⟩ rfl rfl (Nat.le_of_ble_eq_true rfl) dX10_largestGrant_6 (fun v1 _ => ?_)
  refine GR_refuse2 (pc := 9) hC hr ML_RX10_129 (by decide) (Nat.le_of_ble_eq_true rfl) dX10_largestGrant_9 ?_
  refine GR_aload_n (pc := 12) hC dX10_largestGrant_12 rfl rfl ?_
  refine GR_getR (pc := 13) (r := 9) hC F_RX10_38 (sh_0 hf) rfl dX10_largestGrant_13 ?_
  refine GR_aload_n (pc := 16) hC dX10_largestGrant_16 rfl rfl ?_
  refine GR_getR (pc := 17) (r := 12) hC F_RX10_45 (sh_0 hf) rfl dX10_largestGrant_17 ?_
  refine GR_iload_n (pc := 20) hC dX10_largestGrant_20 rfl rfl ?_
  refine GR_iload_n (pc := 21) hC dX10_largestGrant_21 rfl rfl ?_
  refine GR_callVI (pc := 22) (As := [gr P 12, .int p1, .int p2]) hC (k_X0_mostGrantable hf (g_S_12 hf)) MY_X0_mostGrantable MI_X0_mostGrantable ML_RX10_197 (sh_9 hf) rfl rfl ⟨rfl, rfl⟩ ⟨by decide, by decide⟩ ⟨by decide, by decide⟩ rfl rfl (Nat.le_of_ble_eq_true rfl) dX10_largestGrant_22 (fun g3 v2 _ => ?_)
  exact GR_iretX (pc := 25) hC (by decide) hr dX10_largestGrant_25
set_option maxRecDepth 20000 in
set_option maxHeartbeats 1000000 in
theorem k_X10_safeCapacity {P : GP} {p1 : Int32}{g : GM} (hf : g_on P 166) : KX P yX10_safeCapacity cX10_safeCapacity 2 (some .int) ⟨7, 1, 6, 120⟩ [gr P 0, .int p1] g (f_X10_safeCapacity g p1) := by
  refine KX.ofW (by decide) rfl (Nat.le_of_ble_eq_true rfl) (fun X x hC hr => ?_)
  unfold f_X10_safeCapacity
  change GR P X (g_QX P X x) 0 0 _ 0 [some (gr P 0), some (.int p1)] [] g x
  refine GR_aload_n (pc := 0) hC dX10_safeCapacity_0 rfl rfl ?_
  refine GR_getR (pc := 1) (r := 12) hC F_RX10_45 (sh_0 hf) rfl dX10_safeCapacity_1 ?_
  refine GR_iload_n (pc := 4) hC dX10_safeCapacity_4 rfl rfl ?_
  refine GR_callSP (pc := 5) (As := [gr P 12, .int p1]) hC (k_X2_ofPasture hf (g_S_12 hf)) MY_X2_ofPasture MS_X2_ofPasture ML_RX10_123 ⟨rfl, rfl⟩ ⟨by decide, by decide⟩ ⟨by decide, by decide⟩ rfl rfl (Nat.le_of_ble_eq_true rfl) dX10_safeCapacity_5 (fun v1 _ => ?_)
  refine GR_refuse2 (pc := 8) hC hr ML_RX10_129 (by decide) (Nat.le_of_ble_eq_true rfl) dX10_safeCapacity_8 ?_
  refine GR_aload_n (pc := 11) hC dX10_safeCapacity_11 rfl rfl ?_
  refine GR_getR (pc := 12) (r := 9) hC F_RX10_38 (sh_0 hf) rfl dX10_safeCapacity_12 ?_
  refine GR_aload_n (pc := 15) hC dX10_safeCapacity_15 rfl rfl ?_
  refine GR_getR (pc := 16) (r := 12) hC F_RX10_45 (sh_0 hf) rfl dX10_safeCapacity_16 ?_
  refine GR_iload_n (pc := 19) hC dX10_safeCapacity_19 rfl rfl ?_
  refine GR_callVI (pc := 20) (As := [gr P 12, .int p1]) hC (k_X0_leastSafeCapacity hf (g_S_12 hf)) MY_X0_leastSafeCapacity MI_X0_leastSafeCapacity ML_RX10_200 (sh_9 hf) rfl rfl ⟨rfl, rfl⟩ ⟨by decide, by decide⟩ ⟨by decide, by decide⟩ rfl rfl (Nat.le_of_ble_eq_true rfl) dX10_safeCapacity_20 (fun g3 v2 _ => ?_)
  exact GR_iretX (pc := 23) hC (by decide) hr dX10_safeCapacity_23
set_option maxRecDepth 20000 in
set_option maxHeartbeats 1000000 in
theorem k_X10_bestToFinish {P : GP}{g : GM} (hf : g_on P 166) : KI P yX10_bestToFinish cX10_bestToFinish 1 (some .int) ⟨6, 0, 0, 152⟩ [gr P 0] g (f_X10_bestToFinish g) := by
  refine KI.ofW (by decide) rfl (Nat.le_of_ble_eq_true rfl) (fun X x hC hr _ => ?_)
  unfold f_X10_bestToFinish
  change GR P X (g_QI P X x) 0 0 _ 0 [some (gr P 0)] [] g x
  refine GR_aload_n (pc := 0) hC dX10_bestToFinish_0 rfl rfl ?_
  refine GR_getR (pc := 1) (r := 9) hC F_RX10_38 (sh_0 hf) rfl dX10_bestToFinish_1 ?_
  refine GR_aload_n (pc := 4) hC dX10_bestToFinish_4 rfl rfl ?_
  refine GR_getR (pc := 5) (r := 12) hC F_RX10_45 (sh_0 hf) rfl dX10_bestToFinish_5 ?_
  refine GR_aload_n (pc := 8) hC dX10_bestToFinish_8 rfl rfl ?_
  refine GR_getR (pc := 9) (r := 27) hC F_RX10_49 (sh_0 hf) rfl dX10_bestToFinish_9 ?_
  refine GR_callVI (pc := 12) (As := [gr P 12, gr P 27]) hC (k_X0_bestFinisher hf (g_S_12 hf) (g_S_27 hf)) MY_X0_bestFinisher MI_X0_bestFinisher ML_RX10_203 (sh_9 hf) rfl rfl ⟨rfl, rfl⟩ ⟨by decide, by decide⟩ ⟨by decide, by decide⟩ rfl rfl (Nat.le_of_ble_eq_true rfl) dX10_bestToFinish_12 (fun g2 v1 _ => ?_)
  exact GR_iret (pc := 15) hC hr dX10_bestToFinish_15
set_option maxRecDepth 20000 in
set_option maxHeartbeats 1000000 in
theorem k_X10_queueLength {P : GP}{g : GM} (hf : g_on P 166) : KI P yX10_queueLength cX10_queueLength 1 (some .int) ⟨0, 0, 0, 0⟩ [gr P 0] g ((f_X10_queueLength g).map (fun r => (g, r))) := by
  refine KI.ofWP (by decide) rfl (Nat.le_of_ble_eq_true rfl) (fun X x hC hr => ?_)
  unfold f_X10_queueLength
  change GR P X (g_QP P X g x) 0 0 _ 0 [some (gr P 0)] [] g x
  refine GR_aload_n (pc := 0) hC dX10_queueLength_0 rfl rfl ?_
  refine GR_getR (pc := 1) (r := 12) hC F_RX10_45 (sh_0 hf) rfl dX10_queueLength_1 ?_
  refine GR_getI (pc := 4) hC F_RX10_207 (sh_12 hf) rfl dX10_queueLength_4 ?_
  exact GR_iretP (pc := 7) hC hr dX10_queueLength_7
set_option maxRecDepth 20000 in
set_option maxHeartbeats 1000000 in
theorem k_X10_queuedHerd {P : GP} {p1 : Int32}{g : GM} (hf : g_on P 166) : KI P yX10_queuedHerd cX10_queuedHerd 2 (some .int) ⟨0, 0, 0, 0⟩ [gr P 0, .int p1] g ((f_X10_queuedHerd g p1).map (fun r => (g, r))) := by
  refine KI.ofWP (by decide) rfl (Nat.le_of_ble_eq_true rfl) (fun X x hC hr => ?_)
  unfold f_X10_queuedHerd
  change GR P X (g_QP P X g x) 0 0 _ 0 [some (gr P 0), some (.int p1)] [] g x
  refine GR_iload_n (pc := 0) hC dX10_queuedHerd_0 rfl rfl ?_
  refine GR_if_lt (pc := 1) (tgt := 27) hC dX10_queuedHerd_1 (by decide) ?_ ?_
  · refine GR_iconst (pc := 27) (v := (-1)) hC dX10_queuedHerd_27 rfl ?_
    exact GR_iretP (pc := 28) hC hr dX10_queuedHerd_28
  · refine GR_iload_n (pc := 4) hC dX10_queuedHerd_4 rfl rfl ?_
    refine GR_aload_n (pc := 5) hC dX10_queuedHerd_5 rfl rfl ?_
    refine GR_getR (pc := 6) (r := 12) hC F_RX10_45 (sh_0 hf) rfl dX10_queuedHerd_6 ?_
    refine GR_getI (pc := 9) hC F_RX10_207 (sh_12 hf) rfl dX10_queuedHerd_9 ?_
    refine GR_icmp_ge (pc := 12) (tgt := 27) hC dX10_queuedHerd_12 (by decide) ?_ ?_
    · refine GR_iconst (pc := 27) (v := (-1)) hC dX10_queuedHerd_27 rfl ?_
      exact GR_iretP (pc := 28) hC hr dX10_queuedHerd_28
    · refine GR_aload_n (pc := 15) hC dX10_queuedHerd_15 rfl rfl ?_
      refine GR_getR (pc := 16) (r := 12) hC F_RX10_45 (sh_0 hf) rfl dX10_queuedHerd_16 ?_
      refine GR_getR (pc := 19) (r := 24) hC F_RX10_210 (sh_12 hf) rfl dX10_queuedHerd_19 ?_
      refine GR_iload_n (pc := 22) hC dX10_queuedHerd_22 rfl rfl ?_
      refine GR_iald (pc := 23) hC (sh_24 hf) dX10_queuedHerd_23 (fun v1 _ => ?_)
      refine GR_goto (pc := 24) (tgt := 28) hC dX10_queuedHerd_24 (by decide) ?_
      exact GR_iretP (pc := 28) hC hr dX10_queuedHerd_28
set_option maxRecDepth 20000 in
set_option maxHeartbeats 1000000 in
theorem k_X10_isWaiting {P : GP} {p1 : Int32}{g : GM} (hf : g_on P 166) : KX P yX10_isWaiting cX10_isWaiting 2 (some .boolean) ⟨7, 1, 6, 120⟩ [gr P 0, .int p1] g (f_X10_isWaiting g p1) := by
  refine KX.ofW (by decide) rfl (Nat.le_of_ble_eq_true rfl) (fun X x hC hr => ?_)
  unfold f_X10_isWaiting
  change GR P X (g_QX P X x) 0 0 _ 0 [some (gr P 0), some (.int p1)] [] g x
  refine GR_aload_n (pc := 0) hC dX10_isWaiting_0 rfl rfl ?_
  refine GR_getR (pc := 1) (r := 12) hC F_RX10_45 (sh_0 hf) rfl dX10_isWaiting_1 ?_
  refine GR_iload_n (pc := 4) hC dX10_isWaiting_4 rfl rfl ?_
  refine GR_callSP (pc := 5) (As := [gr P 12, .int p1]) hC (k_X2_ofHerd hf (g_S_12 hf)) MY_X2_ofHerd MS_X2_ofHerd ML_RX10_183 ⟨rfl, rfl⟩ ⟨by decide, by decide⟩ ⟨by decide, by decide⟩ rfl rfl (Nat.le_of_ble_eq_true rfl) dX10_isWaiting_5 (fun v1 _ => ?_)
  refine GR_refuse2 (pc := 8) hC hr ML_RX10_129 (by decide) (Nat.le_of_ble_eq_true rfl) dX10_isWaiting_8 ?_
  refine GR_aload_n (pc := 11) hC dX10_isWaiting_11 rfl rfl ?_
  refine GR_getR (pc := 12) (r := 12) hC F_RX10_45 (sh_0 hf) rfl dX10_isWaiting_12 ?_
  refine GR_iload_n (pc := 15) hC dX10_isWaiting_15 rfl rfl ?_
  refine GR_callVP (pc := 16) (As := [.int p1]) hC (k_X9_waits hf (g_S_12 hf)) MY_X9_waits MI_X9_waits ML_RX10_213 (sh_12 hf) rfl rfl ⟨rfl, rfl⟩ ⟨by decide, by decide⟩ ⟨by decide, by decide⟩ rfl rfl (Nat.le_of_ble_eq_true rfl) dX10_isWaiting_16 (fun v2 _ => ?_)
  exact GR_zretX (pc := 19) hC (by decide) hr dX10_isWaiting_19
set_option maxRecDepth 20000 in
set_option maxHeartbeats 1000000 in
theorem k_X10_requestedPasture {P : GP} {p1 : Int32}{g : GM} (hf : g_on P 166) : KX P yX10_requestedPasture cX10_requestedPasture 2 (some .int) ⟨7, 1, 6, 120⟩ [gr P 0, .int p1] g (f_X10_requestedPasture g p1) := by
  refine KX.ofW (by decide) rfl (Nat.le_of_ble_eq_true rfl) (fun X x hC hr => ?_)
  unfold f_X10_requestedPasture
  change GR P X (g_QX P X x) 0 0 _ 0 [some (gr P 0), some (.int p1)] [] g x
  refine GR_aload_n (pc := 0) hC dX10_requestedPasture_0 rfl rfl ?_
  refine GR_getR (pc := 1) (r := 12) hC F_RX10_45 (sh_0 hf) rfl dX10_requestedPasture_1 ?_
  refine GR_iload_n (pc := 4) hC dX10_requestedPasture_4 rfl rfl ?_
  refine GR_callSP (pc := 5) (As := [gr P 12, .int p1]) hC (k_X2_ofHerd hf (g_S_12 hf)) MY_X2_ofHerd MS_X2_ofHerd ML_RX10_183 ⟨rfl, rfl⟩ ⟨by decide, by decide⟩ ⟨by decide, by decide⟩ rfl rfl (Nat.le_of_ble_eq_true rfl) dX10_requestedPasture_5 (fun v1 _ => ?_)
  refine GR_refuse2 (pc := 8) hC hr ML_RX10_129 (by decide) (Nat.le_of_ble_eq_true rfl) dX10_requestedPasture_8 ?_
  refine GR_aload_n (pc := 11) hC dX10_requestedPasture_11 rfl rfl ?_
  refine GR_getR (pc := 12) (r := 12) hC F_RX10_45 (sh_0 hf) rfl dX10_requestedPasture_12 ?_
  refine GR_iload_n (pc := 15) hC dX10_requestedPasture_15 rfl rfl ?_
  refine GR_callVP (pc := 16) (As := [.int p1]) hC (k_X9_waits hf (g_S_12 hf)) MY_X9_waits MI_X9_waits ML_RX10_213 (sh_12 hf) rfl rfl ⟨rfl, rfl⟩ ⟨by decide, by decide⟩ ⟨by decide, by decide⟩ rfl rfl (Nat.le_of_ble_eq_true rfl) dX10_requestedPasture_16 (fun v2 _ => ?_)
  refine GR_if_eq (pc := 19) (tgt := 34) hC dX10_requestedPasture_19 (by decide) ?_ ?_
  · refine GR_iconst (pc := 34) (v := (-1)) hC dX10_requestedPasture_34 rfl ?_
    exact GR_iretX (pc := 35) hC (by decide) hr dX10_requestedPasture_35
  · refine GR_aload_n (pc := 22) hC dX10_requestedPasture_22 rfl rfl ?_
    refine GR_getR (pc := 23) (r := 12) hC F_RX10_45 (sh_0 hf) rfl dX10_requestedPasture_23 ?_
    refine GR_getR (pc := 26) (r := 22) hC F_RX10_217 (sh_12 hf) rfl dX10_requestedPasture_26 ?_
    refine GR_iload_n (pc := 29) hC dX10_requestedPasture_29 rfl rfl ?_
    refine GR_iald (pc := 30) hC (sh_22 hf) dX10_requestedPasture_30 (fun v3 _ => ?_)
    refine GR_goto (pc := 31) (tgt := 35) hC dX10_requestedPasture_31 (by decide) ?_
    exact GR_iretX (pc := 35) hC (by decide) hr dX10_requestedPasture_35
set_option maxRecDepth 20000 in
set_option maxHeartbeats 1000000 in
theorem k_X10_requestedAmount {P : GP} {p1 : Int32}{g : GM} (hf : g_on P 166) : KX P yX10_requestedAmount cX10_requestedAmount 2 (some .int) ⟨7, 1, 6, 120⟩ [gr P 0, .int p1] g (f_X10_requestedAmount g p1) := by
  refine KX.ofW (by decide) rfl (Nat.le_of_ble_eq_true rfl) (fun X x hC hr => ?_)
  unfold f_X10_requestedAmount
  change GR P X (g_QX P X x) 0 0 _ 0 [some (gr P 0), some (.int p1)] [] g x
  refine GR_aload_n (pc := 0) hC dX10_requestedAmount_0 rfl rfl ?_
  refine GR_getR (pc := 1) (r := 12) hC F_RX10_45 (sh_0 hf) rfl dX10_requestedAmount_1 ?_
  refine GR_iload_n (pc := 4) hC dX10_requestedAmount_4 rfl rfl ?_
  refine GR_callSP (pc := 5) (As := [gr P 12, .int p1]) hC (k_X2_ofHerd hf (g_S_12 hf)) MY_X2_ofHerd MS_X2_ofHerd ML_RX10_183 ⟨rfl, rfl⟩ ⟨by decide, by decide⟩ ⟨by decide, by decide⟩ rfl rfl (Nat.le_of_ble_eq_true rfl) dX10_requestedAmount_5 (fun v1 _ => ?_)
  refine GR_refuse2 (pc := 8) hC hr ML_RX10_129 (by decide) (Nat.le_of_ble_eq_true rfl) dX10_requestedAmount_8 ?_
  refine GR_aload_n (pc := 11) hC dX10_requestedAmount_11 rfl rfl ?_
  refine GR_getR (pc := 12) (r := 12) hC F_RX10_45 (sh_0 hf) rfl dX10_requestedAmount_12 ?_
  refine GR_getR (pc := 15) (r := 23) hC F_RX10_220 (sh_12 hf) rfl dX10_requestedAmount_15 ?_
  refine GR_iload_n (pc := 18) hC dX10_requestedAmount_18 rfl rfl ?_
  refine GR_iald (pc := 19) hC (sh_23 hf) dX10_requestedAmount_19 (fun v2 _ => ?_)
  exact GR_iretX (pc := 20) hC (by decide) hr dX10_requestedAmount_20
set_option maxRecDepth 20000 in
set_option maxHeartbeats 1000000 in
theorem k_X10_waitsFor {P : GP} {p1 : Int32} {p2 : Int32}{g : GM} (hf : g_on P 166) : KX P yX10_waitsFor cX10_waitsFor 3 (some .boolean) ⟨7, 1, 6, 120⟩ [gr P 0, .int p1, .int p2] g (f_X10_waitsFor g p1 p2) := by
  refine KX.ofW (by decide) rfl (Nat.le_of_ble_eq_true rfl) (fun X x hC hr => ?_)
  unfold f_X10_waitsFor
  change GR P X (g_QX P X x) 0 0 _ 0 [some (gr P 0), some (.int p1), some (.int p2)] [] g x
  refine GR_aload_n (pc := 0) hC dX10_waitsFor_0 rfl rfl ?_
  refine GR_getR (pc := 1) (r := 12) hC F_RX10_45 (sh_0 hf) rfl dX10_waitsFor_1 ?_
  refine GR_iload_n (pc := 4) hC dX10_waitsFor_4 rfl rfl ?_
  refine GR_iload_n (pc := 5) hC dX10_waitsFor_5 rfl rfl ?_
  refine GR_callSP (pc := 6) (As := [gr P 12, .int p1, .int p2]) hC (k_X2_ofTwoHerds hf (g_S_12 hf)) MY_X2_ofTwoHerds MS_X2_ofTwoHerds ML_RX10_223 ⟨rfl, rfl⟩ ⟨by decide, by decide⟩ ⟨by decide, by decide⟩ rfl rfl (Nat.le_of_ble_eq_true rfl) dX10_waitsFor_6 (fun v1 _ => ?_)
  refine GR_refuse2 (pc := 9) hC hr ML_RX10_129 (by decide) (Nat.le_of_ble_eq_true rfl) dX10_waitsFor_9 ?_
  refine GR_iload_n (pc := 12) hC dX10_waitsFor_12 rfl rfl ?_
  refine GR_iload_n (pc := 13) hC dX10_waitsFor_13 rfl rfl ?_
  refine GR_icmp_eq (pc := 14) (tgt := 33) hC dX10_waitsFor_14 (by decide) ?_ ?_
  · refine GR_iconst (pc := 33) (v := 0) hC dX10_waitsFor_33 rfl ?_
    exact GR_zretCX (pc := 34) hC (Or.inl rfl) (by decide) hr dX10_waitsFor_34
  · refine GR_aload_n (pc := 17) hC dX10_waitsFor_17 rfl rfl ?_
    refine GR_getR (pc := 18) (r := 12) hC F_RX10_45 (sh_0 hf) rfl dX10_waitsFor_18 ?_
    refine GR_iload_n (pc := 21) hC dX10_waitsFor_21 rfl rfl ?_
    refine GR_iload_n (pc := 22) hC dX10_waitsFor_22 rfl rfl ?_
    refine GR_callVP (pc := 23) (As := [.int p1, .int p2]) hC (k_X9_isHeldUpBy hf (g_S_12 hf)) MY_X9_isHeldUpBy MI_X9_isHeldUpBy ML_RX10_226 (sh_12 hf) rfl rfl ⟨rfl, rfl⟩ ⟨by decide, by decide⟩ ⟨by decide, by decide⟩ rfl rfl (Nat.le_of_ble_eq_true rfl) dX10_waitsFor_23 (fun v2 _ => ?_)
    refine GR_if_eq (pc := 26) (tgt := 33) hC dX10_waitsFor_26 (by decide) ?_ ?_
    · refine GR_iconst (pc := 33) (v := 0) hC dX10_waitsFor_33 rfl ?_
      exact GR_zretCX (pc := 34) hC (Or.inl rfl) (by decide) hr dX10_waitsFor_34
    · refine GR_iconst (pc := 29) (v := 1) hC dX10_waitsFor_29 rfl ?_
      refine GR_goto (pc := 30) (tgt := 34) hC dX10_waitsFor_30 (by decide) ?_
      exact GR_zretCX (pc := 34) hC (Or.inr rfl) (by decide) hr dX10_waitsFor_34
set_option maxRecDepth 20000 in
set_option maxHeartbeats 1000000 in
theorem k_X10_isDeadlocked {P : GP} {p1 : Int32}{g : GM} (hf : g_on P 166) : KX P yX10_isDeadlocked cX10_isDeadlocked 2 (some .boolean) ⟨7, 1, 6, 120⟩ [gr P 0, .int p1] g (f_X10_isDeadlocked g p1) := by
  refine KX.ofW (by decide) rfl (Nat.le_of_ble_eq_true rfl) (fun X x hC hr => ?_)
  unfold f_X10_isDeadlocked
  change GR P X (g_QX P X x) 0 0 _ 0 [some (gr P 0), some (.int p1)] [] g x
  refine GR_aload_n (pc := 0) hC dX10_isDeadlocked_0 rfl rfl ?_
  refine GR_getR (pc := 1) (r := 12) hC F_RX10_45 (sh_0 hf) rfl dX10_isDeadlocked_1 ?_
  refine GR_iload_n (pc := 4) hC dX10_isDeadlocked_4 rfl rfl ?_
  refine GR_callSP (pc := 5) (As := [gr P 12, .int p1]) hC (k_X2_ofHerd hf (g_S_12 hf)) MY_X2_ofHerd MS_X2_ofHerd ML_RX10_183 ⟨rfl, rfl⟩ ⟨by decide, by decide⟩ ⟨by decide, by decide⟩ rfl rfl (Nat.le_of_ble_eq_true rfl) dX10_isDeadlocked_5 (fun v1 _ => ?_)
  refine GR_refuse2 (pc := 8) hC hr ML_RX10_129 (by decide) (Nat.le_of_ble_eq_true rfl) dX10_isDeadlocked_8 ?_
  refine GR_aload_n (pc := 11) hC dX10_isDeadlocked_11 rfl rfl ?_
  refine GR_getR (pc := 12) (r := 9) hC F_RX10_38 (sh_0 hf) rfl dX10_isDeadlocked_12 ?_
  refine GR_aload_n (pc := 15) hC dX10_isDeadlocked_15 rfl rfl ?_
  refine GR_getR (pc := 16) (r := 12) hC F_RX10_45 (sh_0 hf) rfl dX10_isDeadlocked_16 ?_
  refine GR_callVI (pc := 19) (As := [gr P 12]) hC (k_X0_stuckHerds hf (g_S_12 hf)) MY_X0_stuckHerds MI_X0_stuckHerds ML_RX10_230 (sh_9 hf) rfl rfl ⟨rfl, rfl⟩ ⟨by decide, by decide⟩ ⟨by decide, by decide⟩ rfl rfl (Nat.le_of_ble_eq_true rfl) dX10_isDeadlocked_19 (fun g3 v2 _ => ?_)
  refine GR_iload_n (pc := 22) hC dX10_isDeadlocked_22 rfl rfl ?_
  refine GR_callSP (pc := 23) (As := [.int v2, .int p1]) hC (k_X10_isIn hf) MY_X10_isIn MS_X10_isIn ML_RX10_234 ⟨rfl, rfl⟩ ⟨by decide, by decide⟩ ⟨by decide, by decide⟩ rfl rfl (Nat.le_of_ble_eq_true rfl) dX10_isDeadlocked_23 (fun v4 _ => ?_)
  exact GR_zretX (pc := 26) hC (by decide) hr dX10_isDeadlocked_26
set_option maxRecDepth 20000 in
set_option maxHeartbeats 1000000 in
theorem k_J6_bitCount_0f7a4 {P : GP} {p0 : Int32}{g : GM} (hf : g_on P 166) : KI P yJ6_bitCount_0f7a4 cJ6_bitCount_0f7a4 1 (some .int) ⟨0, 0, 0, 0⟩ [.int p0] g ((f_J6_bitCount_0f7a4 g p0).map (fun r => (g, r))) := by
  refine KI.ofWP (by decide) rfl (Nat.le_of_ble_eq_true rfl) (fun X x hC hr => ?_)
  unfold f_J6_bitCount_0f7a4
  change GR P X (g_QP P X g x) 0 0 _ 0 [some (.int p0)] [] g x
  refine GR_iload_n (pc := 0) hC dJ6_bitCount_0f7a4_0 rfl rfl ?_
  refine GR_iload_n (pc := 1) hC dJ6_bitCount_0f7a4_1 rfl rfl ?_
  refine GR_iconst (pc := 2) (v := 1) hC dJ6_bitCount_0f7a4_2 rfl ?_
  refine GR_iushr (pc := 3) hC dJ6_bitCount_0f7a4_3 ?_
  refine GR_ldcI (pc := 4) (v := 1431655765) hC CI_RJ6_265 dJ6_bitCount_0f7a4_4 ?_
  refine GR_iand (pc := 7) hC dJ6_bitCount_0f7a4_7 ?_
  refine GR_isub (pc := 8) hC dJ6_bitCount_0f7a4_8 ?_
  refine GR_istore_n (pc := 9) (L' := [some (.int (p0 - ((g_ushr p0 1) &&& 1431655765)))]) hC dJ6_bitCount_0f7a4_9 rfl (by decide) rfl rfl ?_
  refine GR_iload_n (pc := 10) hC dJ6_bitCount_0f7a4_10 rfl rfl ?_
  refine GR_ldcI (pc := 11) (v := 858993459) hC CI_RJ6_266 dJ6_bitCount_0f7a4_11 ?_
  refine GR_iand (pc := 14) hC dJ6_bitCount_0f7a4_14 ?_
  refine GR_iload_n (pc := 15) hC dJ6_bitCount_0f7a4_15 rfl rfl ?_
  refine GR_iconst (pc := 16) (v := 2) hC dJ6_bitCount_0f7a4_16 rfl ?_
  refine GR_iushr (pc := 17) hC dJ6_bitCount_0f7a4_17 ?_
  refine GR_ldcI (pc := 18) (v := 858993459) hC CI_RJ6_266 dJ6_bitCount_0f7a4_18 ?_
  refine GR_iand (pc := 21) hC dJ6_bitCount_0f7a4_21 ?_
  refine GR_iadd (pc := 22) hC dJ6_bitCount_0f7a4_22 ?_
  refine GR_istore_n (pc := 23) (L' := [some (.int (((p0 - ((g_ushr p0 1) &&& 1431655765)) &&& 858993459) + ((g_ushr (p0 - ((g_ushr p0 1) &&& 1431655765)) 2) &&& 858993459)))]) hC dJ6_bitCount_0f7a4_23 rfl (by decide) rfl rfl ?_
  refine GR_iload_n (pc := 24) hC dJ6_bitCount_0f7a4_24 rfl rfl ?_
  refine GR_iload_n (pc := 25) hC dJ6_bitCount_0f7a4_25 rfl rfl ?_
  refine GR_iconst (pc := 26) (v := 4) hC dJ6_bitCount_0f7a4_26 rfl ?_
  refine GR_iushr (pc := 27) hC dJ6_bitCount_0f7a4_27 ?_
  refine GR_iadd (pc := 28) hC dJ6_bitCount_0f7a4_28 ?_
  refine GR_ldcI (pc := 29) (v := 252645135) hC CI_RJ6_267 dJ6_bitCount_0f7a4_29 ?_
  refine GR_iand (pc := 32) hC dJ6_bitCount_0f7a4_32 ?_
  refine GR_istore_n (pc := 33) (L' := [some (.int (((((p0 - ((g_ushr p0 1) &&& 1431655765)) &&& 858993459) + ((g_ushr (p0 - ((g_ushr p0 1) &&& 1431655765)) 2) &&& 858993459)) + (g_ushr (((p0 - ((g_ushr p0 1) &&& 1431655765)) &&& 858993459) + ((g_ushr (p0 - ((g_ushr p0 1) &&& 1431655765)) 2) &&& 858993459)) 4)) &&& 252645135))]) hC dJ6_bitCount_0f7a4_33 rfl (by decide) rfl rfl ?_
  refine GR_iload_n (pc := 34) hC dJ6_bitCount_0f7a4_34 rfl rfl ?_
  refine GR_iload_n (pc := 35) hC dJ6_bitCount_0f7a4_35 rfl rfl ?_
  refine GR_bipush (pc := 36) (v := 8) hC dJ6_bitCount_0f7a4_36 rfl ?_
  refine GR_iushr (pc := 38) hC dJ6_bitCount_0f7a4_38 ?_
  refine GR_iadd (pc := 39) hC dJ6_bitCount_0f7a4_39 ?_
  refine GR_istore_n (pc := 40) (L' := [some (.int ((((((p0 - ((g_ushr p0 1) &&& 1431655765)) &&& 858993459) + ((g_ushr (p0 - ((g_ushr p0 1) &&& 1431655765)) 2) &&& 858993459)) + (g_ushr (((p0 - ((g_ushr p0 1) &&& 1431655765)) &&& 858993459) + ((g_ushr (p0 - ((g_ushr p0 1) &&& 1431655765)) 2) &&& 858993459)) 4)) &&& 252645135) + (g_ushr (((((p0 - ((g_ushr p0 1) &&& 1431655765)) &&& 858993459) + ((g_ushr (p0 - ((g_ushr p0 1) &&& 1431655765)) 2) &&& 858993459)) + (g_ushr (((p0 - ((g_ushr p0 1) &&& 1431655765)) &&& 858993459) + ((g_ushr (p0 - ((g_ushr p0 1) &&& 1431655765)) 2) &&& 858993459)) 4)) &&& 252645135) 8)))]) hC dJ6_bitCount_0f7a4_40 rfl (by decide) rfl rfl ?_
  refine GR_iload_n (pc := 41) hC dJ6_bitCount_0f7a4_41 rfl rfl ?_
  refine GR_iload_n (pc := 42) hC dJ6_bitCount_0f7a4_42 rfl rfl ?_
  refine GR_bipush (pc := 43) (v := 16) hC dJ6_bitCount_0f7a4_43 rfl ?_
  refine GR_iushr (pc := 45) hC dJ6_bitCount_0f7a4_45 ?_
  refine GR_iadd (pc := 46) hC dJ6_bitCount_0f7a4_46 ?_
  refine GR_istore_n (pc := 47) (L' := [some (.int (((((((p0 - ((g_ushr p0 1) &&& 1431655765)) &&& 858993459) + ((g_ushr (p0 - ((g_ushr p0 1) &&& 1431655765)) 2) &&& 858993459)) + (g_ushr (((p0 - ((g_ushr p0 1) &&& 1431655765)) &&& 858993459) + ((g_ushr (p0 - ((g_ushr p0 1) &&& 1431655765)) 2) &&& 858993459)) 4)) &&& 252645135) + (g_ushr (((((p0 - ((g_ushr p0 1) &&& 1431655765)) &&& 858993459) + ((g_ushr (p0 - ((g_ushr p0 1) &&& 1431655765)) 2) &&& 858993459)) + (g_ushr (((p0 - ((g_ushr p0 1) &&& 1431655765)) &&& 858993459) + ((g_ushr (p0 - ((g_ushr p0 1) &&& 1431655765)) 2) &&& 858993459)) 4)) &&& 252645135) 8)) + (g_ushr ((((((p0 - ((g_ushr p0 1) &&& 1431655765)) &&& 858993459) + ((g_ushr (p0 - ((g_ushr p0 1) &&& 1431655765)) 2) &&& 858993459)) + (g_ushr (((p0 - ((g_ushr p0 1) &&& 1431655765)) &&& 858993459) + ((g_ushr (p0 - ((g_ushr p0 1) &&& 1431655765)) 2) &&& 858993459)) 4)) &&& 252645135) + (g_ushr (((((p0 - ((g_ushr p0 1) &&& 1431655765)) &&& 858993459) + ((g_ushr (p0 - ((g_ushr p0 1) &&& 1431655765)) 2) &&& 858993459)) + (g_ushr (((p0 - ((g_ushr p0 1) &&& 1431655765)) &&& 858993459) + ((g_ushr (p0 - ((g_ushr p0 1) &&& 1431655765)) 2) &&& 858993459)) 4)) &&& 252645135) 8)) 16)))]) hC dJ6_bitCount_0f7a4_47 rfl (by decide) rfl rfl ?_
  refine GR_iload_n (pc := 48) hC dJ6_bitCount_0f7a4_48 rfl rfl ?_
  refine GR_bipush (pc := 49) (v := 63) hC dJ6_bitCount_0f7a4_49 rfl ?_
  refine GR_iand (pc := 51) hC dJ6_bitCount_0f7a4_51 ?_
  exact GR_iretP (pc := 52) hC hr dJ6_bitCount_0f7a4_52
set_option maxRecDepth 20000 in
set_option maxHeartbeats 1000000 in
theorem k_X10_deadlockedCount {P : GP}{g : GM} (hf : g_on P 166) : KI P yX10_deadlockedCount cX10_deadlockedCount 1 (some .int) ⟨3, 0, 0, 67⟩ [gr P 0] g (f_X10_deadlockedCount g) := by
  refine KI.ofW (by decide) rfl (Nat.le_of_ble_eq_true rfl) (fun X x hC hr _ => ?_)
  unfold f_X10_deadlockedCount
  change GR P X (g_QI P X x) 0 0 _ 0 [some (gr P 0)] [] g x
  refine GR_aload_n (pc := 0) hC dX10_deadlockedCount_0 rfl rfl ?_
  refine GR_getR (pc := 1) (r := 9) hC F_RX10_38 (sh_0 hf) rfl dX10_deadlockedCount_1 ?_
  refine GR_aload_n (pc := 4) hC dX10_deadlockedCount_4 rfl rfl ?_
  refine GR_getR (pc := 5) (r := 12) hC F_RX10_45 (sh_0 hf) rfl dX10_deadlockedCount_5 ?_
  refine GR_callVI (pc := 8) (As := [gr P 12]) hC (k_X0_stuckHerds hf (g_S_12 hf)) MY_X0_stuckHerds MI_X0_stuckHerds ML_RX10_230 (sh_9 hf) rfl rfl ⟨rfl, rfl⟩ ⟨by decide, by decide⟩ ⟨by decide, by decide⟩ rfl rfl (Nat.le_of_ble_eq_true rfl) dX10_deadlockedCount_8 (fun g2 v1 _ => ?_)
  refine GR_callSP (pc := 11) (As := [.int v1]) hC (k_J6_bitCount_0f7a4 hf) MY_J6_bitCount_0f7a4 MS_J6_bitCount_0f7a4 ML_RX10_237 ⟨rfl, rfl⟩ ⟨by decide, by decide⟩ ⟨by decide, by decide⟩ rfl rfl (Nat.le_of_ble_eq_true rfl) dX10_deadlockedCount_11 (fun v3 _ => ?_)
  exact GR_iret (pc := 14) hC hr dX10_deadlockedCount_14
set_option maxRecDepth 20000 in
set_option maxHeartbeats 1000000 in
theorem k_X10_debt {P : GP} {p1 : Int32} {p2 : Int32}{g : GM} (hf : g_on P 166) : KX P yX10_debt cX10_debt 3 (some .int) ⟨7, 1, 6, 120⟩ [gr P 0, .int p1, .int p2] g (f_X10_debt g p1 p2) := by
  refine KX.ofW (by decide) rfl (Nat.le_of_ble_eq_true rfl) (fun X x hC hr => ?_)
  unfold f_X10_debt
  change GR P X (g_QX P X x) 0 0 _ 0 [some (gr P 0), some (.int p1), some (.int p2)] [] g x
  refine GR_aload_n (pc := 0) hC dX10_debt_0 rfl rfl ?_
  refine GR_getR (pc := 1) (r := 12) hC F_RX10_45 (sh_0 hf) rfl dX10_debt_1 ?_
  refine GR_iload_n (pc := 4) hC dX10_debt_4 rfl rfl ?_
  refine GR_iload_n (pc := 5) hC dX10_debt_5 rfl rfl ?_
  refine GR_callSP (pc := 6) (As := [gr P 12, .int p1, .int p2]) hC (k_X2_ofTwoHerds hf (g_S_12 hf)) MY_X2_ofTwoHerds MS_X2_ofTwoHerds ML_RX10_223 ⟨rfl, rfl⟩ ⟨by decide, by decide⟩ ⟨by decide, by decide⟩ rfl rfl (Nat.le_of_ble_eq_true rfl) dX10_debt_6 (fun v1 _ => ?_)
  refine GR_refuse2 (pc := 9) hC hr ML_RX10_129 (by decide) (Nat.le_of_ble_eq_true rfl) dX10_debt_9 ?_
  refine GR_aload_n (pc := 12) hC dX10_debt_12 rfl rfl ?_
  refine GR_getR (pc := 13) (r := 12) hC F_RX10_45 (sh_0 hf) rfl dX10_debt_13 ?_
  refine GR_getR (pc := 16) (r := 25) hC F_RX10_242 (sh_12 hf) rfl dX10_debt_16 ?_
  refine GR_iload_n (pc := 19) hC dX10_debt_19 rfl rfl ?_
  refine GR_iload_n (pc := 20) hC dX10_debt_20 rfl rfl ?_
  refine GR_callVP (pc := 21) (As := [.int p1, .int p2]) hC (k_X1_owed hf (g_Db_25 hf)) MY_X1_owed MI_X1_owed ML_RX10_246 (sh_25 hf) rfl rfl ⟨rfl, rfl⟩ ⟨by decide, by decide⟩ ⟨by decide, by decide⟩ rfl rfl (Nat.le_of_ble_eq_true rfl) dX10_debt_21 (fun v2 _ => ?_)
  exact GR_iretX (pc := 24) hC (by decide) hr dX10_debt_24
set_option maxRecDepth 20000 in
set_option maxHeartbeats 1000000 in
theorem k_X10_totalDebt {P : GP} {p1 : Int32}{g : GM} (hf : g_on P 166) : KX P yX10_totalDebt cX10_totalDebt 2 (some .int) ⟨7, 1, 6, 120⟩ [gr P 0, .int p1] g (f_X10_totalDebt g p1) := by
  refine KX.ofW (by decide) rfl (Nat.le_of_ble_eq_true rfl) (fun X x hC hr => ?_)
  unfold f_X10_totalDebt
  change GR P X (g_QX P X x) 0 0 _ 0 [some (gr P 0), some (.int p1)] [] g x
  refine GR_aload_n (pc := 0) hC dX10_totalDebt_0 rfl rfl ?_
  refine GR_getR (pc := 1) (r := 12) hC F_RX10_45 (sh_0 hf) rfl dX10_totalDebt_1 ?_
  refine GR_iload_n (pc := 4) hC dX10_totalDebt_4 rfl rfl ?_
  refine GR_callSP (pc := 5) (As := [gr P 12, .int p1]) hC (k_X2_ofHerd hf (g_S_12 hf)) MY_X2_ofHerd MS_X2_ofHerd ML_RX10_183 ⟨rfl, rfl⟩ ⟨by decide, by decide⟩ ⟨by decide, by decide⟩ rfl rfl (Nat.le_of_ble_eq_true rfl) dX10_totalDebt_5 (fun v1 _ => ?_)
  refine GR_refuse2 (pc := 8) hC hr ML_RX10_129 (by decide) (Nat.le_of_ble_eq_true rfl) dX10_totalDebt_8 ?_
  refine GR_aload_n (pc := 11) hC dX10_totalDebt_11 rfl rfl ?_
  refine GR_getR (pc := 12) (r := 12) hC F_RX10_45 (sh_0 hf) rfl dX10_totalDebt_12 ?_
  refine GR_getR (pc := 15) (r := 25) hC F_RX10_242 (sh_12 hf) rfl dX10_totalDebt_15 ?_
  refine GR_iconst (pc := 18) (v := 1) hC dX10_totalDebt_18 rfl ?_
  refine GR_iload_n (pc := 19) hC dX10_totalDebt_19 rfl rfl ?_
  refine GR_ishl (pc := 20) hC dX10_totalDebt_20 ?_
  refine GR_sipush (pc := 21) (v := 255) hC dX10_totalDebt_21 rfl ?_
  refine GR_callVP (pc := 24) (As := [.int (1 <<< (p1 &&& 31)), .int 255]) hC (k_X1_sumBetween hf (g_Db_25 hf)) MY_X1_sumBetween MI_X1_sumBetween ML_RX10_251 (sh_25 hf) rfl rfl ⟨rfl, rfl⟩ ⟨by decide, by decide⟩ ⟨by decide, by decide⟩ rfl rfl (Nat.le_of_ble_eq_true rfl) dX10_totalDebt_24 (fun v2 _ => ?_)
  exact GR_iretX (pc := 27) hC (by decide) hr dX10_totalDebt_27
set_option maxRecDepth 20000 in
set_option maxHeartbeats 1000000 in
theorem k_X10_totalClaims {P : GP} {p1 : Int32}{g : GM} (hf : g_on P 166) : KX P yX10_totalClaims cX10_totalClaims 2 (some .int) ⟨7, 1, 6, 120⟩ [gr P 0, .int p1] g (f_X10_totalClaims g p1) := by
  refine KX.ofW (by decide) rfl (Nat.le_of_ble_eq_true rfl) (fun X x hC hr => ?_)
  unfold f_X10_totalClaims
  change GR P X (g_QX P X x) 0 0 _ 0 [some (gr P 0), some (.int p1)] [] g x
  refine GR_aload_n (pc := 0) hC dX10_totalClaims_0 rfl rfl ?_
  refine GR_getR (pc := 1) (r := 12) hC F_RX10_45 (sh_0 hf) rfl dX10_totalClaims_1 ?_
  refine GR_iload_n (pc := 4) hC dX10_totalClaims_4 rfl rfl ?_
  refine GR_callSP (pc := 5) (As := [gr P 12, .int p1]) hC (k_X2_ofHerd hf (g_S_12 hf)) MY_X2_ofHerd MS_X2_ofHerd ML_RX10_183 ⟨rfl, rfl⟩ ⟨by decide, by decide⟩ ⟨by decide, by decide⟩ rfl rfl (Nat.le_of_ble_eq_true rfl) dX10_totalClaims_5 (fun v1 _ => ?_)
  refine GR_refuse2 (pc := 8) hC hr ML_RX10_129 (by decide) (Nat.le_of_ble_eq_true rfl) dX10_totalClaims_8 ?_
  refine GR_aload_n (pc := 11) hC dX10_totalClaims_11 rfl rfl ?_
  refine GR_getR (pc := 12) (r := 12) hC F_RX10_45 (sh_0 hf) rfl dX10_totalClaims_12 ?_
  refine GR_getR (pc := 15) (r := 25) hC F_RX10_242 (sh_12 hf) rfl dX10_totalClaims_15 ?_
  refine GR_sipush (pc := 18) (v := 255) hC dX10_totalClaims_18 rfl ?_
  refine GR_iconst (pc := 21) (v := 1) hC dX10_totalClaims_21 rfl ?_
  refine GR_iload_n (pc := 22) hC dX10_totalClaims_22 rfl rfl ?_
  refine GR_ishl (pc := 23) hC dX10_totalClaims_23 ?_
  refine GR_callVP (pc := 24) (As := [.int 255, .int (1 <<< (p1 &&& 31))]) hC (k_X1_sumBetween hf (g_Db_25 hf)) MY_X1_sumBetween MI_X1_sumBetween ML_RX10_251 (sh_25 hf) rfl rfl ⟨rfl, rfl⟩ ⟨by decide, by decide⟩ ⟨by decide, by decide⟩ rfl rfl (Nat.le_of_ble_eq_true rfl) dX10_totalClaims_24 (fun v2 _ => ?_)
  exact GR_iretX (pc := 27) hC (by decide) hr dX10_totalClaims_27
set_option maxRecDepth 20000 in
set_option maxHeartbeats 1000000 in
theorem k_X10_closedCycleLength {P : GP} {p1 : Int32} {p2 : Int32}{g : GM} (hf : g_on P 166) : KX P yX10_closedCycleLength cX10_closedCycleLength 3 (some .int) ⟨7, 1, 6, 120⟩ [gr P 0, .int p1, .int p2] g (f_X10_closedCycleLength g p1 p2) := by
  refine KX.ofW (by decide) rfl (Nat.le_of_ble_eq_true rfl) (fun X x hC hr => ?_)
  unfold f_X10_closedCycleLength
  change GR P X (g_QX P X x) 0 0 _ 0 [some (gr P 0), some (.int p1), some (.int p2)] [] g x
  refine GR_aload_n (pc := 0) hC dX10_closedCycleLength_0 rfl rfl ?_
  refine GR_getR (pc := 1) (r := 12) hC F_RX10_45 (sh_0 hf) rfl dX10_closedCycleLength_1 ?_
  refine GR_iload_n (pc := 4) hC dX10_closedCycleLength_4 rfl rfl ?_
  refine GR_iload_n (pc := 5) hC dX10_closedCycleLength_5 rfl rfl ?_
  refine GR_callSP (pc := 6) (As := [gr P 12, .int p1, .int p2]) hC (k_X2_ofTwoHerds hf (g_S_12 hf)) MY_X2_ofTwoHerds MS_X2_ofTwoHerds ML_RX10_223 ⟨rfl, rfl⟩ ⟨by decide, by decide⟩ ⟨by decide, by decide⟩ rfl rfl (Nat.le_of_ble_eq_true rfl) dX10_closedCycleLength_6 (fun v1 _ => ?_)
  refine GR_refuse2 (pc := 9) hC hr ML_RX10_129 (by decide) (Nat.le_of_ble_eq_true rfl) dX10_closedCycleLength_9 ?_
  refine GR_aload_n (pc := 12) hC dX10_closedCycleLength_12 rfl rfl ?_
  refine GR_getR (pc := 13) (r := 12) hC F_RX10_45 (sh_0 hf) rfl dX10_closedCycleLength_13 ?_
  refine GR_getR (pc := 16) (r := 25) hC F_RX10_242 (sh_12 hf) rfl dX10_closedCycleLength_16 ?_
  refine GR_iload_n (pc := 19) hC dX10_closedCycleLength_19 rfl rfl ?_
  refine GR_iload_n (pc := 20) hC dX10_closedCycleLength_20 rfl rfl ?_
  refine GR_callVP (pc := 21) (As := [.int p1, .int p2]) hC (k_X1_cycleClosedBy hf (g_Db_25 hf)) MY_X1_cycleClosedBy MI_X1_cycleClosedBy ML_RX10_254 (sh_25 hf) rfl rfl ⟨rfl, rfl⟩ ⟨by decide, by decide⟩ ⟨by decide, by decide⟩ rfl rfl (Nat.le_of_ble_eq_true rfl) dX10_closedCycleLength_21 (fun v2 _ => ?_)
  exact GR_iretX (pc := 24) hC (by decide) hr dX10_closedCycleLength_24
set_option maxRecDepth 20000 in
set_option maxHeartbeats 1000000 in
theorem k_X10_debtDepth {P : GP} {p1 : Int32}{g : GM} (hf : g_on P 166) : KX P yX10_debtDepth cX10_debtDepth 2 (some .int) ⟨7, 1, 6, 120⟩ [gr P 0, .int p1] g (f_X10_debtDepth g p1) := by
  refine KX.ofW (by decide) rfl (Nat.le_of_ble_eq_true rfl) (fun X x hC hr => ?_)
  unfold f_X10_debtDepth
  change GR P X (g_QX P X x) 0 0 _ 0 [some (gr P 0), some (.int p1)] [] g x
  refine GR_aload_n (pc := 0) hC dX10_debtDepth_0 rfl rfl ?_
  refine GR_getR (pc := 1) (r := 12) hC F_RX10_45 (sh_0 hf) rfl dX10_debtDepth_1 ?_
  refine GR_iload_n (pc := 4) hC dX10_debtDepth_4 rfl rfl ?_
  refine GR_callSP (pc := 5) (As := [gr P 12, .int p1]) hC (k_X2_ofHerd hf (g_S_12 hf)) MY_X2_ofHerd MS_X2_ofHerd ML_RX10_183 ⟨rfl, rfl⟩ ⟨by decide, by decide⟩ ⟨by decide, by decide⟩ rfl rfl (Nat.le_of_ble_eq_true rfl) dX10_debtDepth_5 (fun v1 _ => ?_)
  refine GR_refuse2 (pc := 8) hC hr ML_RX10_129 (by decide) (Nat.le_of_ble_eq_true rfl) dX10_debtDepth_8 ?_
  refine GR_aload_n (pc := 11) hC dX10_debtDepth_11 rfl rfl ?_
  refine GR_getR (pc := 12) (r := 12) hC F_RX10_45 (sh_0 hf) rfl dX10_debtDepth_12 ?_
  refine GR_getR (pc := 15) (r := 25) hC F_RX10_242 (sh_12 hf) rfl dX10_debtDepth_15 ?_
  refine GR_iload_n (pc := 18) hC dX10_debtDepth_18 rfl rfl ?_
  refine GR_callVP (pc := 19) (As := [.int p1]) hC (k_X1_longestChain hf (g_Db_25 hf)) MY_X1_longestChain MI_X1_longestChain ML_RX10_257 (sh_25 hf) rfl rfl ⟨rfl, rfl⟩ ⟨by decide, by decide⟩ ⟨by decide, by decide⟩ rfl rfl (Nat.le_of_ble_eq_true rfl) dX10_debtDepth_19 (fun v2 _ => ?_)
  exact GR_iretX (pc := 22) hC (by decide) hr dX10_debtDepth_22
set_option maxRecDepth 20000 in
set_option maxHeartbeats 1000000 in
theorem k_X10_settlementOrder {P : GP} {p1 : Int32}{g : GM} (hf : g_on P 166) : KX P yX10_settlementOrder cX10_settlementOrder 2 (some .int) ⟨7, 1, 6, 120⟩ [gr P 0, .int p1] g (f_X10_settlementOrder g p1) := by
  refine KX.ofW (by decide) rfl (Nat.le_of_ble_eq_true rfl) (fun X x hC hr => ?_)
  unfold f_X10_settlementOrder
  change GR P X (g_QX P X x) 0 0 _ 0 [some (gr P 0), some (.int p1)] [] g x
  refine GR_aload_n (pc := 0) hC dX10_settlementOrder_0 rfl rfl ?_
  refine GR_getR (pc := 1) (r := 12) hC F_RX10_45 (sh_0 hf) rfl dX10_settlementOrder_1 ?_
  refine GR_iload_n (pc := 4) hC dX10_settlementOrder_4 rfl rfl ?_
  refine GR_callSP (pc := 5) (As := [gr P 12, .int p1]) hC (k_X2_ofHerd hf (g_S_12 hf)) MY_X2_ofHerd MS_X2_ofHerd ML_RX10_183 ⟨rfl, rfl⟩ ⟨by decide, by decide⟩ ⟨by decide, by decide⟩ rfl rfl (Nat.le_of_ble_eq_true rfl) dX10_settlementOrder_5 (fun v1 _ => ?_)
  refine GR_refuse2 (pc := 8) hC hr ML_RX10_129 (by decide) (Nat.le_of_ble_eq_true rfl) dX10_settlementOrder_8 ?_
  refine GR_aload_n (pc := 11) hC dX10_settlementOrder_11 rfl rfl ?_
  refine GR_getR (pc := 12) (r := 12) hC F_RX10_45 (sh_0 hf) rfl dX10_settlementOrder_12 ?_
  refine GR_getR (pc := 15) (r := 25) hC F_RX10_242 (sh_12 hf) rfl dX10_settlementOrder_15 ?_
  refine GR_iload_n (pc := 18) hC dX10_settlementOrder_18 rfl rfl ?_
  refine GR_callVP (pc := 19) (As := [.int p1]) hC (k_X1_settledAt hf (g_Db_25 hf)) MY_X1_settledAt MI_X1_settledAt ML_RX10_260 (sh_25 hf) rfl rfl ⟨rfl, rfl⟩ ⟨by decide, by decide⟩ ⟨by decide, by decide⟩ rfl rfl (Nat.le_of_ble_eq_true rfl) dX10_settlementOrder_19 (fun v2 _ => ?_)
  exact GR_iretX (pc := 22) hC (by decide) hr dX10_settlementOrder_22
set_option maxRecDepth 20000 in
set_option maxHeartbeats 1000000 in
theorem k_X10_transitiveClaims {P : GP} {p1 : Int32}{g : GM} (hf : g_on P 166) : KX P yX10_transitiveClaims cX10_transitiveClaims 3 (some .int) ⟨7, 1, 6, 120⟩ [gr P 0, .int p1] g (f_X10_transitiveClaims g p1) := by
  refine KX.ofW (by decide) rfl (Nat.le_of_ble_eq_true rfl) (fun X x hC hr => ?_)
  unfold f_X10_transitiveClaims
  change GR P X (g_QX P X x) 0 0 _ 0 [some (gr P 0), some (.int p1), none] [] g x
  refine GR_aload_n (pc := 0) hC dX10_transitiveClaims_0 rfl rfl ?_
  refine GR_getR (pc := 1) (r := 12) hC F_RX10_45 (sh_0 hf) rfl dX10_transitiveClaims_1 ?_
  refine GR_iload_n (pc := 4) hC dX10_transitiveClaims_4 rfl rfl ?_
  refine GR_callSP (pc := 5) (As := [gr P 12, .int p1]) hC (k_X2_ofHerd hf (g_S_12 hf)) MY_X2_ofHerd MS_X2_ofHerd ML_RX10_183 ⟨rfl, rfl⟩ ⟨by decide, by decide⟩ ⟨by decide, by decide⟩ rfl rfl (Nat.le_of_ble_eq_true rfl) dX10_transitiveClaims_5 (fun v1 _ => ?_)
  refine GR_refuse2 (pc := 8) hC hr ML_RX10_129 (by decide) (Nat.le_of_ble_eq_true rfl) dX10_transitiveClaims_8 ?_
  refine GR_aload_n (pc := 11) hC dX10_transitiveClaims_11 rfl rfl ?_
  refine GR_getR (pc := 12) (r := 12) hC F_RX10_45 (sh_0 hf) rfl dX10_transitiveClaims_12 ?_
  refine GR_getR (pc := 15) (r := 25) hC F_RX10_242 (sh_12 hf) rfl dX10_transitiveClaims_15 ?_
  refine GR_iload_n (pc := 18) hC dX10_transitiveClaims_18 rfl rfl ?_
  refine GR_callVP (pc := 19) (As := [.int p1]) hC (k_X1_herdsReaching hf (g_Db_25 hf)) MY_X1_herdsReaching MI_X1_herdsReaching ML_RX10_263 (sh_25 hf) rfl rfl ⟨rfl, rfl⟩ ⟨by decide, by decide⟩ ⟨by decide, by decide⟩ rfl rfl (Nat.le_of_ble_eq_true rfl) dX10_transitiveClaims_19 (fun v2 _ => ?_)
  refine GR_iconst (pc := 22) (v := 1) hC dX10_transitiveClaims_22 rfl ?_
  refine GR_iload_n (pc := 23) hC dX10_transitiveClaims_23 rfl rfl ?_
  refine GR_ishl (pc := 24) hC dX10_transitiveClaims_24 ?_
  refine GR_ior (pc := 25) hC dX10_transitiveClaims_25 ?_
  refine GR_istore_n (pc := 26) (L' := [some (gr P 0), some (.int p1), some (.int (v2 ||| (1 <<< (p1 &&& 31))))]) hC dX10_transitiveClaims_26 rfl (by decide) rfl rfl ?_
  refine GR_aload_n (pc := 27) hC dX10_transitiveClaims_27 rfl rfl ?_
  refine GR_getR (pc := 28) (r := 12) hC F_RX10_45 (sh_0 hf) rfl dX10_transitiveClaims_28 ?_
  refine GR_getR (pc := 31) (r := 25) hC F_RX10_242 (sh_12 hf) rfl dX10_transitiveClaims_31 ?_
  refine GR_iload_n (pc := 34) hC dX10_transitiveClaims_34 rfl rfl ?_
  refine GR_iload_n (pc := 35) hC dX10_transitiveClaims_35 rfl rfl ?_
  refine GR_callVP (pc := 36) (As := [.int (v2 ||| (1 <<< (p1 &&& 31))), .int (v2 ||| (1 <<< (p1 &&& 31)))]) hC (k_X1_sumBetween hf (g_Db_25 hf)) MY_X1_sumBetween MI_X1_sumBetween ML_RX10_251 (sh_25 hf) rfl rfl ⟨rfl, rfl⟩ ⟨by decide, by decide⟩ ⟨by decide, by decide⟩ rfl rfl (Nat.le_of_ble_eq_true rfl) dX10_transitiveClaims_36 (fun v3 _ => ?_)
  exact GR_iretX (pc := 39) hC (by decide) hr dX10_transitiveClaims_39
set_option maxRecDepth 20000 in
set_option maxHeartbeats 1000000 in
theorem k_X10_immediateGrants {P : GP}{g : GM} (hf : g_on P 166) : KI P yX10_immediateGrants cX10_immediateGrants 1 (some .int) ⟨0, 0, 0, 0⟩ [gr P 0] g ((f_X10_immediateGrants g).map (fun r => (g, r))) := by
  refine KI.ofWP (by decide) rfl (Nat.le_of_ble_eq_true rfl) (fun X x hC hr => ?_)
  unfold f_X10_immediateGrants
  change GR P X (g_QP P X g x) 0 0 _ 0 [some (gr P 0)] [] g x
  refine GR_aload_n (pc := 0) hC dX10_immediateGrants_0 rfl rfl ?_
  refine GR_getR (pc := 1) (r := 12) hC F_RX10_45 (sh_0 hf) rfl dX10_immediateGrants_1 ?_
  refine GR_getI (pc := 4) hC F_RX10_266 (sh_12 hf) rfl dX10_immediateGrants_4 ?_
  exact GR_iretP (pc := 7) hC hr dX10_immediateGrants_7
set_option maxRecDepth 20000 in
set_option maxHeartbeats 1000000 in
theorem k_X10_queuedGrants {P : GP}{g : GM} (hf : g_on P 166) : KI P yX10_queuedGrants cX10_queuedGrants 1 (some .int) ⟨0, 0, 0, 0⟩ [gr P 0] g ((f_X10_queuedGrants g).map (fun r => (g, r))) := by
  refine KI.ofWP (by decide) rfl (Nat.le_of_ble_eq_true rfl) (fun X x hC hr => ?_)
  unfold f_X10_queuedGrants
  change GR P X (g_QP P X g x) 0 0 _ 0 [some (gr P 0)] [] g x
  refine GR_aload_n (pc := 0) hC dX10_queuedGrants_0 rfl rfl ?_
  refine GR_getR (pc := 1) (r := 12) hC F_RX10_45 (sh_0 hf) rfl dX10_queuedGrants_1 ?_
  refine GR_getI (pc := 4) hC F_RX10_269 (sh_12 hf) rfl dX10_queuedGrants_4 ?_
  exact GR_iretP (pc := 7) hC hr dX10_queuedGrants_7
set_option maxRecDepth 20000 in
set_option maxHeartbeats 1000000 in
theorem k_X10_queuedRequests {P : GP}{g : GM} (hf : g_on P 166) : KI P yX10_queuedRequests cX10_queuedRequests 1 (some .int) ⟨0, 0, 0, 0⟩ [gr P 0] g ((f_X10_queuedRequests g).map (fun r => (g, r))) := by
  refine KI.ofWP (by decide) rfl (Nat.le_of_ble_eq_true rfl) (fun X x hC hr => ?_)
  unfold f_X10_queuedRequests
  change GR P X (g_QP P X g x) 0 0 _ 0 [some (gr P 0)] [] g x
  refine GR_aload_n (pc := 0) hC dX10_queuedRequests_0 rfl rfl ?_
  refine GR_getR (pc := 1) (r := 12) hC F_RX10_45 (sh_0 hf) rfl dX10_queuedRequests_1 ?_
  refine GR_getI (pc := 4) hC F_RX10_272 (sh_12 hf) rfl dX10_queuedRequests_4 ?_
  exact GR_iretP (pc := 7) hC hr dX10_queuedRequests_7
set_option maxRecDepth 20000 in
set_option maxHeartbeats 1000000 in
theorem k_X10_withdrawnRequests {P : GP}{g : GM} (hf : g_on P 166) : KI P yX10_withdrawnRequests cX10_withdrawnRequests 1 (some .int) ⟨0, 0, 0, 0⟩ [gr P 0] g ((f_X10_withdrawnRequests g).map (fun r => (g, r))) := by
  refine KI.ofWP (by decide) rfl (Nat.le_of_ble_eq_true rfl) (fun X x hC hr => ?_)
  unfold f_X10_withdrawnRequests
  change GR P X (g_QP P X g x) 0 0 _ 0 [some (gr P 0)] [] g x
  refine GR_aload_n (pc := 0) hC dX10_withdrawnRequests_0 rfl rfl ?_
  refine GR_getR (pc := 1) (r := 12) hC F_RX10_45 (sh_0 hf) rfl dX10_withdrawnRequests_1 ?_
  refine GR_getI (pc := 4) hC F_RX10_275 (sh_12 hf) rfl dX10_withdrawnRequests_4 ?_
  exact GR_iretP (pc := 7) hC hr dX10_withdrawnRequests_7
set_option maxRecDepth 20000 in
set_option maxHeartbeats 1000000 in
theorem k_X10_inconsistencies {P : GP}{g : GM} (hf : g_on P 166) : KI P yX10_inconsistencies cX10_inconsistencies 1 (some .int) ⟨4, 0, 0, 91⟩ [gr P 0] g ((f_X10_inconsistencies g).map (fun r => (g, r))) := by
  refine KI.ofWP (by decide) rfl (Nat.le_of_ble_eq_true rfl) (fun X x hC hr => ?_)
  unfold f_X10_inconsistencies
  change GR P X (g_QP P X g x) 0 0 _ 0 [some (gr P 0)] [] g x
  refine GR_aload_n (pc := 0) hC dX10_inconsistencies_0 rfl rfl ?_
  refine GR_getR (pc := 1) (r := 12) hC F_RX10_45 (sh_0 hf) rfl dX10_inconsistencies_1 ?_
  refine GR_getI (pc := 4) hC F_RX10_272 (sh_12 hf) rfl dX10_inconsistencies_4 ?_
  refine GR_aload_n (pc := 7) hC dX10_inconsistencies_7 rfl rfl ?_
  refine GR_getR (pc := 8) (r := 12) hC F_RX10_45 (sh_0 hf) rfl dX10_inconsistencies_8 ?_
  refine GR_getI (pc := 11) hC F_RX10_269 (sh_12 hf) rfl dX10_inconsistencies_11 ?_
  refine GR_isub (pc := 14) hC dX10_inconsistencies_14 ?_
  refine GR_aload_n (pc := 15) hC dX10_inconsistencies_15 rfl rfl ?_
  refine GR_getR (pc := 16) (r := 12) hC F_RX10_45 (sh_0 hf) rfl dX10_inconsistencies_16 ?_
  refine GR_getI (pc := 19) hC F_RX10_275 (sh_12 hf) rfl dX10_inconsistencies_19 ?_
  refine GR_isub (pc := 22) hC dX10_inconsistencies_22 ?_
  refine GR_aload_n (pc := 23) hC dX10_inconsistencies_23 rfl rfl ?_
  refine GR_getR (pc := 24) (r := 12) hC F_RX10_45 (sh_0 hf) rfl dX10_inconsistencies_24 ?_
  refine GR_getI (pc := 27) hC F_RX10_207 (sh_12 hf) rfl dX10_inconsistencies_27 ?_
  refine GR_isub (pc := 30) hC dX10_inconsistencies_30 ?_
  refine GR_aload_n (pc := 31) hC dX10_inconsistencies_31 rfl rfl ?_
  refine GR_getR (pc := 32) (r := 12) hC F_RX10_45 (sh_0 hf) rfl dX10_inconsistencies_32 ?_
  refine GR_callVP (pc := 35) (As := []) hC (k_X9_excessiveAllocations hf (g_S_12 hf)) MY_X9_excessiveAllocations MI_X9_excessiveAllocations ML_RX10_285 (sh_12 hf) rfl rfl ⟨rfl, rfl⟩ ⟨by decide, by decide⟩ ⟨by decide, by decide⟩ rfl rfl (Nat.le_of_ble_eq_true rfl) dX10_inconsistencies_35 (fun v1 _ => ?_)
  refine GR_iadd (pc := 38) hC dX10_inconsistencies_38 ?_
  refine GR_aload_n (pc := 39) hC dX10_inconsistencies_39 rfl rfl ?_
  refine GR_getR (pc := 40) (r := 12) hC F_RX10_45 (sh_0 hf) rfl dX10_inconsistencies_40 ?_
  refine GR_getR (pc := 43) (r := 25) hC F_RX10_242 (sh_12 hf) rfl dX10_inconsistencies_43 ?_
  refine GR_callVP (pc := 46) (As := []) hC (k_X1_herdsInCycles hf (g_Db_25 hf)) MY_X1_herdsInCycles MI_X1_herdsInCycles ML_RX10_288 (sh_25 hf) rfl rfl ⟨rfl, rfl⟩ ⟨by decide, by decide⟩ ⟨by decide, by decide⟩ rfl rfl (Nat.le_of_ble_eq_true rfl) dX10_inconsistencies_46 (fun v2 _ => ?_)
  refine GR_iadd (pc := 49) hC dX10_inconsistencies_49 ?_
  exact GR_iretP (pc := 50) hC hr dX10_inconsistencies_50
set_option maxRecDepth 20000 in
set_option maxHeartbeats 1000000 in
theorem k_X10_request {P : GP} {p1 : Int32} {p2 : Int32} {p3 : Int32}{g : GM} (hf : g_on P 166) : KX P yX10_request cX10_request 4 (some .boolean) ⟨7, 1, 6, 123⟩ [gr P 0, .int p1, .int p2, .int p3] g (f_X10_request g p1 p2 p3) := by
  refine KX.ofW (by decide) rfl (Nat.le_of_ble_eq_true rfl) (fun X x hC hr => ?_)
  unfold f_X10_request
  change GR P X (g_QX P X x) 0 0 _ 0 [some (gr P 0), some (.int p1), some (.int p2), some (.int p3)] [] g x
  refine GR_aload_n (pc := 0) hC dX10_request_0 rfl rfl ?_
  refine GR_getR (pc := 1) (r := 12) hC F_RX10_45 (sh_0 hf) rfl dX10_request_1 ?_
  refine GR_iload_n (pc := 4) hC dX10_request_4 rfl rfl ?_
  refine GR_iload_n (pc := 5) hC dX10_request_5 rfl rfl ?_
  refine GR_iload_n (pc := 6) hC dX10_request_6 rfl rfl ?_
  refine GR_callSP (pc := 7) (As := [gr P 12, .int p1, .int p2, .int p3]) hC (k_X2_ofRequest hf (g_S_12 hf)) MY_X2_ofRequest MS_X2_ofRequest ML_RX10_291 ⟨rfl, rfl⟩ ⟨by decide, by decide⟩ ⟨by decide, by decide⟩ rfl rfl (Nat.le_of_ble_eq_true rfl) dX10_request_7 (fun v1 _ => ?_)
  refine GR_refuse2 (pc := 10) hC hr ML_RX10_129 (by decide) (Nat.le_of_ble_eq_true rfl) dX10_request_10 ?_
  refine GR_aload_n (pc := 13) hC dX10_request_13 rfl rfl ?_
  refine GR_getR (pc := 14) (r := 42) hC F_RX10_55 (sh_0 hf) rfl dX10_request_14 ?_
  refine GR_aload_n (pc := 17) hC dX10_request_17 rfl rfl ?_
  refine GR_getR (pc := 18) (r := 12) hC F_RX10_45 (sh_0 hf) rfl dX10_request_18 ?_
  refine GR_callVV (pc := 21) (As := [gr P 12]) hC (k_X3_remember hf (g_S_12 hf)) MY_X3_remember MI_X3_remember ML_RX10_294 (sh_42 hf) rfl rfl ⟨rfl, rfl⟩ ⟨by decide, by decide⟩ ⟨by decide, by decide⟩ rfl rfl (Nat.le_of_ble_eq_true rfl) dX10_request_21 (fun g3 _ => ?_)
  refine GR_aload_n (pc := 24) hC dX10_request_24 rfl rfl ?_
  refine GR_getR (pc := 25) (r := 9) hC F_RX10_38 (sh_0 hf) rfl dX10_request_25 ?_
  refine GR_aload_n (pc := 28) hC dX10_request_28 rfl rfl ?_
  refine GR_getR (pc := 29) (r := 12) hC F_RX10_45 (sh_0 hf) rfl dX10_request_29 ?_
  refine GR_iload_n (pc := 32) hC dX10_request_32 rfl rfl ?_
  refine GR_iload_n (pc := 33) hC dX10_request_33 rfl rfl ?_
  refine GR_iload_n (pc := 34) hC dX10_request_34 rfl rfl ?_
  refine GR_callVI (pc := 35) (As := [gr P 12, .int p1, .int p2, .int p3]) hC (k_X0_grantOrQueue hf (g_S_12 hf)) MY_X0_grantOrQueue MI_X0_grantOrQueue ML_RX10_297 (sh_9 hf) rfl rfl ⟨rfl, rfl⟩ ⟨by decide, by decide⟩ ⟨by decide, by decide⟩ rfl rfl (Nat.le_of_ble_eq_true rfl) dX10_request_35 (fun g5 v4 _ => ?_)
  exact GR_zretX (pc := 38) hC (by decide) hr dX10_request_38
set_option maxRecDepth 20000 in
set_option maxHeartbeats 1000000 in
theorem k_X10_release {P : GP} {p1 : Int32} {p2 : Int32} {p3 : Int32}{g : GM} (hf : g_on P 166) : KX P yX10_release cX10_release 4 (some .int) ⟨7, 1, 6, 127⟩ [gr P 0, .int p1, .int p2, .int p3] g (f_X10_release g p1 p2 p3) := by
  refine KX.ofW (by decide) rfl (Nat.le_of_ble_eq_true rfl) (fun X x hC hr => ?_)
  unfold f_X10_release
  change GR P X (g_QX P X x) 0 0 _ 0 [some (gr P 0), some (.int p1), some (.int p2), some (.int p3)] [] g x
  refine GR_aload_n (pc := 0) hC dX10_release_0 rfl rfl ?_
  refine GR_getR (pc := 1) (r := 12) hC F_RX10_45 (sh_0 hf) rfl dX10_release_1 ?_
  refine GR_iload_n (pc := 4) hC dX10_release_4 rfl rfl ?_
  refine GR_iload_n (pc := 5) hC dX10_release_5 rfl rfl ?_
  refine GR_iload_n (pc := 6) hC dX10_release_6 rfl rfl ?_
  refine GR_callSP (pc := 7) (As := [gr P 12, .int p1, .int p2, .int p3]) hC (k_X2_ofRelease hf (g_S_12 hf)) MY_X2_ofRelease MS_X2_ofRelease ML_RX10_301 ⟨rfl, rfl⟩ ⟨by decide, by decide⟩ ⟨by decide, by decide⟩ rfl rfl (Nat.le_of_ble_eq_true rfl) dX10_release_7 (fun v1 _ => ?_)
  refine GR_refuse2 (pc := 10) hC hr ML_RX10_129 (by decide) (Nat.le_of_ble_eq_true rfl) dX10_release_10 ?_
  refine GR_aload_n (pc := 13) hC dX10_release_13 rfl rfl ?_
  refine GR_getR (pc := 14) (r := 42) hC F_RX10_55 (sh_0 hf) rfl dX10_release_14 ?_
  refine GR_aload_n (pc := 17) hC dX10_release_17 rfl rfl ?_
  refine GR_getR (pc := 18) (r := 12) hC F_RX10_45 (sh_0 hf) rfl dX10_release_18 ?_
  refine GR_callVV (pc := 21) (As := [gr P 12]) hC (k_X3_remember hf (g_S_12 hf)) MY_X3_remember MI_X3_remember ML_RX10_294 (sh_42 hf) rfl rfl ⟨rfl, rfl⟩ ⟨by decide, by decide⟩ ⟨by decide, by decide⟩ rfl rfl (Nat.le_of_ble_eq_true rfl) dX10_release_21 (fun g3 _ => ?_)
  refine GR_aload_n (pc := 24) hC dX10_release_24 rfl rfl ?_
  refine GR_getR (pc := 25) (r := 9) hC F_RX10_38 (sh_0 hf) rfl dX10_release_25 ?_
  refine GR_aload_n (pc := 28) hC dX10_release_28 rfl rfl ?_
  refine GR_getR (pc := 29) (r := 12) hC F_RX10_45 (sh_0 hf) rfl dX10_release_29 ?_
  refine GR_iload_n (pc := 32) hC dX10_release_32 rfl rfl ?_
  refine GR_iload_n (pc := 33) hC dX10_release_33 rfl rfl ?_
  refine GR_iload_n (pc := 34) hC dX10_release_34 rfl rfl ?_
  refine GR_callVI (pc := 35) (As := [gr P 12, .int p1, .int p2, .int p3]) hC (k_X0_takeBack hf (g_S_12 hf)) MY_X0_takeBack MI_X0_takeBack ML_RX10_304 (sh_9 hf) rfl rfl ⟨rfl, rfl⟩ ⟨by decide, by decide⟩ ⟨by decide, by decide⟩ rfl rfl (Nat.le_of_ble_eq_true rfl) dX10_release_35 (fun g5 v4 _ => ?_)
  exact GR_iretX (pc := 38) hC (by decide) hr dX10_release_38
set_option maxRecDepth 20000 in
set_option maxHeartbeats 1000000 in
theorem k_X10_finish {P : GP} {p1 : Int32}{g : GM} (hf : g_on P 166) : KX P yX10_finish cX10_finish 2 (some .int) ⟨7, 1, 6, 126⟩ [gr P 0, .int p1] g (f_X10_finish g p1) := by
  refine KX.ofW (by decide) rfl (Nat.le_of_ble_eq_true rfl) (fun X x hC hr => ?_)
  unfold f_X10_finish
  change GR P X (g_QX P X x) 0 0 _ 0 [some (gr P 0), some (.int p1)] [] g x
  refine GR_aload_n (pc := 0) hC dX10_finish_0 rfl rfl ?_
  refine GR_getR (pc := 1) (r := 12) hC F_RX10_45 (sh_0 hf) rfl dX10_finish_1 ?_
  refine GR_iload_n (pc := 4) hC dX10_finish_4 rfl rfl ?_
  refine GR_callSP (pc := 5) (As := [gr P 12, .int p1]) hC (k_X2_ofHerd hf (g_S_12 hf)) MY_X2_ofHerd MS_X2_ofHerd ML_RX10_183 ⟨rfl, rfl⟩ ⟨by decide, by decide⟩ ⟨by decide, by decide⟩ rfl rfl (Nat.le_of_ble_eq_true rfl) dX10_finish_5 (fun v1 _ => ?_)
  refine GR_refuse2 (pc := 8) hC hr ML_RX10_129 (by decide) (Nat.le_of_ble_eq_true rfl) dX10_finish_8 ?_
  refine GR_aload_n (pc := 11) hC dX10_finish_11 rfl rfl ?_
  refine GR_getR (pc := 12) (r := 42) hC F_RX10_55 (sh_0 hf) rfl dX10_finish_12 ?_
  refine GR_aload_n (pc := 15) hC dX10_finish_15 rfl rfl ?_
  refine GR_getR (pc := 16) (r := 12) hC F_RX10_45 (sh_0 hf) rfl dX10_finish_16 ?_
  refine GR_callVV (pc := 19) (As := [gr P 12]) hC (k_X3_remember hf (g_S_12 hf)) MY_X3_remember MI_X3_remember ML_RX10_294 (sh_42 hf) rfl rfl ⟨rfl, rfl⟩ ⟨by decide, by decide⟩ ⟨by decide, by decide⟩ rfl rfl (Nat.le_of_ble_eq_true rfl) dX10_finish_19 (fun g3 _ => ?_)
  refine GR_aload_n (pc := 22) hC dX10_finish_22 rfl rfl ?_
  refine GR_getR (pc := 23) (r := 9) hC F_RX10_38 (sh_0 hf) rfl dX10_finish_23 ?_
  refine GR_aload_n (pc := 26) hC dX10_finish_26 rfl rfl ?_
  refine GR_getR (pc := 27) (r := 12) hC F_RX10_45 (sh_0 hf) rfl dX10_finish_27 ?_
  refine GR_iload_n (pc := 30) hC dX10_finish_30 rfl rfl ?_
  refine GR_callVI (pc := 31) (As := [gr P 12, .int p1]) hC (k_X0_takeBackAll hf (g_S_12 hf)) MY_X0_takeBackAll MI_X0_takeBackAll ML_RX10_307 (sh_9 hf) rfl rfl ⟨rfl, rfl⟩ ⟨by decide, by decide⟩ ⟨by decide, by decide⟩ rfl rfl (Nat.le_of_ble_eq_true rfl) dX10_finish_31 (fun g5 v4 _ => ?_)
  exact GR_iretX (pc := 34) hC (by decide) hr dX10_finish_34
set_option maxRecDepth 20000 in
set_option maxHeartbeats 1000000 in
theorem k_X10_cancel {P : GP} {p1 : Int32}{g : GM} (hf : g_on P 166) : KX P yX10_cancel cX10_cancel 2 (some .int) ⟨7, 1, 6, 125⟩ [gr P 0, .int p1] g (f_X10_cancel g p1) := by
  refine KX.ofW (by decide) rfl (Nat.le_of_ble_eq_true rfl) (fun X x hC hr => ?_)
  unfold f_X10_cancel
  change GR P X (g_QX P X x) 0 0 _ 0 [some (gr P 0), some (.int p1)] [] g x
  refine GR_aload_n (pc := 0) hC dX10_cancel_0 rfl rfl ?_
  refine GR_getR (pc := 1) (r := 12) hC F_RX10_45 (sh_0 hf) rfl dX10_cancel_1 ?_
  refine GR_iload_n (pc := 4) hC dX10_cancel_4 rfl rfl ?_
  refine GR_callSP (pc := 5) (As := [gr P 12, .int p1]) hC (k_X2_ofCancel hf (g_S_12 hf)) MY_X2_ofCancel MS_X2_ofCancel ML_RX10_310 ⟨rfl, rfl⟩ ⟨by decide, by decide⟩ ⟨by decide, by decide⟩ rfl rfl (Nat.le_of_ble_eq_true rfl) dX10_cancel_5 (fun v1 _ => ?_)
  refine GR_refuse2 (pc := 8) hC hr ML_RX10_129 (by decide) (Nat.le_of_ble_eq_true rfl) dX10_cancel_8 ?_
  refine GR_aload_n (pc := 11) hC dX10_cancel_11 rfl rfl ?_
  refine GR_getR (pc := 12) (r := 42) hC F_RX10_55 (sh_0 hf) rfl dX10_cancel_12 ?_
  refine GR_aload_n (pc := 15) hC dX10_cancel_15 rfl rfl ?_
  refine GR_getR (pc := 16) (r := 12) hC F_RX10_45 (sh_0 hf) rfl dX10_cancel_16 ?_
  refine GR_callVV (pc := 19) (As := [gr P 12]) hC (k_X3_remember hf (g_S_12 hf)) MY_X3_remember MI_X3_remember ML_RX10_294 (sh_42 hf) rfl rfl ⟨rfl, rfl⟩ ⟨by decide, by decide⟩ ⟨by decide, by decide⟩ rfl rfl (Nat.le_of_ble_eq_true rfl) dX10_cancel_19 (fun g3 _ => ?_)
  refine GR_aload_n (pc := 22) hC dX10_cancel_22 rfl rfl ?_
  refine GR_getR (pc := 23) (r := 9) hC F_RX10_38 (sh_0 hf) rfl dX10_cancel_23 ?_
  refine GR_aload_n (pc := 26) hC dX10_cancel_26 rfl rfl ?_
  refine GR_getR (pc := 27) (r := 12) hC F_RX10_45 (sh_0 hf) rfl dX10_cancel_27 ?_
  refine GR_iload_n (pc := 30) hC dX10_cancel_30 rfl rfl ?_
  refine GR_callVI (pc := 31) (As := [gr P 12, .int p1]) hC (k_X0_withdrawRequest hf (g_S_12 hf)) MY_X0_withdrawRequest MI_X0_withdrawRequest ML_RX10_313 (sh_9 hf) rfl rfl ⟨rfl, rfl⟩ ⟨by decide, by decide⟩ ⟨by decide, by decide⟩ rfl rfl (Nat.le_of_ble_eq_true rfl) dX10_cancel_31 (fun g5 v4 _ => ?_)
  exact GR_iretX (pc := 34) hC (by decide) hr dX10_cancel_34
set_option maxRecDepth 20000 in
set_option maxHeartbeats 1000000 in
theorem k_X10_setCapacity {P : GP} {p1 : Int32} {p2 : Int32}{g : GM} (hf : g_on P 166) : KX P yX10_setCapacity cX10_setCapacity 3 (some .int) ⟨7, 1, 6, 126⟩ [gr P 0, .int p1, .int p2] g (f_X10_setCapacity g p1 p2) := by
  refine KX.ofW (by decide) rfl (Nat.le_of_ble_eq_true rfl) (fun X x hC hr => ?_)
  unfold f_X10_setCapacity
  change GR P X (g_QX P X x) 0 0 _ 0 [some (gr P 0), some (.int p1), some (.int p2)] [] g x
  refine GR_aload_n (pc := 0) hC dX10_setCapacity_0 rfl rfl ?_
  refine GR_getR (pc := 1) (r := 12) hC F_RX10_45 (sh_0 hf) rfl dX10_setCapacity_1 ?_
  refine GR_iload_n (pc := 4) hC dX10_setCapacity_4 rfl rfl ?_
  refine GR_iload_n (pc := 5) hC dX10_setCapacity_5 rfl rfl ?_
  refine GR_callSP (pc := 6) (As := [gr P 12, .int p1, .int p2]) hC (k_X2_ofCapacity hf (g_S_12 hf)) MY_X2_ofCapacity MS_X2_ofCapacity ML_RX10_316 ⟨rfl, rfl⟩ ⟨by decide, by decide⟩ ⟨by decide, by decide⟩ rfl rfl (Nat.le_of_ble_eq_true rfl) dX10_setCapacity_6 (fun v1 _ => ?_)
  refine GR_refuse2 (pc := 9) hC hr ML_RX10_129 (by decide) (Nat.le_of_ble_eq_true rfl) dX10_setCapacity_9 ?_
  refine GR_aload_n (pc := 12) hC dX10_setCapacity_12 rfl rfl ?_
  refine GR_getR (pc := 13) (r := 42) hC F_RX10_55 (sh_0 hf) rfl dX10_setCapacity_13 ?_
  refine GR_aload_n (pc := 16) hC dX10_setCapacity_16 rfl rfl ?_
  refine GR_getR (pc := 17) (r := 12) hC F_RX10_45 (sh_0 hf) rfl dX10_setCapacity_17 ?_
  refine GR_callVV (pc := 20) (As := [gr P 12]) hC (k_X3_remember hf (g_S_12 hf)) MY_X3_remember MI_X3_remember ML_RX10_294 (sh_42 hf) rfl rfl ⟨rfl, rfl⟩ ⟨by decide, by decide⟩ ⟨by decide, by decide⟩ rfl rfl (Nat.le_of_ble_eq_true rfl) dX10_setCapacity_20 (fun g3 _ => ?_)
  refine GR_aload_n (pc := 23) hC dX10_setCapacity_23 rfl rfl ?_
  refine GR_getR (pc := 24) (r := 9) hC F_RX10_38 (sh_0 hf) rfl dX10_setCapacity_24 ?_
  refine GR_aload_n (pc := 27) hC dX10_setCapacity_27 rfl rfl ?_
  refine GR_getR (pc := 28) (r := 12) hC F_RX10_45 (sh_0 hf) rfl dX10_setCapacity_28 ?_
  refine GR_iload_n (pc := 31) hC dX10_setCapacity_31 rfl rfl ?_
  refine GR_iload_n (pc := 32) hC dX10_setCapacity_32 rfl rfl ?_
  refine GR_callVI (pc := 33) (As := [gr P 12, .int p1, .int p2]) hC (k_X0_resize hf (g_S_12 hf)) MY_X0_resize MI_X0_resize ML_RX10_319 (sh_9 hf) rfl rfl ⟨rfl, rfl⟩ ⟨by decide, by decide⟩ ⟨by decide, by decide⟩ rfl rfl (Nat.le_of_ble_eq_true rfl) dX10_setCapacity_33 (fun g5 v4 _ => ?_)
  exact GR_iretX (pc := 36) hC (by decide) hr dX10_setCapacity_36
set_option maxRecDepth 20000 in
set_option maxHeartbeats 1000000 in
theorem k_X10_setMaximum {P : GP} {p1 : Int32} {p2 : Int32} {p3 : Int32}{g : GM} (hf : g_on P 166) : KX P yX10_setMaximum cX10_setMaximum 4 (some .int) ⟨7, 1, 6, 127⟩ [gr P 0, .int p1, .int p2, .int p3] g (f_X10_setMaximum g p1 p2 p3) := by
  refine KX.ofW (by decide) rfl (Nat.le_of_ble_eq_true rfl) (fun X x hC hr => ?_)
  unfold f_X10_setMaximum
  change GR P X (g_QX P X x) 0 0 _ 0 [some (gr P 0), some (.int p1), some (.int p2), some (.int p3)] [] g x
  refine GR_aload_n (pc := 0) hC dX10_setMaximum_0 rfl rfl ?_
  refine GR_getR (pc := 1) (r := 12) hC F_RX10_45 (sh_0 hf) rfl dX10_setMaximum_1 ?_
  refine GR_iload_n (pc := 4) hC dX10_setMaximum_4 rfl rfl ?_
  refine GR_iload_n (pc := 5) hC dX10_setMaximum_5 rfl rfl ?_
  refine GR_iload_n (pc := 6) hC dX10_setMaximum_6 rfl rfl ?_
  refine GR_callSP (pc := 7) (As := [gr P 12, .int p1, .int p2, .int p3]) hC (k_X2_ofMaximum hf (g_S_12 hf)) MY_X2_ofMaximum MS_X2_ofMaximum ML_RX10_322 ⟨rfl, rfl⟩ ⟨by decide, by decide⟩ ⟨by decide, by decide⟩ rfl rfl (Nat.le_of_ble_eq_true rfl) dX10_setMaximum_7 (fun v1 _ => ?_)
  refine GR_refuse2 (pc := 10) hC hr ML_RX10_129 (by decide) (Nat.le_of_ble_eq_true rfl) dX10_setMaximum_10 ?_
  refine GR_aload_n (pc := 13) hC dX10_setMaximum_13 rfl rfl ?_
  refine GR_getR (pc := 14) (r := 42) hC F_RX10_55 (sh_0 hf) rfl dX10_setMaximum_14 ?_
  refine GR_aload_n (pc := 17) hC dX10_setMaximum_17 rfl rfl ?_
  refine GR_getR (pc := 18) (r := 12) hC F_RX10_45 (sh_0 hf) rfl dX10_setMaximum_18 ?_
  refine GR_callVV (pc := 21) (As := [gr P 12]) hC (k_X3_remember hf (g_S_12 hf)) MY_X3_remember MI_X3_remember ML_RX10_294 (sh_42 hf) rfl rfl ⟨rfl, rfl⟩ ⟨by decide, by decide⟩ ⟨by decide, by decide⟩ rfl rfl (Nat.le_of_ble_eq_true rfl) dX10_setMaximum_21 (fun g3 _ => ?_)
  refine GR_aload_n (pc := 24) hC dX10_setMaximum_24 rfl rfl ?_
  refine GR_getR (pc := 25) (r := 9) hC F_RX10_38 (sh_0 hf) rfl dX10_setMaximum_25 ?_
  refine GR_aload_n (pc := 28) hC dX10_setMaximum_28 rfl rfl ?_
  refine GR_getR (pc := 29) (r := 12) hC F_RX10_45 (sh_0 hf) rfl dX10_setMaximum_29 ?_
  refine GR_iload_n (pc := 32) hC dX10_setMaximum_32 rfl rfl ?_
  refine GR_iload_n (pc := 33) hC dX10_setMaximum_33 rfl rfl ?_
  refine GR_iload_n (pc := 34) hC dX10_setMaximum_34 rfl rfl ?_
  refine GR_callVI (pc := 35) (As := [gr P 12, .int p1, .int p2, .int p3]) hC (k_X0_changeClaim hf (g_S_12 hf)) MY_X0_changeClaim MI_X0_changeClaim ML_RX10_325 (sh_9 hf) rfl rfl ⟨rfl, rfl⟩ ⟨by decide, by decide⟩ ⟨by decide, by decide⟩ rfl rfl (Nat.le_of_ble_eq_true rfl) dX10_setMaximum_35 (fun g5 v4 _ => ?_)
  exact GR_iretX (pc := 38) hC (by decide) hr dX10_setMaximum_38
set_option maxRecDepth 20000 in
set_option maxHeartbeats 1000000 in
theorem k_X10_lend {P : GP} {p1 : Int32} {p2 : Int32} {p3 : Int32}{g : GM} (hf : g_on P 166) : KX P yX10_lend cX10_lend 4 (some .int) ⟨7, 1, 6, 123⟩ [gr P 0, .int p1, .int p2, .int p3] g (f_X10_lend g p1 p2 p3) := by
  refine KX.ofW (by decide) rfl (Nat.le_of_ble_eq_true rfl) (fun X x hC hr => ?_)
  unfold f_X10_lend
  change GR P X (g_QX P X x) 0 0 _ 0 [some (gr P 0), some (.int p1), some (.int p2), some (.int p3)] [] g x
  refine GR_aload_n (pc := 0) hC dX10_lend_0 rfl rfl ?_
  refine GR_getR (pc := 1) (r := 12) hC F_RX10_45 (sh_0 hf) rfl dX10_lend_1 ?_
  refine GR_iload_n (pc := 4) hC dX10_lend_4 rfl rfl ?_
  refine GR_iload_n (pc := 5) hC dX10_lend_5 rfl rfl ?_
  refine GR_iload_n (pc := 6) hC dX10_lend_6 rfl rfl ?_
  refine GR_callSP (pc := 7) (As := [gr P 12, .int p1, .int p2, .int p3]) hC (k_X2_ofLoan hf (g_S_12 hf)) MY_X2_ofLoan MS_X2_ofLoan ML_RX10_328 ⟨rfl, rfl⟩ ⟨by decide, by decide⟩ ⟨by decide, by decide⟩ rfl rfl (Nat.le_of_ble_eq_true rfl) dX10_lend_7 (fun v1 _ => ?_)
  refine GR_refuse2 (pc := 10) hC hr ML_RX10_129 (by decide) (Nat.le_of_ble_eq_true rfl) dX10_lend_10 ?_
  refine GR_aload_n (pc := 13) hC dX10_lend_13 rfl rfl ?_
  refine GR_getR (pc := 14) (r := 42) hC F_RX10_55 (sh_0 hf) rfl dX10_lend_14 ?_
  refine GR_aload_n (pc := 17) hC dX10_lend_17 rfl rfl ?_
  refine GR_getR (pc := 18) (r := 12) hC F_RX10_45 (sh_0 hf) rfl dX10_lend_18 ?_
  refine GR_callVV (pc := 21) (As := [gr P 12]) hC (k_X3_remember hf (g_S_12 hf)) MY_X3_remember MI_X3_remember ML_RX10_294 (sh_42 hf) rfl rfl ⟨rfl, rfl⟩ ⟨by decide, by decide⟩ ⟨by decide, by decide⟩ rfl rfl (Nat.le_of_ble_eq_true rfl) dX10_lend_21 (fun g3 _ => ?_)
  refine GR_aload_n (pc := 24) hC dX10_lend_24 rfl rfl ?_
  refine GR_getR (pc := 25) (r := 12) hC F_RX10_45 (sh_0 hf) rfl dX10_lend_25 ?_
  refine GR_getR (pc := 28) (r := 25) hC F_RX10_242 (sh_12 hf) rfl dX10_lend_28 ?_
  refine GR_iload_n (pc := 31) hC dX10_lend_31 rfl rfl ?_
  refine GR_iload_n (pc := 32) hC dX10_lend_32 rfl rfl ?_
  refine GR_iload_n (pc := 33) hC dX10_lend_33 rfl rfl ?_
  refine GR_callVI (pc := 34) (As := [.int p2, .int p1, .int p3]) hC (k_X1_change hf (g_Db_25 hf)) MY_X1_change MI_X1_change ML_RX10_331 (sh_25 hf) rfl rfl ⟨rfl, rfl⟩ ⟨by decide, by decide⟩ ⟨by decide, by decide⟩ rfl rfl (Nat.le_of_ble_eq_true rfl) dX10_lend_34 (fun g5 v4 _ => ?_)
  exact GR_iretX (pc := 37) hC (by decide) hr dX10_lend_37
set_option maxRecDepth 20000 in
set_option maxHeartbeats 1000000 in
theorem k_X10_repay {P : GP} {p1 : Int32} {p2 : Int32} {p3 : Int32}{g : GM} (hf : g_on P 166) : KX P yX10_repay cX10_repay 4 (some .int) ⟨7, 1, 6, 123⟩ [gr P 0, .int p1, .int p2, .int p3] g (f_X10_repay g p1 p2 p3) := by
  refine KX.ofW (by decide) rfl (Nat.le_of_ble_eq_true rfl) (fun X x hC hr => ?_)
  unfold f_X10_repay
  change GR P X (g_QX P X x) 0 0 _ 0 [some (gr P 0), some (.int p1), some (.int p2), some (.int p3)] [] g x
  refine GR_aload_n (pc := 0) hC dX10_repay_0 rfl rfl ?_
  refine GR_getR (pc := 1) (r := 12) hC F_RX10_45 (sh_0 hf) rfl dX10_repay_1 ?_
  refine GR_iload_n (pc := 4) hC dX10_repay_4 rfl rfl ?_
  refine GR_iload_n (pc := 5) hC dX10_repay_5 rfl rfl ?_
  refine GR_iload_n (pc := 6) hC dX10_repay_6 rfl rfl ?_
  refine GR_callSP (pc := 7) (As := [gr P 12, .int p1, .int p2, .int p3]) hC (k_X2_ofRepayment hf (g_S_12 hf)) MY_X2_ofRepayment MS_X2_ofRepayment ML_RX10_335 ⟨rfl, rfl⟩ ⟨by decide, by decide⟩ ⟨by decide, by decide⟩ rfl rfl (Nat.le_of_ble_eq_true rfl) dX10_repay_7 (fun v1 _ => ?_)
  refine GR_refuse2 (pc := 10) hC hr ML_RX10_129 (by decide) (Nat.le_of_ble_eq_true rfl) dX10_repay_10 ?_
  refine GR_aload_n (pc := 13) hC dX10_repay_13 rfl rfl ?_
  refine GR_getR (pc := 14) (r := 42) hC F_RX10_55 (sh_0 hf) rfl dX10_repay_14 ?_
  refine GR_aload_n (pc := 17) hC dX10_repay_17 rfl rfl ?_
  refine GR_getR (pc := 18) (r := 12) hC F_RX10_45 (sh_0 hf) rfl dX10_repay_18 ?_
  refine GR_callVV (pc := 21) (As := [gr P 12]) hC (k_X3_remember hf (g_S_12 hf)) MY_X3_remember MI_X3_remember ML_RX10_294 (sh_42 hf) rfl rfl ⟨rfl, rfl⟩ ⟨by decide, by decide⟩ ⟨by decide, by decide⟩ rfl rfl (Nat.le_of_ble_eq_true rfl) dX10_repay_21 (fun g3 _ => ?_)
  refine GR_aload_n (pc := 24) hC dX10_repay_24 rfl rfl ?_
  refine GR_getR (pc := 25) (r := 12) hC F_RX10_45 (sh_0 hf) rfl dX10_repay_25 ?_
  refine GR_getR (pc := 28) (r := 25) hC F_RX10_242 (sh_12 hf) rfl dX10_repay_28 ?_
  refine GR_iload_n (pc := 31) hC dX10_repay_31 rfl rfl ?_
  refine GR_iload_n (pc := 32) hC dX10_repay_32 rfl rfl ?_
  refine GR_iload_n (pc := 33) hC dX10_repay_33 rfl rfl ?_
  refine GR_ineg (pc := 34) hC dX10_repay_34 ?_
  refine GR_callVI (pc := 35) (As := [.int p1, .int p2, .int (-p3)]) hC (k_X1_change hf (g_Db_25 hf)) MY_X1_change MI_X1_change ML_RX10_331 (sh_25 hf) rfl rfl ⟨rfl, rfl⟩ ⟨by decide, by decide⟩ ⟨by decide, by decide⟩ rfl rfl (Nat.le_of_ble_eq_true rfl) dX10_repay_35 (fun g5 v4 _ => ?_)
  exact GR_iretX (pc := 38) hC (by decide) hr dX10_repay_38
set_option maxRecDepth 20000 in
set_option maxHeartbeats 1000000 in
theorem k_X10_execute {P : GP} {p1 : Int32}{g : GM} (hf : g_on P 166) : KI P yX10_execute cX10_execute 6 (some .boolean) ⟨5, 0, 0, 127⟩ [gr P 0, .int p1] g (f_X10_execute g p1) := by
  refine KI.ofW (by decide) rfl (Nat.le_of_ble_eq_true rfl) (fun X x hC hr _ => ?_)
  unfold f_X10_execute
  change GR P X (g_QI P X x) 0 0 _ 0 [some (gr P 0), some (.int p1), none, none, none, none] [] g x
  refine GR_aload_n (pc := 0) hC dX10_execute_0 rfl rfl ?_
  refine GR_getR (pc := 1) (r := 6) hC F_RX10_31 (sh_0 hf) rfl dX10_execute_1 ?_
  refine GR_iload_n (pc := 4) hC dX10_execute_4 rfl rfl ?_
  refine GR_callVP (pc := 5) (As := [.int p1]) hC (k_X8_kind hf) MY_X8_kind MI_X8_kind ML_RX10_376 (sh_6 hf) rfl rfl ⟨rfl, rfl⟩ ⟨by decide, by decide⟩ ⟨by decide, by decide⟩ rfl rfl (Nat.le_of_ble_eq_true rfl) dX10_execute_5 (fun v1 _ => ?_)
  refine GR_istore_n (pc := 8) (L' := [some (gr P 0), some (.int p1), some (.int v1), none, none, none]) hC dX10_execute_8 rfl (by decide) rfl rfl ?_
  refine GR_aload_n (pc := 9) hC dX10_execute_9 rfl rfl ?_
  refine GR_getR (pc := 10) (r := 6) hC F_RX10_31 (sh_0 hf) rfl dX10_execute_10 ?_
  refine GR_iload_n (pc := 13) hC dX10_execute_13 rfl rfl ?_
  refine GR_iconst (pc := 14) (v := 0) hC dX10_execute_14 rfl ?_
  refine GR_callVP (pc := 15) (As := [.int p1, .int 0]) hC (k_X8_argument hf) MY_X8_argument MI_X8_argument ML_RX10_379 (sh_6 hf) rfl rfl ⟨rfl, rfl⟩ ⟨by decide, by decide⟩ ⟨by decide, by decide⟩ rfl rfl (Nat.le_of_ble_eq_true rfl) dX10_execute_15 (fun v2 _ => ?_)
  refine GR_istore_n (pc := 18) (L' := [some (gr P 0), some (.int p1), some (.int v1), some (.int v2), none, none]) hC dX10_execute_18 rfl (by decide) rfl rfl ?_
  refine GR_aload_n (pc := 19) hC dX10_execute_19 rfl rfl ?_
  refine GR_getR (pc := 20) (r := 6) hC F_RX10_31 (sh_0 hf) rfl dX10_execute_20 ?_
  refine GR_iload_n (pc := 23) hC dX10_execute_23 rfl rfl ?_
  refine GR_iconst (pc := 24) (v := 1) hC dX10_execute_24 rfl ?_
  refine GR_callVP (pc := 25) (As := [.int p1, .int 1]) hC (k_X8_argument hf) MY_X8_argument MI_X8_argument ML_RX10_379 (sh_6 hf) rfl rfl ⟨rfl, rfl⟩ ⟨by decide, by decide⟩ ⟨by decide, by decide⟩ rfl rfl (Nat.le_of_ble_eq_true rfl) dX10_execute_25 (fun v3 _ => ?_)
  refine GR_istore (pc := 28) (L' := [some (gr P 0), some (.int p1), some (.int v1), some (.int v2), some (.int v3), none]) hC dX10_execute_28 (by decide) rfl rfl ?_
  refine GR_aload_n (pc := 30) hC dX10_execute_30 rfl rfl ?_
  refine GR_getR (pc := 31) (r := 6) hC F_RX10_31 (sh_0 hf) rfl dX10_execute_31 ?_
  refine GR_iload_n (pc := 34) hC dX10_execute_34 rfl rfl ?_
  refine GR_iconst (pc := 35) (v := 2) hC dX10_execute_35 rfl ?_
  refine GR_callVP (pc := 36) (As := [.int p1, .int 2]) hC (k_X8_argument hf) MY_X8_argument MI_X8_argument ML_RX10_379 (sh_6 hf) rfl rfl ⟨rfl, rfl⟩ ⟨by decide, by decide⟩ ⟨by decide, by decide⟩ rfl rfl (Nat.le_of_ble_eq_true rfl) dX10_execute_36 (fun v4 _ => ?_)
  refine GR_istore (pc := 39) (L' := [some (gr P 0), some (.int p1), some (.int v1), some (.int v2), some (.int v3), some (.int v4)]) hC dX10_execute_39 (by decide) rfl rfl ?_
  refine GR_aload_n (pc := 41) hC dX10_execute_41 rfl rfl ?_
  refine GR_getR (pc := 42) (r := 12) hC F_RX10_45 (sh_0 hf) rfl dX10_execute_42 ?_
  refine GR_iload_n (pc := 45) hC dX10_execute_45 rfl rfl ?_
  refine GR_iload_n (pc := 46) hC dX10_execute_46 rfl rfl ?_
  refine GR_iload (pc := 47) hC dX10_execute_47 rfl ?_
  refine GR_iload (pc := 49) hC dX10_execute_49 rfl ?_
  refine GR_callSP (pc := 51) (As := [gr P 12, .int v1, .int v2, .int v3, .int v4]) hC (k_X2_ofCommand hf (g_S_12 hf)) MY_X2_ofCommand MS_X2_ofCommand ML_RX10_382 ⟨rfl, rfl⟩ ⟨by decide, by decide⟩ ⟨by decide, by decide⟩ rfl rfl (Nat.le_of_ble_eq_true rfl) dX10_execute_51 (fun v5 _ => ?_)
  refine GR_if_eq (pc := 54) (tgt := 59) hC dX10_execute_54 (by decide) ?_ ?_
  · refine GR_iload_n (pc := 59) hC dX10_execute_59 rfl rfl ?_
    refine GR_case (fun h0 => ?_) (fun h0 => ?_)
    · refine GR_tabIn (pc := 60) (tgt := 100) (c := 0) hC dX10_execute_60 h0 (by decide) (by decide) rfl (by decide) ?_
      refine GR_aload_n (pc := 100) hC dX10_execute_100 rfl rfl ?_
      refine GR_getR (pc := 101) (r := 9) hC F_RX10_38 (sh_0 hf) rfl dX10_execute_101 ?_
      refine GR_aload_n (pc := 104) hC dX10_execute_104 rfl rfl ?_
      refine GR_getR (pc := 105) (r := 12) hC F_RX10_45 (sh_0 hf) rfl dX10_execute_105 ?_
      refine GR_iload_n (pc := 108) hC dX10_execute_108 rfl rfl ?_
      refine GR_iload (pc := 109) hC dX10_execute_109 rfl ?_
      refine GR_iload (pc := 111) hC dX10_execute_111 rfl ?_
      refine GR_callVI (pc := 113) (As := [gr P 12, .int v2, .int v3, .int v4]) hC (k_X0_grantOrQueue hf (g_S_12 hf)) MY_X0_grantOrQueue MI_X0_grantOrQueue ML_RX10_297 (sh_9 hf) rfl rfl ⟨rfl, rfl⟩ ⟨by decide, by decide⟩ ⟨by decide, by decide⟩ rfl rfl (Nat.le_of_ble_eq_true rfl) dX10_execute_113 (fun g7 v6 _ => ?_)
      refine GR_pop (pc := 116) hC dX10_execute_116 rfl ?_
      refine GR_goto (pc := 117) (tgt := 226) hC dX10_execute_117 (by decide) ?_
      refine GR_iconst (pc := 226) (v := 1) hC dX10_execute_226 rfl ?_
      exact GR_zretC (pc := 227) hC (Or.inr rfl) hr dX10_execute_227
    refine GR_case (fun h1 => ?_) (fun h1 => ?_)
    · refine GR_tabIn (pc := 60) (tgt := 120) (c := 1) hC dX10_execute_60 h1 (by decide) (by decide) rfl (by decide) ?_
      refine GR_aload_n (pc := 120) hC dX10_execute_120 rfl rfl ?_
      refine GR_getR (pc := 121) (r := 9) hC F_RX10_38 (sh_0 hf) rfl dX10_execute_121 ?_
      refine GR_aload_n (pc := 124) hC dX10_execute_124 rfl rfl ?_
      refine GR_getR (pc := 125) (r := 12) hC F_RX10_45 (sh_0 hf) rfl dX10_execute_125 ?_
      refine GR_iload_n (pc := 128) hC dX10_execute_128 rfl rfl ?_
      refine GR_iload (pc := 129) hC dX10_execute_129 rfl ?_
      refine GR_iload (pc := 131) hC dX10_execute_131 rfl ?_
      refine GR_callVI (pc := 133) (As := [gr P 12, .int v2, .int v3, .int v4]) hC (k_X0_takeBack hf (g_S_12 hf)) MY_X0_takeBack MI_X0_takeBack ML_RX10_304 (sh_9 hf) rfl rfl ⟨rfl, rfl⟩ ⟨by decide, by decide⟩ ⟨by decide, by decide⟩ rfl rfl (Nat.le_of_ble_eq_true rfl) dX10_execute_133 (fun g9 v8 _ => ?_)
      refine GR_pop (pc := 136) hC dX10_execute_136 rfl ?_
      refine GR_goto (pc := 137) (tgt := 226) hC dX10_execute_137 (by decide) ?_
      refine GR_iconst (pc := 226) (v := 1) hC dX10_execute_226 rfl ?_
      exact GR_zretC (pc := 227) hC (Or.inr rfl) hr dX10_execute_227
    refine GR_case (fun h2 => ?_) (fun h2 => ?_)
    · refine GR_tabIn (pc := 60) (tgt := 140) (c := 2) hC dX10_execute_60 h2 (by decide) (by decide) rfl (by decide) ?_
      refine GR_aload_n (pc := 140) hC dX10_execute_140 rfl rfl ?_
      refine GR_getR (pc := 141) (r := 9) hC F_RX10_38 (sh_0 hf) rfl dX10_execute_141 ?_
      refine GR_aload_n (pc := 144) hC dX10_execute_144 rfl rfl ?_
      refine GR_getR (pc := 145) (r := 12) hC F_RX10_45 (sh_0 hf) rfl dX10_execute_145 ?_
      refine GR_iload_n (pc := 148) hC dX10_execute_148 rfl rfl ?_
      refine GR_callVI (pc := 149) (As := [gr P 12, .int v2]) hC (k_X0_takeBackAll hf (g_S_12 hf)) MY_X0_takeBackAll MI_X0_takeBackAll ML_RX10_307 (sh_9 hf) rfl rfl ⟨rfl, rfl⟩ ⟨by decide, by decide⟩ ⟨by decide, by decide⟩ rfl rfl (Nat.le_of_ble_eq_true rfl) dX10_execute_149 (fun g11 v10 _ => ?_)
      refine GR_pop (pc := 152) hC dX10_execute_152 rfl ?_
      refine GR_goto (pc := 153) (tgt := 226) hC dX10_execute_153 (by decide) ?_
      refine GR_iconst (pc := 226) (v := 1) hC dX10_execute_226 rfl ?_
      exact GR_zretC (pc := 227) hC (Or.inr rfl) hr dX10_execute_227
    refine GR_case (fun h3 => ?_) (fun h3 => ?_)
    · refine GR_tabIn (pc := 60) (tgt := 156) (c := 3) hC dX10_execute_60 h3 (by decide) (by decide) rfl (by decide) ?_
      refine GR_aload_n (pc := 156) hC dX10_execute_156 rfl rfl ?_
      refine GR_getR (pc := 157) (r := 9) hC F_RX10_38 (sh_0 hf) rfl dX10_execute_157 ?_
      refine GR_aload_n (pc := 160) hC dX10_execute_160 rfl rfl ?_
      refine GR_getR (pc := 161) (r := 12) hC F_RX10_45 (sh_0 hf) rfl dX10_execute_161 ?_
      refine GR_iload_n (pc := 164) hC dX10_execute_164 rfl rfl ?_
      refine GR_callVI (pc := 165) (As := [gr P 12, .int v2]) hC (k_X0_withdrawRequest hf (g_S_12 hf)) MY_X0_withdrawRequest MI_X0_withdrawRequest ML_RX10_313 (sh_9 hf) rfl rfl ⟨rfl, rfl⟩ ⟨by decide, by decide⟩ ⟨by decide, by decide⟩ rfl rfl (Nat.le_of_ble_eq_true rfl) dX10_execute_165 (fun g13 v12 _ => ?_)
      refine GR_pop (pc := 168) hC dX10_execute_168 rfl ?_
      refine GR_goto (pc := 169) (tgt := 226) hC dX10_execute_169 (by decide) ?_
      refine GR_iconst (pc := 226) (v := 1) hC dX10_execute_226 rfl ?_
      exact GR_zretC (pc := 227) hC (Or.inr rfl) hr dX10_execute_227
    refine GR_case (fun h4 => ?_) (fun h4 => ?_)
    · refine GR_tabIn (pc := 60) (tgt := 172) (c := 4) hC dX10_execute_60 h4 (by decide) (by decide) rfl (by decide) ?_
      refine GR_aload_n (pc := 172) hC dX10_execute_172 rfl rfl ?_
      refine GR_getR (pc := 173) (r := 12) hC F_RX10_45 (sh_0 hf) rfl dX10_execute_173 ?_
      refine GR_getR (pc := 176) (r := 25) hC F_RX10_242 (sh_12 hf) rfl dX10_execute_176 ?_
      refine GR_iload (pc := 179) hC dX10_execute_179 rfl ?_
      refine GR_iload_n (pc := 181) hC dX10_execute_181 rfl rfl ?_
      refine GR_iload (pc := 182) hC dX10_execute_182 rfl ?_
      refine GR_callVI (pc := 184) (As := [.int v3, .int v2, .int v4]) hC (k_X1_change hf (g_Db_25 hf)) MY_X1_change MI_X1_change ML_RX10_331 (sh_25 hf) rfl rfl ⟨rfl, rfl⟩ ⟨by decide, by decide⟩ ⟨by decide, by decide⟩ rfl rfl (Nat.le_of_ble_eq_true rfl) dX10_execute_184 (fun g15 v14 _ => ?_)
      refine GR_pop (pc := 187) hC dX10_execute_187 rfl ?_
      refine GR_goto (pc := 188) (tgt := 226) hC dX10_execute_188 (by decide) ?_
      refine GR_iconst (pc := 226) (v := 1) hC dX10_execute_226 rfl ?_
      exact GR_zretC (pc := 227) hC (Or.inr rfl) hr dX10_execute_227
    refine GR_case (fun h5 => ?_) (fun h5 => ?_)
    · refine GR_tabIn (pc := 60) (tgt := 191) (c := 5) hC dX10_execute_60 h5 (by decide) (by decide) rfl (by decide) ?_
      refine GR_aload_n (pc := 191) hC dX10_execute_191 rfl rfl ?_
      refine GR_getR (pc := 192) (r := 12) hC F_RX10_45 (sh_0 hf) rfl dX10_execute_192 ?_
      refine GR_getR (pc := 195) (r := 25) hC F_RX10_242 (sh_12 hf) rfl dX10_execute_195 ?_
      refine GR_iload_n (pc := 198) hC dX10_execute_198 rfl rfl ?_
      refine GR_iload (pc := 199) hC dX10_execute_199 rfl ?_
      refine GR_iload (pc := 201) hC dX10_execute_201 rfl ?_
      refine GR_ineg (pc := 203) hC dX10_execute_203 ?_
      refine GR_callVI (pc := 204) (As := [.int v2, .int v3, .int (-v4)]) hC (k_X1_change hf (g_Db_25 hf)) MY_X1_change MI_X1_change ML_RX10_331 (sh_25 hf) rfl rfl ⟨rfl, rfl⟩ ⟨by decide, by decide⟩ ⟨by decide, by decide⟩ rfl rfl (Nat.le_of_ble_eq_true rfl) dX10_execute_204 (fun g17 v16 _ => ?_)
      refine GR_pop (pc := 207) hC dX10_execute_207 rfl ?_
      refine GR_goto (pc := 208) (tgt := 226) hC dX10_execute_208 (by decide) ?_
      refine GR_iconst (pc := 226) (v := 1) hC dX10_execute_226 rfl ?_
      exact GR_zretC (pc := 227) hC (Or.inr rfl) hr dX10_execute_227
    refine GR_tabOut (pc := 60) (tgt := 211) hC dX10_execute_60 (g_out6 h0 h1 h2 h3 h4 h5) (by decide) ?_
    refine GR_aload_n (pc := 211) hC dX10_execute_211 rfl rfl ?_
    refine GR_getR (pc := 212) (r := 9) hC F_RX10_38 (sh_0 hf) rfl dX10_execute_212 ?_
    refine GR_aload_n (pc := 215) hC dX10_execute_215 rfl rfl ?_
    refine GR_getR (pc := 216) (r := 12) hC F_RX10_45 (sh_0 hf) rfl dX10_execute_216 ?_
    refine GR_iload_n (pc := 219) hC dX10_execute_219 rfl rfl ?_
    refine GR_iload (pc := 220) hC dX10_execute_220 rfl ?_
    refine GR_callVI (pc := 222) (As := [gr P 12, .int v2, .int v3]) hC (k_X0_resize hf (g_S_12 hf)) MY_X0_resize MI_X0_resize ML_RX10_319 (sh_9 hf) rfl rfl ⟨rfl, rfl⟩ ⟨by decide, by decide⟩ ⟨by decide, by decide⟩ rfl rfl (Nat.le_of_ble_eq_true rfl) dX10_execute_222 (fun g19 v18 _ => ?_)
    refine GR_pop (pc := 225) hC dX10_execute_225 rfl ?_
    refine GR_iconst (pc := 226) (v := 1) hC dX10_execute_226 rfl ?_
    exact GR_zretC (pc := 227) hC (Or.inr rfl) hr dX10_execute_227
  · refine GR_iconst (pc := 57) (v := 0) hC dX10_execute_57 rfl ?_
    exact GR_zretC (pc := 58) hC (Or.inl rfl) hr dX10_execute_58
set_option maxRecDepth 20000 in
set_option maxHeartbeats 1000000 in
theorem lfL_X10_runScript_52 {P : GP} {X : GX} {x : GE} (hC : GC P X RX10 cX10_runScript 3 ⟨8, 1, 6, 199⟩) (hf : g_on P 166) (hr : GXr X (some .int)) {kb : GM → Int32 → Option (GM × (Int32 ⊕ Nat))} (hkb : ∀ (g : GM) (x2 : Int32), GR P X (g_QX P X x) 0 0 (kb g x2) 77 [none, none, some (.int x2)] [] g x) : ∀ (n : Nat) (g : GM) (x2 : Int32), GR P X (g_QX P X x) 0 0 (fL_X10_runScript_52 kb n g x2) 52 [some (gr P 0), none, some (.int x2)] [] g x := by
  intro n
  induction n with
  | zero => intros; exact GR.none
  | succ n ih =>
    intro g x2
    rw [fL_X10_runScript_52]
    refine GR_iload_n (pc := 52) hC dX10_runScript_52 rfl rfl ?_
    refine GR_aload_n (pc := 53) hC dX10_runScript_53 rfl rfl ?_
    refine GR_getR (pc := 54) (r := 6) hC F_RX10_31 (sh_0 hf) rfl dX10_runScript_54 ?_
    refine GR_getI (pc := 57) hC F_RX10_344 (sh_6 hf) rfl dX10_runScript_57 ?_
    refine GR_icmp_ge (pc := 60) (tgt := 77) hC dX10_runScript_60 (by decide) ?_ ?_
    · exact GR.less (hkb _ _) (g_le_at (And.intro rfl trivial))
    · refine GR_aload_n (pc := 63) hC dX10_runScript_63 rfl rfl ?_
      refine GR_iload_n (pc := 64) hC dX10_runScript_64 rfl rfl ?_
      refine GR_callVI (pc := 65) (As := [.int x2]) hC (k_X10_execute hf) MY_X10_execute MI_X10_execute ML_RX10_345 (sh_0 hf) rfl rfl ⟨rfl, rfl⟩ ⟨by decide, by decide⟩ ⟨by decide, by decide⟩ rfl rfl (Nat.le_of_ble_eq_true rfl) dX10_runScript_65 (fun g7 v6 _ => ?_)
      refine GR_if_eq (pc := 68) (tgt := 77) hC dX10_runScript_68 (by decide) ?_ ?_
      · exact GR.less (hkb _ _) (g_le_at (And.intro rfl trivial))
      · refine GR_iinc (pc := 71) (w := 1) (L' := [some (gr P 0), none, some (.int (x2 + 1))]) hC dX10_runScript_71 rfl rfl (by decide) rfl rfl ?_
        refine GR_goto (pc := 74) (tgt := 52) hC dX10_runScript_74 (by decide) ?_
        exact GR.less (ih _ _) (g_le_at (And.intro rfl (And.intro rfl trivial)))
set_option maxRecDepth 20000 in
set_option maxHeartbeats 1000000 in
theorem k_X10_runScript {P : GP}{g : GM} (hf : g_on P 166) : KX P yX10_runScript cX10_runScript 3 (some .int) ⟨8, 1, 6, 199⟩ [gr P 0] g (f_X10_runScript g) := by
  refine KX.ofW (by decide) rfl (Nat.le_of_ble_eq_true rfl) (fun X x hC hr => ?_)
  unfold f_X10_runScript
  change GR P X (g_QX P X x) 0 0 _ 0 [some (gr P 0), none, none] [] g x
  refine GR_aload_n (pc := 0) hC dX10_runScript_0 rfl rfl ?_
  refine GR_getR (pc := 1) (r := 1) hC F_RX10_10 (sh_0 hf) rfl dX10_runScript_1 ?_
  refine GR_aload_n (pc := 4) hC dX10_runScript_4 rfl rfl ?_
  refine GR_getR (pc := 5) (r := 12) hC F_RX10_45 (sh_0 hf) rfl dX10_runScript_5 ?_
  refine GR_aload_n (pc := 8) hC dX10_runScript_8 rfl rfl ?_
  refine GR_getR (pc := 9) (r := 6) hC F_RX10_31 (sh_0 hf) rfl dX10_runScript_9 ?_
  refine GR_callVI (pc := 12) (As := [gr P 12, gr P 6]) hC (k_X7_readScript hf (g_S_12 hf)) MY_X7_readScript MI_X7_readScript ML_RX10_338 (sh_1 hf) rfl rfl ⟨rfl, rfl⟩ ⟨by decide, by decide⟩ ⟨by decide, by decide⟩ rfl rfl (Nat.le_of_ble_eq_true rfl) dX10_runScript_12 (fun g2 v1 _ => ?_)
  refine GR_istore_n (pc := 15) (L' := [some (gr P 0), some (.int v1), none]) hC dX10_runScript_15 rfl (by decide) rfl rfl ?_
  refine GR_aload_n (pc := 16) hC dX10_runScript_16 rfl rfl ?_
  refine GR_getR (pc := 17) (r := 2) hC F_RX10_20 (sh_0 hf) rfl dX10_runScript_17 ?_
  refine GR_iconst (pc := 20) (v := 0) hC dX10_runScript_20 rfl ?_
  refine GR_putI (pc := 21) hC FW_RX10_79 (sh_2 hf) rfl dX10_runScript_21 (fun g3 _ => ?_)
  refine GR_iload_n (pc := 24) hC dX10_runScript_24 rfl rfl ?_
  refine GR_if_ne (pc := 25) (tgt := 39) hC dX10_runScript_25 (by decide) ?_ ?_
  · refine GR_aload_n (pc := 39) hC dX10_runScript_39 rfl rfl ?_
    refine GR_getR (pc := 40) (r := 42) hC F_RX10_55 (sh_0 hf) rfl dX10_runScript_40 ?_
    refine GR_aload_n (pc := 43) hC dX10_runScript_43 rfl rfl ?_
    refine GR_getR (pc := 44) (r := 12) hC F_RX10_45 (sh_0 hf) rfl dX10_runScript_44 ?_
    refine GR_callVV (pc := 47) (As := [gr P 12]) hC (k_X3_remember hf (g_S_12 hf)) MY_X3_remember MI_X3_remember ML_RX10_294 (sh_42 hf) rfl rfl ⟨rfl, rfl⟩ ⟨by decide, by decide⟩ ⟨by decide, by decide⟩ rfl rfl (Nat.le_of_ble_eq_true rfl) dX10_runScript_47 (fun g5 _ => ?_)
    refine GR_iconst (pc := 50) (v := 0) hC dX10_runScript_50 rfl ?_
    refine GR_istore_n (pc := 51) (L' := [some (gr P 0), some (.int v1), some (.int 0)]) hC dX10_runScript_51 rfl (by decide) rfl rfl ?_
    refine GR.less (lfL_X10_runScript_52 hC hf hr ?_ fu _ _) (g_le_at (And.intro rfl (And.intro rfl trivial)))
    intro g x2
    refine GR_iload_n (pc := 77) hC dX10_runScript_77 rfl rfl ?_
    exact GR_iretX (pc := 78) hC (by decide) hr dX10_runScript_78
  · exact GR_throwW (pc := 28) (w := 18) hC hr TH_1 (List.mem_of_getElem? (i := 18) rfl) (by decide) ⟨rfl, rfl⟩ (Nat.le_of_ble_eq_true rfl) dX10_runScript_28 dX10_runScript_31 dX10_runScript_32 dX10_runScript_35 dX10_runScript_38
set_option maxRecDepth 20000 in
set_option maxHeartbeats 1000000 in
theorem k_X10_undo {P : GP}{g : GM} (hf : g_on P 166) : KX P yX10_undo cX10_undo 1 (some .int) ⟨6, 1, 6, 123⟩ [gr P 0] g (f_X10_undo g) := by
  refine KX.ofW (by decide) rfl (Nat.le_of_ble_eq_true rfl) (fun X x hC hr => ?_)
  unfold f_X10_undo
  change GR P X (g_QX P X x) 0 0 _ 0 [some (gr P 0)] [] g x
  refine GR_aload_n (pc := 0) hC dX10_undo_0 rfl rfl ?_
  refine GR_getR (pc := 1) (r := 42) hC F_RX10_55 (sh_0 hf) rfl dX10_undo_1 ?_
  refine GR_getI (pc := 4) hC F_RX10_104 (sh_42 hf) rfl dX10_undo_4 ?_
  refine GR_if_ne (pc := 7) (tgt := 21) hC dX10_undo_7 (by decide) ?_ ?_
  · refine GR_aload_n (pc := 21) hC dX10_undo_21 rfl rfl ?_
    refine GR_getR (pc := 22) (r := 42) hC F_RX10_55 (sh_0 hf) rfl dX10_undo_22 ?_
    refine GR_aload_n (pc := 25) hC dX10_undo_25 rfl rfl ?_
    refine GR_getR (pc := 26) (r := 12) hC F_RX10_45 (sh_0 hf) rfl dX10_undo_26 ?_
    refine GR_callVV (pc := 29) (As := [gr P 12]) hC (k_X3_takeBack hf (g_S_12 hf)) MY_X3_takeBack MI_X3_takeBack ML_RX10_350 (sh_42 hf) rfl rfl ⟨rfl, rfl⟩ ⟨by decide, by decide⟩ ⟨by decide, by decide⟩ rfl rfl (Nat.le_of_ble_eq_true rfl) dX10_undo_29 (fun g2 _ => ?_)
    refine GR_aload_n (pc := 32) hC dX10_undo_32 rfl rfl ?_
    refine GR_getR (pc := 33) (r := 42) hC F_RX10_55 (sh_0 hf) rfl dX10_undo_33 ?_
    refine GR_getI (pc := 36) hC F_RX10_104 (sh_42 hf) rfl dX10_undo_36 ?_
    exact GR_iretX (pc := 39) hC (by decide) hr dX10_undo_39
  · exact GR_throwW (pc := 10) (w := 19) hC hr TH_2 (List.mem_of_getElem? (i := 19) rfl) (by decide) ⟨rfl, rfl⟩ (Nat.le_of_ble_eq_true rfl) dX10_undo_10 dX10_undo_13 dX10_undo_14 dX10_undo_17 dX10_undo_20
set_option maxRecDepth 20000 in
set_option maxHeartbeats 1000000 in
theorem k_X10_save {P : GP} {p1 : Int32}{g : GM} (hf : g_on P 166) : KX P yX10_save cX10_save 2 (some .int) ⟨7, 1, 6, 120⟩ [gr P 0, .int p1] g (f_X10_save g p1) := by
  refine KX.ofW (by decide) rfl (Nat.le_of_ble_eq_true rfl) (fun X x hC hr => ?_)
  unfold f_X10_save
  change GR P X (g_QX P X x) 0 0 _ 0 [some (gr P 0), some (.int p1)] [] g x
  refine GR_iload_n (pc := 0) hC dX10_save_0 rfl rfl ?_
  refine GR_callSP (pc := 1) (As := [.int p1]) hC (k_X2_ofSlot hf) MY_X2_ofSlot MS_X2_ofSlot ML_RX10_352 ⟨rfl, rfl⟩ ⟨by decide, by decide⟩ ⟨by decide, by decide⟩ rfl rfl (Nat.le_of_ble_eq_true rfl) dX10_save_1 (fun v1 _ => ?_)
  refine GR_refuse2 (pc := 4) hC hr ML_RX10_129 (by decide) (Nat.le_of_ble_eq_true rfl) dX10_save_4 ?_
  refine GR_aload_n (pc := 7) hC dX10_save_7 rfl rfl ?_
  refine GR_getR (pc := 8) (r := 134) hC F_RX10_59 (sh_0 hf) rfl dX10_save_8 ?_
  refine GR_iload_n (pc := 11) hC dX10_save_11 rfl rfl ?_
  refine GR_aaldC (pc := 12) (q := 0) (r := 136) hC (sh_134 hf) dX10_save_12 rfl (by decide) ?_ ?_
  · refine GR_aload_n (pc := 13) hC dX10_save_13 rfl rfl ?_
    refine GR_getR (pc := 14) (r := 12) hC F_RX10_45 (sh_0 hf) rfl dX10_save_14 ?_
    refine GR_callVV (pc := 17) (As := [gr P 12]) hC (k_X9_copyFrom hf (g_S_136 hf) (g_S_12 hf)) MY_X9_copyFrom MI_X9_copyFrom ML_RX10_100 (sh_136 hf) rfl rfl ⟨rfl, rfl⟩ ⟨by decide, by decide⟩ ⟨by decide, by decide⟩ rfl rfl (Nat.le_of_ble_eq_true rfl) dX10_save_17 (fun g3 _ => ?_)
    refine GR_aload_n (pc := 20) hC dX10_save_20 rfl rfl ?_
    refine GR_getR (pc := 21) (r := 135) hC F_RX10_63 (sh_0 hf) rfl dX10_save_21 ?_
    refine GR_iload_n (pc := 24) hC dX10_save_24 rfl rfl ?_
    refine GR_iconst (pc := 25) (v := 1) hC dX10_save_25 rfl ?_
    refine GR_zast (pc := 26) hC (sh_135 hf) dX10_save_26 (fun g4 _ => ?_)
    refine GR_aload_n (pc := 27) hC dX10_save_27 rfl rfl ?_
    refine GR_getR (pc := 28) (r := 12) hC F_RX10_45 (sh_0 hf) rfl dX10_save_28 ?_
    refine GR_getI (pc := 31) hC F_RX10_207 (sh_12 hf) rfl dX10_save_31 ?_
    exact GR_iretX (pc := 34) hC (by decide) hr dX10_save_34
  refine GR_aaldC (pc := 12) (q := 1) (r := 151) hC (sh_134 hf) dX10_save_12 rfl (by decide) ?_ ?_
  · refine GR_aload_n (pc := 13) hC dX10_save_13 rfl rfl ?_
    refine GR_getR (pc := 14) (r := 12) hC F_RX10_45 (sh_0 hf) rfl dX10_save_14 ?_
    refine GR_callVV (pc := 17) (As := [gr P 12]) hC (k_X9_copyFrom hf (g_S_151 hf) (g_S_12 hf)) MY_X9_copyFrom MI_X9_copyFrom ML_RX10_100 (sh_151 hf) rfl rfl ⟨rfl, rfl⟩ ⟨by decide, by decide⟩ ⟨by decide, by decide⟩ rfl rfl (Nat.le_of_ble_eq_true rfl) dX10_save_17 (fun g6 _ => ?_)
    refine GR_aload_n (pc := 20) hC dX10_save_20 rfl rfl ?_
    refine GR_getR (pc := 21) (r := 135) hC F_RX10_63 (sh_0 hf) rfl dX10_save_21 ?_
    refine GR_iload_n (pc := 24) hC dX10_save_24 rfl rfl ?_
    refine GR_iconst (pc := 25) (v := 1) hC dX10_save_25 rfl ?_
    refine GR_zast (pc := 26) hC (sh_135 hf) dX10_save_26 (fun g7 _ => ?_)
    refine GR_aload_n (pc := 27) hC dX10_save_27 rfl rfl ?_
    refine GR_getR (pc := 28) (r := 12) hC F_RX10_45 (sh_0 hf) rfl dX10_save_28 ?_
    refine GR_getI (pc := 31) hC F_RX10_207 (sh_12 hf) rfl dX10_save_31 ?_
    exact GR_iretX (pc := 34) hC (by decide) hr dX10_save_34
  exact GR.none
set_option maxRecDepth 20000 in
set_option maxHeartbeats 1000000 in
theorem k_X10_restore {P : GP} {p1 : Int32}{g : GM} (hf : g_on P 166) : KX P yX10_restore cX10_restore 2 (some .int) ⟨7, 1, 6, 120⟩ [gr P 0, .int p1] g (f_X10_restore g p1) := by
  refine KX.ofW (by decide) rfl (Nat.le_of_ble_eq_true rfl) (fun X x hC hr => ?_)
  unfold f_X10_restore
  change GR P X (g_QX P X x) 0 0 _ 0 [some (gr P 0), some (.int p1)] [] g x
  refine GR_iload_n (pc := 0) hC dX10_restore_0 rfl rfl ?_
  refine GR_callSP (pc := 1) (As := [.int p1]) hC (k_X2_ofSlot hf) MY_X2_ofSlot MS_X2_ofSlot ML_RX10_352 ⟨rfl, rfl⟩ ⟨by decide, by decide⟩ ⟨by decide, by decide⟩ rfl rfl (Nat.le_of_ble_eq_true rfl) dX10_restore_1 (fun v1 _ => ?_)
  refine GR_refuse2 (pc := 4) hC hr ML_RX10_129 (by decide) (Nat.le_of_ble_eq_true rfl) dX10_restore_4 ?_
  refine GR_aload_n (pc := 7) hC dX10_restore_7 rfl rfl ?_
  refine GR_getR (pc := 8) (r := 135) hC F_RX10_63 (sh_0 hf) rfl dX10_restore_8 ?_
  refine GR_iload_n (pc := 11) hC dX10_restore_11 rfl rfl ?_
  refine GR_zald (pc := 12) hC (sh_135 hf) dX10_restore_12 (fun v2 _ => ?_)
  refine GR_if_ne (pc := 13) (tgt := 27) hC dX10_restore_13 (by decide) ?_ ?_
  · refine GR_aload_n (pc := 27) hC dX10_restore_27 rfl rfl ?_
    refine GR_getR (pc := 28) (r := 12) hC F_RX10_45 (sh_0 hf) rfl dX10_restore_28 ?_
    refine GR_aload_n (pc := 31) hC dX10_restore_31 rfl rfl ?_
    refine GR_getR (pc := 32) (r := 134) hC F_RX10_59 (sh_0 hf) rfl dX10_restore_32 ?_
    refine GR_iload_n (pc := 35) hC dX10_restore_35 rfl rfl ?_
    refine GR_aaldC (pc := 36) (q := 0) (r := 136) hC (sh_134 hf) dX10_restore_36 rfl (by decide) ?_ ?_
    · refine GR_callVV (pc := 37) (As := [gr P 136]) hC (k_X9_copyFrom hf (g_S_12 hf) (g_S_136 hf)) MY_X9_copyFrom MI_X9_copyFrom ML_RX10_100 (sh_12 hf) rfl rfl ⟨rfl, rfl⟩ ⟨by decide, by decide⟩ ⟨by decide, by decide⟩ rfl rfl (Nat.le_of_ble_eq_true rfl) dX10_restore_37 (fun g4 _ => ?_)
      refine GR_aload_n (pc := 40) hC dX10_restore_40 rfl rfl ?_
      refine GR_getR (pc := 41) (r := 42) hC F_RX10_55 (sh_0 hf) rfl dX10_restore_41 ?_
      refine GR_iconst (pc := 44) (v := 0) hC dX10_restore_44 rfl ?_
      refine GR_putI (pc := 45) hC FW_RX10_104 (sh_42 hf) rfl dX10_restore_45 (fun g5 _ => ?_)
      refine GR_aload_n (pc := 48) hC dX10_restore_48 rfl rfl ?_
      refine GR_getR (pc := 49) (r := 12) hC F_RX10_45 (sh_0 hf) rfl dX10_restore_49 ?_
      refine GR_getI (pc := 52) hC F_RX10_207 (sh_12 hf) rfl dX10_restore_52 ?_
      exact GR_iretX (pc := 55) hC (by decide) hr dX10_restore_55
    refine GR_aaldC (pc := 36) (q := 1) (r := 151) hC (sh_134 hf) dX10_restore_36 rfl (by decide) ?_ ?_
    · refine GR_callVV (pc := 37) (As := [gr P 151]) hC (k_X9_copyFrom hf (g_S_12 hf) (g_S_151 hf)) MY_X9_copyFrom MI_X9_copyFrom ML_RX10_100 (sh_12 hf) rfl rfl ⟨rfl, rfl⟩ ⟨by decide, by decide⟩ ⟨by decide, by decide⟩ rfl rfl (Nat.le_of_ble_eq_true rfl) dX10_restore_37 (fun g7 _ => ?_)
      refine GR_aload_n (pc := 40) hC dX10_restore_40 rfl rfl ?_
      refine GR_getR (pc := 41) (r := 42) hC F_RX10_55 (sh_0 hf) rfl dX10_restore_41 ?_
      refine GR_iconst (pc := 44) (v := 0) hC dX10_restore_44 rfl ?_
      refine GR_putI (pc := 45) hC FW_RX10_104 (sh_42 hf) rfl dX10_restore_45 (fun g8 _ => ?_)
      refine GR_aload_n (pc := 48) hC dX10_restore_48 rfl rfl ?_
      refine GR_getR (pc := 49) (r := 12) hC F_RX10_45 (sh_0 hf) rfl dX10_restore_49 ?_
      refine GR_getI (pc := 52) hC F_RX10_207 (sh_12 hf) rfl dX10_restore_52 ?_
      exact GR_iretX (pc := 55) hC (by decide) hr dX10_restore_55
    exact GR.none
  · exact GR_throwW (pc := 16) (w := 20) hC hr TH_2 (List.mem_of_getElem? (i := 20) rfl) (by decide) ⟨rfl, rfl⟩ (Nat.le_of_ble_eq_true rfl) dX10_restore_16 dX10_restore_19 dX10_restore_20 dX10_restore_23 dX10_restore_26
set_option maxRecDepth 20000 in
set_option maxHeartbeats 1000000 in
theorem lfL_X10_writeHerd_2 {P : GP} {X : GX} {x : GE} (hC : GC P X RX10 cX10_writeHerd 3 ⟨2, 0, 0, 42⟩) (hf : g_on P 166) (hr : X.2.2.2.2.2.2.2.2.1.sig.returnType = none) {kb : GM → Int32 → Option (GM)} (hkb : ∀ (g : GM) (x1 : Int32), GR P X (g_QV P X x) 0 0 (kb g x1) 43 [some (gr P 0), some (.int x1), none] [] g x) : ∀ (n : Nat) (g : GM) (x1 : Int32) (x2 : Int32), GR P X (g_QV P X x) 0 0 (fL_X10_writeHerd_2 kb n g x1 x2) 2 [some (gr P 0), some (.int x1), some (.int x2)] [] g x := by
  intro n
  induction n with
  | zero => intros; exact GR.none
  | succ n ih =>
    intro g x1 x2
    rw [fL_X10_writeHerd_2]
    refine GR_iload_n (pc := 2) hC dX10_writeHerd_2 rfl rfl ?_
    refine GR_aload_n (pc := 3) hC dX10_writeHerd_3 rfl rfl ?_
    refine GR_getR (pc := 4) (r := 12) hC F_RX10_45 (sh_0 hf) rfl dX10_writeHerd_4 ?_
    refine GR_getR (pc := 7) (r := 16) hC F_RX10_107 (sh_12 hf) rfl dX10_writeHerd_7 ?_
    refine GR_getR (pc := 10) (r := 18) hC F_RX10_386 (sh_16 hf) rfl dX10_writeHerd_10 ?_
    refine GR_iload_n (pc := 13) hC dX10_writeHerd_13 rfl rfl ?_
    refine GR_iald (pc := 14) hC (sh_18 hf) dX10_writeHerd_14 (fun v1 _ => ?_)
    refine GR_icmp_ge (pc := 15) (tgt := 43) hC dX10_writeHerd_15 (by decide) ?_ ?_
    · exact GR.less (hkb _ _) (g_le_at (And.intro rfl (And.intro rfl trivial)))
    · refine GR_aload_n (pc := 18) hC dX10_writeHerd_18 rfl rfl ?_
      refine GR_getR (pc := 19) (r := 4) hC F_RX10_24 (sh_0 hf) rfl dX10_writeHerd_19 ?_
      refine GR_aload_n (pc := 22) hC dX10_writeHerd_22 rfl rfl ?_
      refine GR_getR (pc := 23) (r := 12) hC F_RX10_45 (sh_0 hf) rfl dX10_writeHerd_23 ?_
      refine GR_getR (pc := 26) (r := 16) hC F_RX10_107 (sh_12 hf) rfl dX10_writeHerd_26 ?_
      refine GR_iload_n (pc := 29) hC dX10_writeHerd_29 rfl rfl ?_
      refine GR_iload_n (pc := 30) hC dX10_writeHerd_30 rfl rfl ?_
      refine GR_callVP (pc := 31) (As := [.int x1, .int x2]) hC (k_X5_letter hf (g_N_16 hf)) MY_X5_letter MI_X5_letter ML_RX10_161 (sh_16 hf) rfl rfl ⟨rfl, rfl⟩ ⟨by decide, by decide⟩ ⟨by decide, by decide⟩ rfl rfl (Nat.le_of_ble_eq_true rfl) dX10_writeHerd_31 (fun v2 _ => ?_)
      refine GR_callVV (pc := 34) (As := [.int v2]) hC (k_X6_put hf) MY_X6_put MI_X6_put ML_RX10_358 (sh_4 hf) rfl rfl ⟨rfl, rfl⟩ ⟨by decide, by decide⟩ ⟨by decide, by decide⟩ rfl rfl (Nat.le_of_ble_eq_true rfl) dX10_writeHerd_34 (fun g4 _ => ?_)
      refine GR_iinc (pc := 37) (w := 1) (L' := [some (gr P 0), some (.int x1), some (.int (x2 + 1))]) hC dX10_writeHerd_37 rfl rfl (by decide) rfl rfl ?_
      refine GR_goto (pc := 40) (tgt := 2) hC dX10_writeHerd_40 (by decide) ?_
      exact GR.less (ih _ _ _) (g_le_at (And.intro rfl (And.intro rfl (And.intro rfl trivial))))
set_option maxRecDepth 20000 in
set_option maxHeartbeats 1000000 in
theorem lfJ_X10_writeHerd_74 {P : GP} {X : GX} {x : GE} (hC : GC P X RX10 cX10_writeHerd 3 ⟨2, 0, 0, 42⟩) (hf : g_on P 166) (hr : X.2.2.2.2.2.2.2.2.1.sig.returnType = none) {kc : GM → Int32 → Int32 → Option (GM)} {kb : GM → Int32 → Option (GM)} (hkc : ∀ (g : GM) (x1 : Int32) (x2 : Int32), GR P X (g_QV P X x) 0 0 (kc g x1 x2) 45 [some (gr P 0), some (.int x1), some (.int x2)] [] g x) (hkb : ∀ (g : GM) (x1 : Int32), GR P X (g_QV P X x) 0 0 (kb g x1) 103 [some (gr P 0), some (.int x1), none] [] g x) (g : GM) (x1 : Int32) (x2 : Int32) (t0 : Int32) : GR P X (g_QV P X x) 0 0 (fJ_X10_writeHerd_74 kc kb g x1 x2 t0) 74 [some (gr P 0), some (.int x1), some (.int x2)] [.int t0, gr P 4] g x := by
  unfold fJ_X10_writeHerd_74
  refine GR_callVV (pc := 74) (As := [.int t0]) hC (k_X6_put hf) MY_X6_put MI_X6_put ML_RX10_358 (sh_4 hf) rfl rfl ⟨rfl, rfl⟩ ⟨by decide, by decide⟩ ⟨by decide, by decide⟩ rfl rfl (Nat.le_of_ble_eq_true rfl) dX10_writeHerd_74 (fun g6 _ => ?_)
  refine GR_aload_n (pc := 77) hC dX10_writeHerd_77 rfl rfl ?_
  refine GR_getR (pc := 78) (r := 4) hC F_RX10_24 (sh_0 hf) rfl dX10_writeHerd_78 ?_
  refine GR_aload_n (pc := 81) hC dX10_writeHerd_81 rfl rfl ?_
  refine GR_getR (pc := 82) (r := 12) hC F_RX10_45 (sh_0 hf) rfl dX10_writeHerd_82 ?_
  refine GR_getR (pc := 85) (r := 21) hC F_RX10_151 (sh_12 hf) rfl dX10_writeHerd_85 ?_
  refine GR_iload_n (pc := 88) hC dX10_writeHerd_88 rfl rfl ?_
  refine GR_iload_n (pc := 89) hC dX10_writeHerd_89 rfl rfl ?_
  refine GR_callSP (pc := 90) (As := [.int x1, .int x2]) hC (k_X9_cell hf) MY_X9_cell MS_X9_cell ML_RX10_147 ⟨rfl, rfl⟩ ⟨by decide, by decide⟩ ⟨by decide, by decide⟩ rfl rfl (Nat.le_of_ble_eq_true rfl) dX10_writeHerd_90 (fun v7 _ => ?_)
  refine GR_iald (pc := 93) hC (sh_21 hf) dX10_writeHerd_93 (fun v8 _ => ?_)
  refine GR_callVV (pc := 94) (As := [.int v8]) hC (k_X6_putNumber hf) MY_X6_putNumber MI_X6_putNumber ML_RX10_389 (sh_4 hf) rfl rfl ⟨rfl, rfl⟩ ⟨by decide, by decide⟩ ⟨by decide, by decide⟩ rfl rfl (Nat.le_of_ble_eq_true rfl) dX10_writeHerd_94 (fun g10 _ => ?_)
  refine GR_iinc (pc := 97) (w := 1) (L' := [some (gr P 0), some (.int x1), some (.int (x2 + 1))]) hC dX10_writeHerd_97 rfl rfl (by decide) rfl rfl ?_
  refine GR_goto (pc := 100) (tgt := 45) hC dX10_writeHerd_100 (by decide) ?_
  exact GR.less (hkc _ _ _) (g_le_at (And.intro rfl (And.intro rfl (And.intro rfl trivial))))
set_option maxRecDepth 20000 in
set_option maxHeartbeats 1000000 in
theorem lfL_X10_writeHerd_45 {P : GP} {X : GX} {x : GE} (hC : GC P X RX10 cX10_writeHerd 3 ⟨2, 0, 0, 42⟩) (hf : g_on P 166) (hr : X.2.2.2.2.2.2.2.2.1.sig.returnType = none) {kb : GM → Int32 → Option (GM)} (hkb : ∀ (g : GM) (x1 : Int32), GR P X (g_QV P X x) 0 0 (kb g x1) 103 [some (gr P 0), some (.int x1), none] [] g x) : ∀ (n : Nat) (g : GM) (x1 : Int32) (x2 : Int32), GR P X (g_QV P X x) 0 0 (fL_X10_writeHerd_45 kb n g x1 x2) 45 [some (gr P 0), some (.int x1), some (.int x2)] [] g x := by
  intro n
  induction n with
  | zero => intros; exact GR.none
  | succ n ih =>
    intro g x1 x2
    rw [fL_X10_writeHerd_45]
    refine GR_iload_n (pc := 45) hC dX10_writeHerd_45 rfl rfl ?_
    refine GR_aload_n (pc := 46) hC dX10_writeHerd_46 rfl rfl ?_
    refine GR_getR (pc := 47) (r := 12) hC F_RX10_45 (sh_0 hf) rfl dX10_writeHerd_47 ?_
    refine GR_getR (pc := 50) (r := 13) hC F_RX10_120 (sh_12 hf) rfl dX10_writeHerd_50 ?_
    refine GR_getI (pc := 53) hC F_RX10_111 (sh_13 hf) rfl dX10_writeHerd_53 ?_
    refine GR_icmp_ge (pc := 56) (tgt := 103) hC dX10_writeHerd_56 (by decide) ?_ ?_
    · exact GR.less (hkb _ _) (g_le_at (And.intro rfl (And.intro rfl trivial)))
    · refine GR_aload_n (pc := 59) hC dX10_writeHerd_59 rfl rfl ?_
      refine GR_getR (pc := 60) (r := 4) hC F_RX10_24 (sh_0 hf) rfl dX10_writeHerd_60 ?_
      refine GR_iload_n (pc := 63) hC dX10_writeHerd_63 rfl rfl ?_
      refine GR_if_ne (pc := 64) (tgt := 72) hC dX10_writeHerd_64 (by decide) ?_ ?_
      · refine GR_bipush (pc := 72) (v := 44) hC dX10_writeHerd_72 rfl ?_
        exact GR.less (lfJ_X10_writeHerd_74 hC hf hr ih hkb _ _ _ _) (g_le_at (And.intro rfl (And.intro rfl (And.intro rfl trivial))))
      · refine GR_bipush (pc := 67) (v := 58) hC dX10_writeHerd_67 rfl ?_
        refine GR_goto (pc := 69) (tgt := 74) hC dX10_writeHerd_69 (by decide) ?_
        exact GR.less (lfJ_X10_writeHerd_74 hC hf hr ih hkb _ _ _ _) (g_le_at (And.intro rfl (And.intro rfl (And.intro rfl trivial))))
set_option maxRecDepth 20000 in
set_option maxHeartbeats 1000000 in
theorem k_X10_writeHerd {P : GP} {p1 : Int32}{g : GM} (hf : g_on P 166) : KV P yX10_writeHerd cX10_writeHerd 3 ⟨2, 0, 0, 42⟩ [gr P 0, .int p1] g (f_X10_writeHerd g p1) := by
  refine KV.ofW (by decide) rfl (Nat.le_of_ble_eq_true rfl) (fun X x hC hr => ?_)
  unfold f_X10_writeHerd
  change GR P X (g_QV P X x) 0 0 _ 0 [some (gr P 0), some (.int p1), none] [] g x
  refine GR_iconst (pc := 0) (v := 0) hC dX10_writeHerd_0 rfl ?_
  refine GR_istore_n (pc := 1) (L' := [some (gr P 0), some (.int p1), some (.int 0)]) hC dX10_writeHerd_1 rfl (by decide) rfl rfl ?_
  refine GR.less (lfL_X10_writeHerd_2 hC hf hr ?_ fu _ _ _) (g_le_at (And.intro rfl (And.intro rfl (And.intro rfl trivial))))
  intro g x1
  refine GR_iconst (pc := 43) (v := 0) hC dX10_writeHerd_43 rfl ?_
  refine GR_istore_n (pc := 44) (L' := [some (gr P 0), some (.int x1), some (.int 0)]) hC dX10_writeHerd_44 rfl (by decide) rfl rfl ?_
  refine GR.less (lfL_X10_writeHerd_45 hC hf hr ?_ fu _ _ _) (g_le_at (And.intro rfl (And.intro rfl (And.intro rfl trivial))))
  intro g x1
  refine GR_aload_n (pc := 103) hC dX10_writeHerd_103 rfl rfl ?_
  refine GR_getR (pc := 104) (r := 12) hC F_RX10_45 (sh_0 hf) rfl dX10_writeHerd_104 ?_
  refine GR_iload_n (pc := 107) hC dX10_writeHerd_107 rfl rfl ?_
  refine GR_callVP (pc := 108) (As := [.int x1]) hC (k_X9_waits hf (g_S_12 hf)) MY_X9_waits MI_X9_waits ML_RX10_213 (sh_12 hf) rfl rfl ⟨rfl, rfl⟩ ⟨by decide, by decide⟩ ⟨by decide, by decide⟩ rfl rfl (Nat.le_of_ble_eq_true rfl) dX10_writeHerd_108 (fun v11 _ => ?_)
  refine GR_if_eq (pc := 111) (tgt := 123) hC dX10_writeHerd_111 (by decide) ?_ ?_
  · exact GR_vret (pc := 123) hC hr dX10_writeHerd_123
  · refine GR_aload_n (pc := 114) hC dX10_writeHerd_114 rfl rfl ?_
    refine GR_getR (pc := 115) (r := 4) hC F_RX10_24 (sh_0 hf) rfl dX10_writeHerd_115 ?_
    refine GR_bipush (pc := 118) (v := 63) hC dX10_writeHerd_118 rfl ?_
    refine GR_callVV (pc := 120) (As := [.int 63]) hC (k_X6_put hf) MY_X6_put MI_X6_put ML_RX10_358 (sh_4 hf) rfl rfl ⟨rfl, rfl⟩ ⟨by decide, by decide⟩ ⟨by decide, by decide⟩ rfl rfl (Nat.le_of_ble_eq_true rfl) dX10_writeHerd_120 (fun g13 _ => ?_)
    exact GR_vret (pc := 123) hC hr dX10_writeHerd_123
set_option maxRecDepth 20000 in
set_option maxHeartbeats 1000000 in
theorem lfJ_X10_writeAllocations_37 {P : GP} {X : GX} {x : GE} (hC : GC P X RX10 cX10_writeAllocations 2 ⟨3, 0, 0, 64⟩) (hf : g_on P 166) (hr : X.2.2.2.2.2.2.2.2.1.sig.returnType = some .int) {kc : GM → Int32 → Option (GM × Int32)} {kb : GM → Option (GM × Int32)} (hkc : ∀ (g : GM) (x1 : Int32), GR P X (g_QI P X x) 0 0 (kc g x1) 10 [some (gr P 0), some (.int x1)] [] g x) (hkb : ∀ (g : GM), GR P X (g_QI P X x) 0 0 (kb g) 48 [some (gr P 0), none] [] g x) (g : GM) (x1 : Int32) : GR P X (g_QI P X x) 0 0 (fJ_X10_writeAllocations_37 kc kb g x1) 37 [some (gr P 0), some (.int x1)] [] g x := by
  unfold fJ_X10_writeAllocations_37
  refine GR_aload_n (pc := 37) hC dX10_writeAllocations_37 rfl rfl ?_
  refine GR_iload_n (pc := 38) hC dX10_writeAllocations_38 rfl rfl ?_
  refine GR_callVV (pc := 39) (As := [.int x1]) hC (k_X10_writeHerd hf) MY_X10_writeHerd MI_X10_writeHerd ML_RX10_361 (sh_0 hf) rfl rfl ⟨rfl, rfl⟩ ⟨by decide, by decide⟩ ⟨by decide, by decide⟩ rfl rfl (Nat.le_of_ble_eq_true rfl) dX10_writeAllocations_39 (fun g3 _ => ?_)
  refine GR_iinc (pc := 42) (w := 1) (L' := [some (gr P 0), some (.int (x1 + 1))]) hC dX10_writeAllocations_42 rfl rfl (by decide) rfl rfl ?_
  refine GR_goto (pc := 45) (tgt := 10) hC dX10_writeAllocations_45 (by decide) ?_
  exact GR.less (hkc _ _) (g_le_at (And.intro rfl (And.intro rfl trivial)))
set_option maxRecDepth 20000 in
set_option maxHeartbeats 1000000 in
theorem lfL_X10_writeAllocations_10 {P : GP} {X : GX} {x : GE} (hC : GC P X RX10 cX10_writeAllocations 2 ⟨3, 0, 0, 64⟩) (hf : g_on P 166) (hr : X.2.2.2.2.2.2.2.2.1.sig.returnType = some .int) {kb : GM → Option (GM × Int32)} (hkb : ∀ (g : GM), GR P X (g_QI P X x) 0 0 (kb g) 48 [some (gr P 0), none] [] g x) : ∀ (n : Nat) (g : GM) (x1 : Int32), GR P X (g_QI P X x) 0 0 (fL_X10_writeAllocations_10 kb n g x1) 10 [some (gr P 0), some (.int x1)] [] g x := by
  intro n
  induction n with
  | zero => intros; exact GR.none
  | succ n ih =>
    intro g x1
    rw [fL_X10_writeAllocations_10]
    refine GR_iload_n (pc := 10) hC dX10_writeAllocations_10 rfl rfl ?_
    refine GR_aload_n (pc := 11) hC dX10_writeAllocations_11 rfl rfl ?_
    refine GR_getR (pc := 12) (r := 12) hC F_RX10_45 (sh_0 hf) rfl dX10_writeAllocations_12 ?_
    refine GR_getR (pc := 15) (r := 16) hC F_RX10_107 (sh_12 hf) rfl dX10_writeAllocations_15 ?_
    refine GR_getI (pc := 18) hC F_RX10_111 (sh_16 hf) rfl dX10_writeAllocations_18 ?_
    refine GR_icmp_ge (pc := 21) (tgt := 48) hC dX10_writeAllocations_21 (by decide) ?_ ?_
    · exact GR.less (hkb _) (g_le_at (And.intro rfl trivial))
    · refine GR_iload_n (pc := 24) hC dX10_writeAllocations_24 rfl rfl ?_
      refine GR_if_le (pc := 25) (tgt := 37) hC dX10_writeAllocations_25 (by decide) ?_ ?_
      · exact GR.less (lfJ_X10_writeAllocations_37 hC hf hr ih hkb _ _) (g_le_at (And.intro rfl (And.intro rfl trivial)))
      · refine GR_aload_n (pc := 28) hC dX10_writeAllocations_28 rfl rfl ?_
        refine GR_getR (pc := 29) (r := 4) hC F_RX10_24 (sh_0 hf) rfl dX10_writeAllocations_29 ?_
        refine GR_bipush (pc := 32) (v := 32) hC dX10_writeAllocations_32 rfl ?_
        refine GR_callVV (pc := 34) (As := [.int 32]) hC (k_X6_put hf) MY_X6_put MI_X6_put ML_RX10_358 (sh_4 hf) rfl rfl ⟨rfl, rfl⟩ ⟨by decide, by decide⟩ ⟨by decide, by decide⟩ rfl rfl (Nat.le_of_ble_eq_true rfl) dX10_writeAllocations_34 (fun g5 _ => ?_)
        exact GR.less (lfJ_X10_writeAllocations_37 hC hf hr ih hkb _ _) (g_le_at (And.intro rfl (And.intro rfl trivial)))
set_option maxRecDepth 20000 in
set_option maxHeartbeats 1000000 in
theorem k_X10_writeAllocations {P : GP}{g : GM} (hf : g_on P 166) : KI P yX10_writeAllocations cX10_writeAllocations 2 (some .int) ⟨3, 0, 0, 64⟩ [gr P 0] g (f_X10_writeAllocations g) := by
  refine KI.ofW (by decide) rfl (Nat.le_of_ble_eq_true rfl) (fun X x hC hr _ => ?_)
  unfold f_X10_writeAllocations
  change GR P X (g_QI P X x) 0 0 _ 0 [some (gr P 0), none] [] g x
  refine GR_aload_n (pc := 0) hC dX10_writeAllocations_0 rfl rfl ?_
  refine GR_getR (pc := 1) (r := 4) hC F_RX10_24 (sh_0 hf) rfl dX10_writeAllocations_1 ?_
  refine GR_iconst (pc := 4) (v := 0) hC dX10_writeAllocations_4 rfl ?_
  refine GR_putI (pc := 5) hC FW_RX10_357 (sh_4 hf) rfl dX10_writeAllocations_5 (fun g1 _ => ?_)
  refine GR_iconst (pc := 8) (v := 0) hC dX10_writeAllocations_8 rfl ?_
  refine GR_istore_n (pc := 9) (L' := [some (gr P 0), some (.int 0)]) hC dX10_writeAllocations_9 rfl (by decide) rfl rfl ?_
  refine GR.less (lfL_X10_writeAllocations_10 hC hf hr ?_ fu _ _) (g_le_at (And.intro rfl (And.intro rfl trivial)))
  intro g
  refine GR_aload_n (pc := 48) hC dX10_writeAllocations_48 rfl rfl ?_
  refine GR_getR (pc := 49) (r := 4) hC F_RX10_24 (sh_0 hf) rfl dX10_writeAllocations_49 ?_
  refine GR_getI (pc := 52) hC F_RX10_357 (sh_4 hf) rfl dX10_writeAllocations_52 ?_
  exact GR_iret (pc := 55) hC hr dX10_writeAllocations_55
set_option maxRecDepth 20000 in
set_option maxHeartbeats 1000000 in
theorem lfJ_X10_outputByte_15 {P : GP} {X : GX} {x : GE} (hC : GC P X RX10 cX10_outputByte 2 ⟨6, 1, 6, 100⟩) (hf : g_on P 166) (hr : GXr X (some .int)) (g : GM) : GR P X (g_QX P X x) 0 0 (fJ_X10_outputByte_15 g) 15 [none, none] [] g x := by
  unfold fJ_X10_outputByte_15
  exact GR_throwW (pc := 15) (w := 21) hC hr TH_0 (List.mem_of_getElem? (i := 21) rfl) (by decide) ⟨rfl, rfl⟩ (Nat.le_of_ble_eq_true rfl) dX10_outputByte_15 dX10_outputByte_18 dX10_outputByte_19 dX10_outputByte_22 dX10_outputByte_25
set_option maxRecDepth 20000 in
set_option maxHeartbeats 1000000 in
theorem k_X10_outputByte {P : GP} {p1 : Int32}{g : GM} (hf : g_on P 166) : KX P yX10_outputByte cX10_outputByte 2 (some .int) ⟨6, 1, 6, 100⟩ [gr P 0, .int p1] g (f_X10_outputByte g p1) := by
  refine KX.ofW (by decide) rfl (Nat.le_of_ble_eq_true rfl) (fun X x hC hr => ?_)
  unfold f_X10_outputByte
  change GR P X (g_QX P X x) 0 0 _ 0 [some (gr P 0), some (.int p1)] [] g x
  refine GR_iload_n (pc := 0) hC dX10_outputByte_0 rfl rfl ?_
  refine GR_if_lt (pc := 1) (tgt := 15) hC dX10_outputByte_1 (by decide) ?_ ?_
  · exact GR.less (lfJ_X10_outputByte_15 hC hf hr _) (g_le_at trivial)
  · refine GR_iload_n (pc := 4) hC dX10_outputByte_4 rfl rfl ?_
    refine GR_aload_n (pc := 5) hC dX10_outputByte_5 rfl rfl ?_
    refine GR_getR (pc := 6) (r := 4) hC F_RX10_24 (sh_0 hf) rfl dX10_outputByte_6 ?_
    refine GR_getI (pc := 9) hC F_RX10_357 (sh_4 hf) rfl dX10_outputByte_9 ?_
    refine GR_icmp_lt (pc := 12) (tgt := 26) hC dX10_outputByte_12 (by decide) ?_ ?_
    · refine GR_aload_n (pc := 26) hC dX10_outputByte_26 rfl rfl ?_
      refine GR_getR (pc := 27) (r := 4) hC F_RX10_24 (sh_0 hf) rfl dX10_outputByte_27 ?_
      refine GR_getR (pc := 30) (r := 5) hC F_RX10_369 (sh_4 hf) rfl dX10_outputByte_30 ?_
      refine GR_iload_n (pc := 33) hC dX10_outputByte_33 rfl rfl ?_
      refine GR_bald (pc := 34) hC (sh_5 hf) dX10_outputByte_34 (fun v1 _ => ?_)
      exact GR_iretX (pc := 35) hC (by decide) hr dX10_outputByte_35
    · exact GR.less (lfJ_X10_outputByte_15 hC hf hr _) (g_le_at trivial)
set_option maxRecDepth 20000 in
set_option maxHeartbeats 1000000 in
theorem k_X11_thrown {P : GP}{g : GM} (hf : g_on P 177) : KI P yX11_thrown cX11_thrown 1 (some .int) ⟨0, 0, 0, 0⟩ [gr P 166] g ((f_X11_thrown g).map (fun r => (g, r))) := by
  refine KI.ofWP (by decide) rfl (Nat.le_of_ble_eq_true rfl) (fun X x hC hr => ?_)
  unfold f_X11_thrown
  change GR P X (g_QP P X g x) 0 0 _ 0 [some (gr P 166)] [] g x
  refine GR_aload_n (pc := 0) hC dX11_thrown_0 rfl rfl ?_
  refine GR_getI (pc := 1) hC F_RX11_1 (sh_166 hf) rfl dX11_thrown_1 ?_
  exact GR_iretP (pc := 4) hC hr dX11_thrown_4
set_option maxRecDepth 20000 in
set_option maxHeartbeats 1000000 in
theorem lfJ_X11_fails_26 {P : GP} {X : GX} {x : GE} (hC : GC P X RX11 cX11_fails 4 ⟨0, 0, 0, 0⟩) (hf : g_on P 177) (hr : X.2.2.2.2.2.2.2.2.1.sig.returnType = some .boolean) (g : GM) (t0 : Int32) : GR P X (g_QI P X x) 0 0 (fJ_X11_fails_26 g t0) 26 [some (gr P 166), none, none, none] [.int t0, gr P 166] g x := by
  unfold fJ_X11_fails_26
  refine GR_putI (pc := 26) hC FW_RX11_1 (sh_166 hf) rfl dX11_fails_26 (fun g1 _ => ?_)
  refine GR_aload_n (pc := 29) hC dX11_fails_29 rfl rfl ?_
  refine GR_getI (pc := 30) hC F_RX11_1 (sh_166 hf) rfl dX11_fails_30 ?_
  refine GR_if_le (pc := 33) (tgt := 40) hC dX11_fails_33 (by decide) ?_ ?_
  · refine GR_iconst (pc := 40) (v := 0) hC dX11_fails_40 rfl ?_
    exact GR_zretC (pc := 41) hC (Or.inl rfl) hr dX11_fails_41
  · refine GR_iconst (pc := 36) (v := 1) hC dX11_fails_36 rfl ?_
    refine GR_goto (pc := 37) (tgt := 41) hC dX11_fails_37 (by decide) ?_
    exact GR_zretC (pc := 41) hC (Or.inr rfl) hr dX11_fails_41
set_option maxRecDepth 20000 in
set_option maxHeartbeats 1000000 in
theorem k_X11_fails {P : GP} {p1 : Int32} {p2 : Int32} {p3 : Int32}{g : GM} (hf : g_on P 177) : KI P yX11_fails cX11_fails 4 (some .boolean) ⟨0, 0, 0, 0⟩ [gr P 166, .int p1, .int p2, .int p3] g (f_X11_fails g p1 p2 p3) := by
  refine KI.ofW (by decide) rfl (Nat.le_of_ble_eq_true rfl) (fun X x hC hr _ => ?_)
  unfold f_X11_fails
  change GR P X (g_QI P X x) 0 0 _ 0 [some (gr P 166), some (.int p1), some (.int p2), some (.int p3)] [] g x
  refine GR_aload_n (pc := 0) hC dX11_fails_0 rfl rfl ?_
  refine GR_iload_n (pc := 1) hC dX11_fails_1 rfl rfl ?_
  refine GR_if_eq (pc := 2) (tgt := 9) hC dX11_fails_2 (by decide) ?_ ?_
  · refine GR_iload_n (pc := 9) hC dX11_fails_9 rfl rfl ?_
    refine GR_if_eq (pc := 10) (tgt := 17) hC dX11_fails_10 (by decide) ?_ ?_
    · refine GR_iload_n (pc := 17) hC dX11_fails_17 rfl rfl ?_
      refine GR_if_eq (pc := 18) (tgt := 25) hC dX11_fails_18 (by decide) ?_ ?_
      · refine GR_iconst (pc := 25) (v := 0) hC dX11_fails_25 rfl ?_
        exact GR.less (lfJ_X11_fails_26 hC hf hr _ _) (g_le_at (And.intro rfl trivial))
      · refine GR_iconst (pc := 21) (v := 3) hC dX11_fails_21 rfl ?_
        refine GR_goto (pc := 22) (tgt := 26) hC dX11_fails_22 (by decide) ?_
        exact GR.less (lfJ_X11_fails_26 hC hf hr _ _) (g_le_at (And.intro rfl trivial))
    · refine GR_iconst (pc := 13) (v := 2) hC dX11_fails_13 rfl ?_
      refine GR_goto (pc := 14) (tgt := 26) hC dX11_fails_14 (by decide) ?_
      exact GR.less (lfJ_X11_fails_26 hC hf hr _ _) (g_le_at (And.intro rfl trivial))
  · refine GR_iconst (pc := 5) (v := 1) hC dX11_fails_5 rfl ?_
    refine GR_goto (pc := 6) (tgt := 26) hC dX11_fails_6 (by decide) ?_
    exact GR.less (lfJ_X11_fails_26 hC hf hr _ _) (g_le_at (And.intro rfl trivial))
set_option maxRecDepth 20000 in
set_option maxHeartbeats 1000000 in
theorem k_X11_in {P : GP} {p0 : Int32} {p1 : Int32} {p2 : Int32}{g : GM} (hf : g_on P 177) : KI P yX11_in cX11_in 3 (some .boolean) ⟨0, 0, 0, 0⟩ [.int p0, .int p1, .int p2] g ((f_X11_in g p0 p1 p2).map (fun r => (g, r))) := by
  refine KI.ofWP (by decide) rfl (Nat.le_of_ble_eq_true rfl) (fun X x hC hr => ?_)
  unfold f_X11_in
  change GR P X (g_QP P X g x) 0 0 _ 0 [some (.int p0), some (.int p1), some (.int p2)] [] g x
  refine GR_iload_n (pc := 0) hC dX11_in_0 rfl rfl ?_
  refine GR_iload_n (pc := 1) hC dX11_in_1 rfl rfl ?_
  refine GR_icmp_lt (pc := 2) (tgt := 14) hC dX11_in_2 (by decide) ?_ ?_
  · refine GR_iconst (pc := 14) (v := 0) hC dX11_in_14 rfl ?_
    exact GR_zretCP (pc := 15) hC (Or.inl rfl) hr dX11_in_15
  · refine GR_iload_n (pc := 5) hC dX11_in_5 rfl rfl ?_
    refine GR_iload_n (pc := 6) hC dX11_in_6 rfl rfl ?_
    refine GR_icmp_gt (pc := 7) (tgt := 14) hC dX11_in_7 (by decide) ?_ ?_
    · refine GR_iconst (pc := 14) (v := 0) hC dX11_in_14 rfl ?_
      exact GR_zretCP (pc := 15) hC (Or.inl rfl) hr dX11_in_15
    · refine GR_iconst (pc := 10) (v := 1) hC dX11_in_10 rfl ?_
      refine GR_goto (pc := 11) (tgt := 15) hC dX11_in_11 (by decide) ?_
      exact GR_zretCP (pc := 15) hC (Or.inr rfl) hr dX11_in_15
set_option maxRecDepth 20000 in
set_option maxHeartbeats 1000000 in
theorem k_X11_isPasture {P : GP} {p1 : Int32}{g : GM} (hf : g_on P 177) : KI P yX11_isPasture cX11_isPasture 2 (some .boolean) ⟨1, 0, 0, 22⟩ [gr P 166, .int p1] g ((f_X11_isPasture g p1).map (fun r => (g, r))) := by
  refine KI.ofWP (by decide) rfl (Nat.le_of_ble_eq_true rfl) (fun X x hC hr => ?_)
  unfold f_X11_isPasture
  change GR P X (g_QP P X g x) 0 0 _ 0 [some (gr P 166), some (.int p1)] [] g x
  refine GR_iload_n (pc := 0) hC dX11_isPasture_0 rfl rfl ?_
  refine GR_iconst (pc := 1) (v := 0) hC dX11_isPasture_1 rfl ?_
  refine GR_aload_n (pc := 2) hC dX11_isPasture_2 rfl rfl ?_
  refine GR_getR (pc := 3) (r := 167) hC F_RX11_13 (sh_166 hf) rfl dX11_isPasture_3 ?_
  refine GR_iconst (pc := 6) (v := 0) hC dX11_isPasture_6 rfl ?_
  refine GR_iald (pc := 7) hC (sh_167 hf) dX11_isPasture_7 (fun v1 _ => ?_)
  refine GR_iconst (pc := 8) (v := 1) hC dX11_isPasture_8 rfl ?_
  refine GR_isub (pc := 9) hC dX11_isPasture_9 ?_
  refine GR_callSP (pc := 10) (As := [.int p1, .int 0, .int (v1 - 1)]) hC (k_X11_in hf) MY_X11_in MS_X11_in ML_RX11_90 ⟨rfl, rfl⟩ ⟨by decide, by decide⟩ ⟨by decide, by decide⟩ rfl rfl (Nat.le_of_ble_eq_true rfl) dX11_isPasture_10 (fun v2 _ => ?_)
  exact GR_zretP (pc := 13) hC hr dX11_isPasture_13
set_option maxRecDepth 20000 in
set_option maxHeartbeats 1000000 in
theorem k_X11_isHerd {P : GP} {p1 : Int32}{g : GM} (hf : g_on P 177) : KI P yX11_isHerd cX11_isHerd 2 (some .boolean) ⟨1, 0, 0, 22⟩ [gr P 166, .int p1] g ((f_X11_isHerd g p1).map (fun r => (g, r))) := by
  refine KI.ofWP (by decide) rfl (Nat.le_of_ble_eq_true rfl) (fun X x hC hr => ?_)
  unfold f_X11_isHerd
  change GR P X (g_QP P X g x) 0 0 _ 0 [some (gr P 166), some (.int p1)] [] g x
  refine GR_iload_n (pc := 0) hC dX11_isHerd_0 rfl rfl ?_
  refine GR_iconst (pc := 1) (v := 0) hC dX11_isHerd_1 rfl ?_
  refine GR_aload_n (pc := 2) hC dX11_isHerd_2 rfl rfl ?_
  refine GR_getR (pc := 3) (r := 167) hC F_RX11_13 (sh_166 hf) rfl dX11_isHerd_3 ?_
  refine GR_iconst (pc := 6) (v := 1) hC dX11_isHerd_6 rfl ?_
  refine GR_iald (pc := 7) hC (sh_167 hf) dX11_isHerd_7 (fun v1 _ => ?_)
  refine GR_iconst (pc := 8) (v := 1) hC dX11_isHerd_8 rfl ?_
  refine GR_isub (pc := 9) hC dX11_isHerd_9 ?_
  refine GR_callSP (pc := 10) (As := [.int p1, .int 0, .int (v1 - 1)]) hC (k_X11_in hf) MY_X11_in MS_X11_in ML_RX11_90 ⟨rfl, rfl⟩ ⟨by decide, by decide⟩ ⟨by decide, by decide⟩ rfl rfl (Nat.le_of_ble_eq_true rfl) dX11_isHerd_10 (fun v2 _ => ?_)
  exact GR_zretP (pc := 13) hC hr dX11_isHerd_13
set_option maxRecDepth 20000 in
set_option maxHeartbeats 1000000 in
theorem k_X11_areThere {P : GP} {p1 : Int32} {p2 : Int32}{g : GM} (hf : g_on P 177) : KI P yX11_areThere cX11_areThere 3 (some .boolean) ⟨2, 0, 0, 43⟩ [gr P 166, .int p1, .int p2] g ((f_X11_areThere g p1 p2).map (fun r => (g, r))) := by
  refine KI.ofWP (by decide) rfl (Nat.le_of_ble_eq_true rfl) (fun X x hC hr => ?_)
  unfold f_X11_areThere
  change GR P X (g_QP P X g x) 0 0 _ 0 [some (gr P 166), some (.int p1), some (.int p2)] [] g x
  refine GR_aload_n (pc := 0) hC dX11_areThere_0 rfl rfl ?_
  refine GR_iload_n (pc := 1) hC dX11_areThere_1 rfl rfl ?_
  refine GR_callVP (pc := 2) (As := [.int p1]) hC (k_X11_isHerd hf) MY_X11_isHerd MI_X11_isHerd ML_RX11_94 (sh_166 hf) rfl rfl ⟨rfl, rfl⟩ ⟨by decide, by decide⟩ ⟨by decide, by decide⟩ rfl rfl (Nat.le_of_ble_eq_true rfl) dX11_areThere_2 (fun v1 _ => ?_)
  refine GR_if_eq (pc := 5) (tgt := 20) hC dX11_areThere_5 (by decide) ?_ ?_
  · refine GR_iconst (pc := 20) (v := 0) hC dX11_areThere_20 rfl ?_
    exact GR_zretCP (pc := 21) hC (Or.inl rfl) hr dX11_areThere_21
  · refine GR_aload_n (pc := 8) hC dX11_areThere_8 rfl rfl ?_
    refine GR_iload_n (pc := 9) hC dX11_areThere_9 rfl rfl ?_
    refine GR_callVP (pc := 10) (As := [.int p2]) hC (k_X11_isPasture hf) MY_X11_isPasture MI_X11_isPasture ML_RX11_98 (sh_166 hf) rfl rfl ⟨rfl, rfl⟩ ⟨by decide, by decide⟩ ⟨by decide, by decide⟩ rfl rfl (Nat.le_of_ble_eq_true rfl) dX11_areThere_10 (fun v2 _ => ?_)
    refine GR_if_eq (pc := 13) (tgt := 20) hC dX11_areThere_13 (by decide) ?_ ?_
    · refine GR_iconst (pc := 20) (v := 0) hC dX11_areThere_20 rfl ?_
      exact GR_zretCP (pc := 21) hC (Or.inl rfl) hr dX11_areThere_21
    · refine GR_iconst (pc := 16) (v := 1) hC dX11_areThere_16 rfl ?_
      refine GR_goto (pc := 17) (tgt := 21) hC dX11_areThere_17 (by decide) ?_
      exact GR_zretCP (pc := 21) hC (Or.inr rfl) hr dX11_areThere_21
set_option maxRecDepth 20000 in
set_option maxHeartbeats 1000000 in
theorem k_X11_of {P : GP} {p1 : Int32} {p2 : Int32}{g : GM} (hf : g_on P 177) : KI P yX11_of cX11_of 3 (some .int) ⟨0, 0, 0, 0⟩ [gr P 166, .int p1, .int p2] g ((f_X11_of g p1 p2).map (fun r => (g, r))) := by
  refine KI.ofWP (by decide) rfl (Nat.le_of_ble_eq_true rfl) (fun X x hC hr => ?_)
  unfold f_X11_of
  change GR P X (g_QP P X g x) 0 0 _ 0 [some (gr P 166), some (.int p1), some (.int p2)] [] g x
  refine GR_aload_n (pc := 0) hC dX11_of_0 rfl rfl ?_
  refine GR_getR (pc := 1) (r := 167) hC F_RX11_13 (sh_166 hf) rfl dX11_of_1 ?_
  refine GR_bipush (pc := 4) (v := 56) hC dX11_of_4 rfl ?_
  refine GR_iload_n (pc := 6) hC dX11_of_6 rfl rfl ?_
  refine GR_bipush (pc := 7) (v := 19) hC dX11_of_7 rfl ?_
  refine GR_imul (pc := 9) hC dX11_of_9 ?_
  refine GR_iadd (pc := 10) hC dX11_of_10 ?_
  refine GR_iload_n (pc := 11) hC dX11_of_11 rfl rfl ?_
  refine GR_iadd (pc := 12) hC dX11_of_12 ?_
  refine GR_iald (pc := 13) hC (sh_167 hf) dX11_of_13 (fun v1 _ => ?_)
  exact GR_iretP (pc := 14) hC hr dX11_of_14
set_option maxRecDepth 20000 in
set_option maxHeartbeats 1000000 in
theorem k_X11_set {P : GP} {p1 : Int32} {p2 : Int32} {p3 : Int32}{g : GM} (hf : g_on P 177) : KV P yX11_set cX11_set 4 ⟨0, 0, 0, 0⟩ [gr P 166, .int p1, .int p2, .int p3] g (f_X11_set g p1 p2 p3) := by
  refine KV.ofW (by decide) rfl (Nat.le_of_ble_eq_true rfl) (fun X x hC hr => ?_)
  unfold f_X11_set
  change GR P X (g_QV P X x) 0 0 _ 0 [some (gr P 166), some (.int p1), some (.int p2), some (.int p3)] [] g x
  refine GR_aload_n (pc := 0) hC dX11_set_0 rfl rfl ?_
  refine GR_getR (pc := 1) (r := 167) hC F_RX11_13 (sh_166 hf) rfl dX11_set_1 ?_
  refine GR_bipush (pc := 4) (v := 56) hC dX11_set_4 rfl ?_
  refine GR_iload_n (pc := 6) hC dX11_set_6 rfl rfl ?_
  refine GR_bipush (pc := 7) (v := 19) hC dX11_set_7 rfl ?_
  refine GR_imul (pc := 9) hC dX11_set_9 ?_
  refine GR_iadd (pc := 10) hC dX11_set_10 ?_
  refine GR_iload_n (pc := 11) hC dX11_set_11 rfl rfl ?_
  refine GR_iadd (pc := 12) hC dX11_set_12 ?_
  refine GR_iload_n (pc := 13) hC dX11_set_13 rfl rfl ?_
  refine GR_iast (pc := 14) hC (sh_167 hf) dX11_set_14 (fun g1 _ => ?_)
  exact GR_vret (pc := 15) hC hr dX11_set_15
set_option maxRecDepth 20000 in
set_option maxHeartbeats 1000000 in
theorem k_X11_capacityOf {P : GP} {p1 : Int32}{g : GM} (hf : g_on P 177) : KI P yX11_capacityOf cX11_capacityOf 2 (some .int) ⟨0, 0, 0, 0⟩ [gr P 166, .int p1] g ((f_X11_capacityOf g p1).map (fun r => (g, r))) := by
  refine KI.ofWP (by decide) rfl (Nat.le_of_ble_eq_true rfl) (fun X x hC hr => ?_)
  unfold f_X11_capacityOf
  change GR P X (g_QP P X g x) 0 0 _ 0 [some (gr P 166), some (.int p1)] [] g x
  refine GR_aload_n (pc := 0) hC dX11_capacityOf_0 rfl rfl ?_
  refine GR_getR (pc := 1) (r := 167) hC F_RX11_13 (sh_166 hf) rfl dX11_capacityOf_1 ?_
  refine GR_bipush (pc := 4) (v := 16) hC dX11_capacityOf_4 rfl ?_
  refine GR_iload_n (pc := 6) hC dX11_capacityOf_6 rfl rfl ?_
  refine GR_bipush (pc := 7) (v := 8) hC dX11_capacityOf_7 rfl ?_
  refine GR_imul (pc := 9) hC dX11_capacityOf_9 ?_
  refine GR_iadd (pc := 10) hC dX11_capacityOf_10 ?_
  refine GR_bipush (pc := 11) (v := 7) hC dX11_capacityOf_11 rfl ?_
  refine GR_iadd (pc := 13) hC dX11_capacityOf_13 ?_
  refine GR_iald (pc := 14) hC (sh_167 hf) dX11_capacityOf_14 (fun v1 _ => ?_)
  exact GR_iretP (pc := 15) hC hr dX11_capacityOf_15
set_option maxRecDepth 20000 in
set_option maxHeartbeats 1000000 in
theorem k_X11_setCapacityOf {P : GP} {p1 : Int32} {p2 : Int32}{g : GM} (hf : g_on P 177) : KV P yX11_setCapacityOf cX11_setCapacityOf 3 ⟨0, 0, 0, 0⟩ [gr P 166, .int p1, .int p2] g (f_X11_setCapacityOf g p1 p2) := by
  refine KV.ofW (by decide) rfl (Nat.le_of_ble_eq_true rfl) (fun X x hC hr => ?_)
  unfold f_X11_setCapacityOf
  change GR P X (g_QV P X x) 0 0 _ 0 [some (gr P 166), some (.int p1), some (.int p2)] [] g x
  refine GR_aload_n (pc := 0) hC dX11_setCapacityOf_0 rfl rfl ?_
  refine GR_getR (pc := 1) (r := 167) hC F_RX11_13 (sh_166 hf) rfl dX11_setCapacityOf_1 ?_
  refine GR_bipush (pc := 4) (v := 16) hC dX11_setCapacityOf_4 rfl ?_
  refine GR_iload_n (pc := 6) hC dX11_setCapacityOf_6 rfl rfl ?_
  refine GR_bipush (pc := 7) (v := 8) hC dX11_setCapacityOf_7 rfl ?_
  refine GR_imul (pc := 9) hC dX11_setCapacityOf_9 ?_
  refine GR_iadd (pc := 10) hC dX11_setCapacityOf_10 ?_
  refine GR_bipush (pc := 11) (v := 7) hC dX11_setCapacityOf_11 rfl ?_
  refine GR_iadd (pc := 13) hC dX11_setCapacityOf_13 ?_
  refine GR_iload_n (pc := 14) hC dX11_setCapacityOf_14 rfl rfl ?_
  refine GR_iast (pc := 15) hC (sh_167 hf) dX11_setCapacityOf_15 (fun g1 _ => ?_)
  exact GR_vret (pc := 16) hC hr dX11_setCapacityOf_16
set_option maxRecDepth 20000 in
set_option maxHeartbeats 1000000 in
theorem k_X11_debtOf {P : GP} {p1 : Int32} {p2 : Int32}{g : GM} (hf : g_on P 177) : KI P yX11_debtOf cX11_debtOf 3 (some .int) ⟨0, 0, 0, 0⟩ [gr P 166, .int p1, .int p2] g ((f_X11_debtOf g p1 p2).map (fun r => (g, r))) := by
  refine KI.ofWP (by decide) rfl (Nat.le_of_ble_eq_true rfl) (fun X x hC hr => ?_)
  unfold f_X11_debtOf
  change GR P X (g_QP P X g x) 0 0 _ 0 [some (gr P 166), some (.int p1), some (.int p2)] [] g x
  refine GR_aload_n (pc := 0) hC dX11_debtOf_0 rfl rfl ?_
  refine GR_getR (pc := 1) (r := 167) hC F_RX11_13 (sh_166 hf) rfl dX11_debtOf_1 ?_
  refine GR_sipush (pc := 4) (v := 208) hC dX11_debtOf_4 rfl ?_
  refine GR_iload_n (pc := 7) hC dX11_debtOf_7 rfl rfl ?_
  refine GR_bipush (pc := 8) (v := 8) hC dX11_debtOf_8 rfl ?_
  refine GR_imul (pc := 10) hC dX11_debtOf_10 ?_
  refine GR_iadd (pc := 11) hC dX11_debtOf_11 ?_
  refine GR_iload_n (pc := 12) hC dX11_debtOf_12 rfl rfl ?_
  refine GR_iadd (pc := 13) hC dX11_debtOf_13 ?_
  refine GR_iald (pc := 14) hC (sh_167 hf) dX11_debtOf_14 (fun v1 _ => ?_)
  exact GR_iretP (pc := 15) hC hr dX11_debtOf_15
set_option maxRecDepth 20000 in
set_option maxHeartbeats 1000000 in
theorem lfL_X11_copyBlock_2 {P : GP} {X : GX} {x : GE} (hC : GC P X RX11 cX11_copyBlock 4 ⟨0, 0, 0, 0⟩) (hf : g_on P 177) (hr : X.2.2.2.2.2.2.2.2.1.sig.returnType = none) {kb : GM → Option (GM)} (hkb : ∀ (g : GM), GR P X (g_QV P X x) 0 0 (kb g) 39 [none, none, none, none] [] g x) : ∀ (n : Nat) (g : GM) (x1 : Int32) (x2 : Int32) (x3 : Int32), GR P X (g_QV P X x) 0 0 (fL_X11_copyBlock_2 kb n g x1 x2 x3) 2 [some (gr P 166), some (.int x1), some (.int x2), some (.int x3)] [] g x := by
  intro n
  induction n with
  | zero => intros; exact GR.none
  | succ n ih =>
    intro g x1 x2 x3
    rw [fL_X11_copyBlock_2]
    refine GR_iload_n (pc := 2) hC dX11_copyBlock_2 rfl rfl ?_
    refine GR_sipush (pc := 3) (v := 272) hC dX11_copyBlock_3 rfl ?_
    refine GR_icmp_ge (pc := 6) (tgt := 39) hC dX11_copyBlock_6 (by decide) ?_ ?_
    · exact GR.less (hkb _) (g_le_at trivial)
    · refine GR_aload_n (pc := 9) hC dX11_copyBlock_9 rfl rfl ?_
      refine GR_getR (pc := 10) (r := 167) hC F_RX11_13 (sh_166 hf) rfl dX11_copyBlock_10 ?_
      refine GR_iload_n (pc := 13) hC dX11_copyBlock_13 rfl rfl ?_
      refine GR_sipush (pc := 14) (v := 272) hC dX11_copyBlock_14 rfl ?_
      refine GR_imul (pc := 17) hC dX11_copyBlock_17 ?_
      refine GR_iload_n (pc := 18) hC dX11_copyBlock_18 rfl rfl ?_
      refine GR_iadd (pc := 19) hC dX11_copyBlock_19 ?_
      refine GR_aload_n (pc := 20) hC dX11_copyBlock_20 rfl rfl ?_
      refine GR_getR (pc := 21) (r := 167) hC F_RX11_13 (sh_166 hf) rfl dX11_copyBlock_21 ?_
      refine GR_iload_n (pc := 24) hC dX11_copyBlock_24 rfl rfl ?_
      refine GR_sipush (pc := 25) (v := 272) hC dX11_copyBlock_25 rfl ?_
      refine GR_imul (pc := 28) hC dX11_copyBlock_28 ?_
      refine GR_iload_n (pc := 29) hC dX11_copyBlock_29 rfl rfl ?_
      refine GR_iadd (pc := 30) hC dX11_copyBlock_30 ?_
      refine GR_iald (pc := 31) hC (sh_167 hf) dX11_copyBlock_31 (fun v1 _ => ?_)
      refine GR_iast (pc := 32) hC (sh_167 hf) dX11_copyBlock_32 (fun g2 _ => ?_)
      refine GR_iinc (pc := 33) (w := 1) (L' := [some (gr P 166), some (.int x1), some (.int x2), some (.int (x3 + 1))]) hC dX11_copyBlock_33 rfl rfl (by decide) rfl rfl ?_
      refine GR_goto (pc := 36) (tgt := 2) hC dX11_copyBlock_36 (by decide) ?_
      exact GR.less (ih _ _ _ _) (g_le_at (And.intro rfl (And.intro rfl (And.intro rfl (And.intro rfl trivial)))))
set_option maxRecDepth 20000 in
set_option maxHeartbeats 1000000 in
theorem k_X11_copyBlock {P : GP} {p1 : Int32} {p2 : Int32}{g : GM} (hf : g_on P 177) : KV P yX11_copyBlock cX11_copyBlock 4 ⟨0, 0, 0, 0⟩ [gr P 166, .int p1, .int p2] g (f_X11_copyBlock g p1 p2) := by
  refine KV.ofW (by decide) rfl (Nat.le_of_ble_eq_true rfl) (fun X x hC hr => ?_)
  unfold f_X11_copyBlock
  change GR P X (g_QV P X x) 0 0 _ 0 [some (gr P 166), some (.int p1), some (.int p2), none] [] g x
  refine GR_iconst (pc := 0) (v := 0) hC dX11_copyBlock_0 rfl ?_
  refine GR_istore_n (pc := 1) (L' := [some (gr P 166), some (.int p1), some (.int p2), some (.int 0)]) hC dX11_copyBlock_1 rfl (by decide) rfl rfl ?_
  refine GR.less (lfL_X11_copyBlock_2 hC hf hr ?_ fu _ _ _ _) (g_le_at (And.intro rfl (And.intro rfl (And.intro rfl (And.intro rfl trivial)))))
  intro g
  exact GR_vret (pc := 39) hC hr dX11_copyBlock_39
set_option maxRecDepth 20000 in
set_option maxHeartbeats 1000000 in
theorem lfJ_X11_remember_41 {P : GP} {X : GX} {x : GE} (hC : GC P X RX11 cX11_remember 3 ⟨1, 0, 0, 23⟩) (hf : g_on P 177) (hr : X.2.2.2.2.2.2.2.2.1.sig.returnType = none) (g : GM) (x1 : Int32) : GR P X (g_QV P X x) 0 0 (fJ_X11_remember_41 g x1) 41 [some (gr P 166), some (.int x1), none] [] g x := by
  unfold fJ_X11_remember_41
  refine GR_aload_n (pc := 41) hC dX11_remember_41 rfl rfl ?_
  refine GR_dup (pc := 42) hC dX11_remember_42 rfl ?_
  refine GR_getI (pc := 43) hC F_RX11_21 (sh_166 hf) rfl dX11_remember_43 ?_
  refine GR_iconst (pc := 46) (v := 1) hC dX11_remember_46 rfl ?_
  refine GR_iadd (pc := 47) hC dX11_remember_47 ?_
  refine GR_putI (pc := 48) hC FW_RX11_21 (sh_166 hf) rfl dX11_remember_48 (fun g1 _ => ?_)
  refine GR_aload_n (pc := 51) hC dX11_remember_51 rfl rfl ?_
  refine GR_iload_n (pc := 52) hC dX11_remember_52 rfl rfl ?_
  refine GR_aload_n (pc := 53) hC dX11_remember_53 rfl rfl ?_
  refine GR_getI (pc := 54) hC F_RX11_21 (sh_166 hf) rfl dX11_remember_54 ?_
  refine GR_callVV (pc := 57) (As := [.int x1, .int (g1 166 2)]) hC (k_X11_copyBlock hf) MY_X11_copyBlock MI_X11_copyBlock ML_RX11_101 (sh_166 hf) rfl rfl ⟨rfl, rfl⟩ ⟨by decide, by decide⟩ ⟨by decide, by decide⟩ rfl rfl (Nat.le_of_ble_eq_true rfl) dX11_remember_57 (fun g3 _ => ?_)
  exact GR_vret (pc := 60) hC hr dX11_remember_60
set_option maxRecDepth 20000 in
set_option maxHeartbeats 1000000 in
theorem lfL_X11_remember_11 {P : GP} {X : GX} {x : GE} (hC : GC P X RX11 cX11_remember 3 ⟨1, 0, 0, 23⟩) (hf : g_on P 177) (hr : X.2.2.2.2.2.2.2.2.1.sig.returnType = none) {kb : GM → Int32 → Option (GM)} (hkb : ∀ (g : GM) (x1 : Int32), GR P X (g_QV P X x) 0 0 (kb g x1) 31 [some (gr P 166), some (.int x1), none] [] g x) : ∀ (n : Nat) (g : GM) (x1 : Int32) (x2 : Int32), GR P X (g_QV P X x) 0 0 (fL_X11_remember_11 kb n g x1 x2) 11 [some (gr P 166), some (.int x1), some (.int x2)] [] g x := by
  intro n
  induction n with
  | zero => intros; exact GR.none
  | succ n ih =>
    intro g x1 x2
    rw [fL_X11_remember_11]
    refine GR_iload_n (pc := 11) hC dX11_remember_11 rfl rfl ?_
    refine GR_bipush (pc := 12) (v := 6) hC dX11_remember_12 rfl ?_
    refine GR_icmp_ge (pc := 14) (tgt := 31) hC dX11_remember_14 (by decide) ?_ ?_
    · exact GR.less (hkb _ _) (g_le_at (And.intro rfl (And.intro rfl trivial)))
    · refine GR_aload_n (pc := 17) hC dX11_remember_17 rfl rfl ?_
      refine GR_iload_n (pc := 18) hC dX11_remember_18 rfl rfl ?_
      refine GR_iconst (pc := 19) (v := 1) hC dX11_remember_19 rfl ?_
      refine GR_iadd (pc := 20) hC dX11_remember_20 ?_
      refine GR_iload_n (pc := 21) hC dX11_remember_21 rfl rfl ?_
      refine GR_callVV (pc := 22) (As := [.int (x2 + 1), .int x2]) hC (k_X11_copyBlock hf) MY_X11_copyBlock MI_X11_copyBlock ML_RX11_101 (sh_166 hf) rfl rfl ⟨rfl, rfl⟩ ⟨by decide, by decide⟩ ⟨by decide, by decide⟩ rfl rfl (Nat.le_of_ble_eq_true rfl) dX11_remember_22 (fun g5 _ => ?_)
      refine GR_iinc (pc := 25) (w := 1) (L' := [some (gr P 166), some (.int x1), some (.int (x2 + 1))]) hC dX11_remember_25 rfl rfl (by decide) rfl rfl ?_
      refine GR_goto (pc := 28) (tgt := 11) hC dX11_remember_28 (by decide) ?_
      exact GR.less (ih _ _ _) (g_le_at (And.intro rfl (And.intro rfl (And.intro rfl trivial))))
set_option maxRecDepth 20000 in
set_option maxHeartbeats 1000000 in
theorem k_X11_remember {P : GP} {p1 : Int32}{g : GM} (hf : g_on P 177) : KV P yX11_remember cX11_remember 3 ⟨1, 0, 0, 23⟩ [gr P 166, .int p1] g (f_X11_remember g p1) := by
  refine KV.ofW (by decide) rfl (Nat.le_of_ble_eq_true rfl) (fun X x hC hr => ?_)
  unfold f_X11_remember
  change GR P X (g_QV P X x) 0 0 _ 0 [some (gr P 166), some (.int p1), none] [] g x
  refine GR_aload_n (pc := 0) hC dX11_remember_0 rfl rfl ?_
  refine GR_getI (pc := 1) hC F_RX11_21 (sh_166 hf) rfl dX11_remember_1 ?_
  refine GR_bipush (pc := 4) (v := 6) hC dX11_remember_4 rfl ?_
  refine GR_icmp_ne (pc := 6) (tgt := 41) hC dX11_remember_6 (by decide) ?_ ?_
  · exact GR.less (lfJ_X11_remember_41 hC hf hr _ _) (g_le_at (And.intro rfl (And.intro rfl trivial)))
  · refine GR_iconst (pc := 9) (v := 1) hC dX11_remember_9 rfl ?_
    refine GR_istore_n (pc := 10) (L' := [some (gr P 166), some (.int p1), some (.int 1)]) hC dX11_remember_10 rfl (by decide) rfl rfl ?_
    refine GR.less (lfL_X11_remember_11 hC hf hr ?_ fu _ _ _) (g_le_at (And.intro rfl (And.intro rfl (And.intro rfl trivial))))
    intro g x1
    refine GR_aload_n (pc := 31) hC dX11_remember_31 rfl rfl ?_
    refine GR_dup (pc := 32) hC dX11_remember_32 rfl ?_
    refine GR_getI (pc := 33) hC F_RX11_21 (sh_166 hf) rfl dX11_remember_33 ?_
    refine GR_iconst (pc := 36) (v := 1) hC dX11_remember_36 rfl ?_
    refine GR_isub (pc := 37) hC dX11_remember_37 ?_
    refine GR_putI (pc := 38) hC FW_RX11_21 (sh_166 hf) rfl dX11_remember_38 (fun g6 _ => ?_)
    exact GR.less (lfJ_X11_remember_41 hC hf hr _ _) (g_le_at (And.intro rfl (And.intro rfl trivial)))
set_option maxRecDepth 20000 in
set_option maxHeartbeats 1000000 in
theorem lfL_X11_allocated_4 {P : GP} {X : GX} {g : GM} {x : GE} (hC : GC P X RX11 cX11_allocated 4 ⟨1, 0, 0, 22⟩) (hf : g_on P 177) (hr : X.2.2.2.2.2.2.2.2.1.sig.returnType = some .int) {kb : Int32 → Option (Int32)} (hkb : ∀ (x2 : Int32), GR P X (g_QP P X g x) 0 0 (kb x2) 32 [none, none, some (.int x2), none] [] g x) : ∀ (n : Nat) (x1 : Int32) (x2 : Int32) (x3 : Int32), GR P X (g_QP P X g x) 0 0 (fL_X11_allocated_4 g kb n x1 x2 x3) 4 [some (gr P 166), some (.int x1), some (.int x2), some (.int x3)] [] g x := by
  intro n
  induction n with
  | zero => intros; exact GR.none
  | succ n ih =>
    intro x1 x2 x3
    rw [fL_X11_allocated_4]
    refine GR_iload_n (pc := 4) hC dX11_allocated_4 rfl rfl ?_
    refine GR_aload_n (pc := 5) hC dX11_allocated_5 rfl rfl ?_
    refine GR_getR (pc := 6) (r := 167) hC F_RX11_13 (sh_166 hf) rfl dX11_allocated_6 ?_
    refine GR_iconst (pc := 9) (v := 1) hC dX11_allocated_9 rfl ?_
    refine GR_iald (pc := 10) hC (sh_167 hf) dX11_allocated_10 (fun v1 _ => ?_)
    refine GR_icmp_ge (pc := 11) (tgt := 32) hC dX11_allocated_11 (by decide) ?_ ?_
    · exact GR.less (hkb _) (g_le_at (And.intro rfl trivial))
    · refine GR_iload_n (pc := 14) hC dX11_allocated_14 rfl rfl ?_
      refine GR_aload_n (pc := 15) hC dX11_allocated_15 rfl rfl ?_
      refine GR_iload_n (pc := 16) hC dX11_allocated_16 rfl rfl ?_
      refine GR_bipush (pc := 17) (v := 14) hC dX11_allocated_17 rfl ?_
      refine GR_iload_n (pc := 19) hC dX11_allocated_19 rfl rfl ?_
      refine GR_iadd (pc := 20) hC dX11_allocated_20 ?_
      refine GR_callVP (pc := 21) (As := [.int x3, .int (14 + x1)]) hC (k_X11_of hf) MY_X11_of MI_X11_of ML_RX11_105 (sh_166 hf) rfl rfl ⟨rfl, rfl⟩ ⟨by decide, by decide⟩ ⟨by decide, by decide⟩ rfl rfl (Nat.le_of_ble_eq_true rfl) dX11_allocated_21 (fun v2 _ => ?_)
      refine GR_iadd (pc := 24) hC dX11_allocated_24 ?_
      refine GR_istore_n (pc := 25) (L' := [some (gr P 166), some (.int x1), some (.int (x2 + v2)), some (.int x3)]) hC dX11_allocated_25 rfl (by decide) rfl rfl ?_
      refine GR_iinc (pc := 26) (w := 1) (L' := [some (gr P 166), some (.int x1), some (.int (x2 + v2)), some (.int (x3 + 1))]) hC dX11_allocated_26 rfl rfl (by decide) rfl rfl ?_
      refine GR_goto (pc := 29) (tgt := 4) hC dX11_allocated_29 (by decide) ?_
      exact GR.less (ih _ _ _) (g_le_at (And.intro rfl (And.intro rfl (And.intro rfl (And.intro rfl trivial)))))
set_option maxRecDepth 20000 in
set_option maxHeartbeats 1000000 in
theorem k_X11_allocated {P : GP} {p1 : Int32}{g : GM} (hf : g_on P 177) : KI P yX11_allocated cX11_allocated 4 (some .int) ⟨1, 0, 0, 22⟩ [gr P 166, .int p1] g ((f_X11_allocated g p1).map (fun r => (g, r))) := by
  refine KI.ofWP (by decide) rfl (Nat.le_of_ble_eq_true rfl) (fun X x hC hr => ?_)
  unfold f_X11_allocated
  change GR P X (g_QP P X g x) 0 0 _ 0 [some (gr P 166), some (.int p1), none, none] [] g x
  refine GR_iconst (pc := 0) (v := 0) hC dX11_allocated_0 rfl ?_
  refine GR_istore_n (pc := 1) (L' := [some (gr P 166), some (.int p1), some (.int 0), none]) hC dX11_allocated_1 rfl (by decide) rfl rfl ?_
  refine GR_iconst (pc := 2) (v := 0) hC dX11_allocated_2 rfl ?_
  refine GR_istore_n (pc := 3) (L' := [some (gr P 166), some (.int p1), some (.int 0), some (.int 0)]) hC dX11_allocated_3 rfl (by decide) rfl rfl ?_
  refine GR.less (lfL_X11_allocated_4 hC hf hr ?_ fu _ _ _) (g_le_at (And.intro rfl (And.intro rfl (And.intro rfl (And.intro rfl trivial)))))
  intro x2
  refine GR_iload_n (pc := 32) hC dX11_allocated_32 rfl rfl ?_
  exact GR_iretP (pc := 33) hC hr dX11_allocated_33
set_option maxRecDepth 20000 in
set_option maxHeartbeats 1000000 in
theorem k_X11_free {P : GP} {p1 : Int32}{g : GM} (hf : g_on P 177) : KI P yX11_free cX11_free 2 (some .int) ⟨2, 0, 0, 45⟩ [gr P 166, .int p1] g ((f_X11_free g p1).map (fun r => (g, r))) := by
  refine KI.ofWP (by decide) rfl (Nat.le_of_ble_eq_true rfl) (fun X x hC hr => ?_)
  unfold f_X11_free
  change GR P X (g_QP P X g x) 0 0 _ 0 [some (gr P 166), some (.int p1)] [] g x
  refine GR_aload_n (pc := 0) hC dX11_free_0 rfl rfl ?_
  refine GR_iload_n (pc := 1) hC dX11_free_1 rfl rfl ?_
  refine GR_callVP (pc := 2) (As := [.int p1]) hC (k_X11_capacityOf hf) MY_X11_capacityOf MI_X11_capacityOf ML_RX11_109 (sh_166 hf) rfl rfl ⟨rfl, rfl⟩ ⟨by decide, by decide⟩ ⟨by decide, by decide⟩ rfl rfl (Nat.le_of_ble_eq_true rfl) dX11_free_2 (fun v1 _ => ?_)
  refine GR_aload_n (pc := 5) hC dX11_free_5 rfl rfl ?_
  refine GR_iload_n (pc := 6) hC dX11_free_6 rfl rfl ?_
  refine GR_callVP (pc := 7) (As := [.int p1]) hC (k_X11_allocated hf) MY_X11_allocated MI_X11_allocated ML_RX11_113 (sh_166 hf) rfl rfl ⟨rfl, rfl⟩ ⟨by decide, by decide⟩ ⟨by decide, by decide⟩ rfl rfl (Nat.le_of_ble_eq_true rfl) dX11_free_7 (fun v2 _ => ?_)
  refine GR_isub (pc := 10) hC dX11_free_10 ?_
  exact GR_iretP (pc := 11) hC hr dX11_free_11
set_option maxRecDepth 20000 in
set_option maxHeartbeats 1000000 in
theorem k_X11_needOf {P : GP} {p1 : Int32} {p2 : Int32}{g : GM} (hf : g_on P 177) : KI P yX11_needOf cX11_needOf 3 (some .int) ⟨1, 0, 0, 22⟩ [gr P 166, .int p1, .int p2] g ((f_X11_needOf g p1 p2).map (fun r => (g, r))) := by
  refine KI.ofWP (by decide) rfl (Nat.le_of_ble_eq_true rfl) (fun X x hC hr => ?_)
  unfold f_X11_needOf
  change GR P X (g_QP P X g x) 0 0 _ 0 [some (gr P 166), some (.int p1), some (.int p2)] [] g x
  refine GR_aload_n (pc := 0) hC dX11_needOf_0 rfl rfl ?_
  refine GR_iload_n (pc := 1) hC dX11_needOf_1 rfl rfl ?_
  refine GR_bipush (pc := 2) (v := 9) hC dX11_needOf_2 rfl ?_
  refine GR_iload_n (pc := 4) hC dX11_needOf_4 rfl rfl ?_
  refine GR_iadd (pc := 5) hC dX11_needOf_5 ?_
  refine GR_callVP (pc := 6) (As := [.int p1, .int (9 + p2)]) hC (k_X11_of hf) MY_X11_of MI_X11_of ML_RX11_105 (sh_166 hf) rfl rfl ⟨rfl, rfl⟩ ⟨by decide, by decide⟩ ⟨by decide, by decide⟩ rfl rfl (Nat.le_of_ble_eq_true rfl) dX11_needOf_6 (fun v1 _ => ?_)
  refine GR_aload_n (pc := 9) hC dX11_needOf_9 rfl rfl ?_
  refine GR_iload_n (pc := 10) hC dX11_needOf_10 rfl rfl ?_
  refine GR_bipush (pc := 11) (v := 14) hC dX11_needOf_11 rfl ?_
  refine GR_iload_n (pc := 13) hC dX11_needOf_13 rfl rfl ?_
  refine GR_iadd (pc := 14) hC dX11_needOf_14 ?_
  refine GR_callVP (pc := 15) (As := [.int p1, .int (14 + p2)]) hC (k_X11_of hf) MY_X11_of MI_X11_of ML_RX11_105 (sh_166 hf) rfl rfl ⟨rfl, rfl⟩ ⟨by decide, by decide⟩ ⟨by decide, by decide⟩ rfl rfl (Nat.le_of_ble_eq_true rfl) dX11_needOf_15 (fun v2 _ => ?_)
  refine GR_isub (pc := 18) hC dX11_needOf_18 ?_
  exact GR_iretP (pc := 19) hC hr dX11_needOf_19
set_option maxRecDepth 20000 in
set_option maxHeartbeats 1000000 in
theorem lfL_X11_takeFree_2 {P : GP} {X : GX} {x : GE} (hC : GC P X RX11 cX11_takeFree 2 ⟨3, 0, 0, 66⟩) (hf : g_on P 177) (hr : X.2.2.2.2.2.2.2.2.1.sig.returnType = none) {kb : GM → Option (GM)} (hkb : ∀ (g : GM), GR P X (g_QV P X x) 0 0 (kb g) 29 [some (gr P 166), none] [] g x) : ∀ (n : Nat) (g : GM) (x1 : Int32), GR P X (g_QV P X x) 0 0 (fL_X11_takeFree_2 kb n g x1) 2 [some (gr P 166), some (.int x1)] [] g x := by
  intro n
  induction n with
  | zero => intros; exact GR.none
  | succ n ih =>
    intro g x1
    rw [fL_X11_takeFree_2]
    refine GR_iload_n (pc := 2) hC dX11_takeFree_2 rfl rfl ?_
    refine GR_aload_n (pc := 3) hC dX11_takeFree_3 rfl rfl ?_
    refine GR_getR (pc := 4) (r := 167) hC F_RX11_13 (sh_166 hf) rfl dX11_takeFree_4 ?_
    refine GR_iconst (pc := 7) (v := 0) hC dX11_takeFree_7 rfl ?_
    refine GR_iald (pc := 8) hC (sh_167 hf) dX11_takeFree_8 (fun v1 _ => ?_)
    refine GR_icmp_ge (pc := 9) (tgt := 29) hC dX11_takeFree_9 (by decide) ?_ ?_
    · exact GR.less (hkb _) (g_le_at (And.intro rfl trivial))
    · refine GR_aload_n (pc := 12) hC dX11_takeFree_12 rfl rfl ?_
      refine GR_getR (pc := 13) (r := 171) hC F_RX11_42 (sh_166 hf) rfl dX11_takeFree_13 ?_
      refine GR_iload_n (pc := 16) hC dX11_takeFree_16 rfl rfl ?_
      refine GR_aload_n (pc := 17) hC dX11_takeFree_17 rfl rfl ?_
      refine GR_iload_n (pc := 18) hC dX11_takeFree_18 rfl rfl ?_
      refine GR_callVP (pc := 19) (As := [.int x1]) hC (k_X11_free hf) MY_X11_free MI_X11_free ML_RX11_116 (sh_166 hf) rfl rfl ⟨rfl, rfl⟩ ⟨by decide, by decide⟩ ⟨by decide, by decide⟩ rfl rfl (Nat.le_of_ble_eq_true rfl) dX11_takeFree_19 (fun v2 _ => ?_)
      refine GR_iast (pc := 22) hC (sh_171 hf) dX11_takeFree_22 (fun g3 _ => ?_)
      refine GR_iinc (pc := 23) (w := 1) (L' := [some (gr P 166), some (.int (x1 + 1))]) hC dX11_takeFree_23 rfl rfl (by decide) rfl rfl ?_
      refine GR_goto (pc := 26) (tgt := 2) hC dX11_takeFree_26 (by decide) ?_
      exact GR.less (ih _ _) (g_le_at (And.intro rfl (And.intro rfl trivial)))
set_option maxRecDepth 20000 in
set_option maxHeartbeats 1000000 in
theorem lfL_X11_takeFree_31 {P : GP} {X : GX} {x : GE} (hC : GC P X RX11 cX11_takeFree 2 ⟨3, 0, 0, 66⟩) (hf : g_on P 177) (hr : X.2.2.2.2.2.2.2.2.1.sig.returnType = none) {kb : GM → Option (GM)} (hkb : ∀ (g : GM), GR P X (g_QV P X x) 0 0 (kb g) 50 [none, none] [] g x) : ∀ (n : Nat) (g : GM) (x1 : Int32), GR P X (g_QV P X x) 0 0 (fL_X11_takeFree_31 kb n g x1) 31 [some (gr P 166), some (.int x1)] [] g x := by
  intro n
  induction n with
  | zero => intros; exact GR.none
  | succ n ih =>
    intro g x1
    rw [fL_X11_takeFree_31]
    refine GR_iload_n (pc := 31) hC dX11_takeFree_31 rfl rfl ?_
    refine GR_bipush (pc := 32) (v := 8) hC dX11_takeFree_32 rfl ?_
    refine GR_icmp_ge (pc := 34) (tgt := 50) hC dX11_takeFree_34 (by decide) ?_ ?_
    · exact GR.less (hkb _) (g_le_at trivial)
    · refine GR_aload_n (pc := 37) hC dX11_takeFree_37 rfl rfl ?_
      refine GR_getR (pc := 38) (r := 173) hC F_RX11_48 (sh_166 hf) rfl dX11_takeFree_38 ?_
      refine GR_iload_n (pc := 41) hC dX11_takeFree_41 rfl rfl ?_
      refine GR_iconst (pc := 42) (v := 0) hC dX11_takeFree_42 rfl ?_
      refine GR_zast (pc := 43) hC (sh_173 hf) dX11_takeFree_43 (fun g4 _ => ?_)
      refine GR_iinc (pc := 44) (w := 1) (L' := [some (gr P 166), some (.int (x1 + 1))]) hC dX11_takeFree_44 rfl rfl (by decide) rfl rfl ?_
      refine GR_goto (pc := 47) (tgt := 31) hC dX11_takeFree_47 (by decide) ?_
      exact GR.less (ih _ _) (g_le_at (And.intro rfl (And.intro rfl trivial)))
set_option maxRecDepth 20000 in
set_option maxHeartbeats 1000000 in
theorem k_X11_takeFree {P : GP}{g : GM} (hf : g_on P 177) : KV P yX11_takeFree cX11_takeFree 2 ⟨3, 0, 0, 66⟩ [gr P 166] g (f_X11_takeFree g) := by
  refine KV.ofW (by decide) rfl (Nat.le_of_ble_eq_true rfl) (fun X x hC hr => ?_)
  unfold f_X11_takeFree
  change GR P X (g_QV P X x) 0 0 _ 0 [some (gr P 166), none] [] g x
  refine GR_iconst (pc := 0) (v := 0) hC dX11_takeFree_0 rfl ?_
  refine GR_istore_n (pc := 1) (L' := [some (gr P 166), some (.int 0)]) hC dX11_takeFree_1 rfl (by decide) rfl rfl ?_
  refine GR.less (lfL_X11_takeFree_2 hC hf hr ?_ fu _ _) (g_le_at (And.intro rfl (And.intro rfl trivial)))
  intro g
  refine GR_iconst (pc := 29) (v := 0) hC dX11_takeFree_29 rfl ?_
  refine GR_istore_n (pc := 30) (L' := [some (gr P 166), some (.int 0)]) hC dX11_takeFree_30 rfl (by decide) rfl rfl ?_
  refine GR.less (lfL_X11_takeFree_31 hC hf hr ?_ fu _ _) (g_le_at (And.intro rfl (And.intro rfl trivial)))
  intro g
  exact GR_vret (pc := 50) hC hr dX11_takeFree_50
set_option maxRecDepth 20000 in
set_option maxHeartbeats 1000000 in
theorem lfL_X11_fits_2 {P : GP} {X : GX} {g : GM} {x : GE} (hC : GC P X RX11 cX11_fits 3 ⟨2, 0, 0, 44⟩) (hf : g_on P 177) (hr : X.2.2.2.2.2.2.2.2.1.sig.returnType = some .boolean) {kb : Option (Int32)} (hkb : GR P X (g_QP P X g x) 0 0 (kb) 35 [none, none, none] [] g x) : ∀ (n : Nat) (x1 : Int32) (x2 : Int32), GR P X (g_QP P X g x) 0 0 (fL_X11_fits_2 g kb n x1 x2) 2 [some (gr P 166), some (.int x1), some (.int x2)] [] g x := by
  intro n
  induction n with
  | zero => intros; exact GR.none
  | succ n ih =>
    intro x1 x2
    rw [fL_X11_fits_2]
    refine GR_iload_n (pc := 2) hC dX11_fits_2 rfl rfl ?_
    refine GR_aload_n (pc := 3) hC dX11_fits_3 rfl rfl ?_
    refine GR_getR (pc := 4) (r := 167) hC F_RX11_13 (sh_166 hf) rfl dX11_fits_4 ?_
    refine GR_iconst (pc := 7) (v := 0) hC dX11_fits_7 rfl ?_
    refine GR_iald (pc := 8) hC (sh_167 hf) dX11_fits_8 (fun v1 _ => ?_)
    refine GR_icmp_ge (pc := 9) (tgt := 35) hC dX11_fits_9 (by decide) ?_ ?_
    · exact GR.less (hkb) (g_le_at trivial)
    · refine GR_aload_n (pc := 12) hC dX11_fits_12 rfl rfl ?_
      refine GR_iload_n (pc := 13) hC dX11_fits_13 rfl rfl ?_
      refine GR_iload_n (pc := 14) hC dX11_fits_14 rfl rfl ?_
      refine GR_callVP (pc := 15) (As := [.int x1, .int x2]) hC (k_X11_needOf hf) MY_X11_needOf MI_X11_needOf ML_RX11_119 (sh_166 hf) rfl rfl ⟨rfl, rfl⟩ ⟨by decide, by decide⟩ ⟨by decide, by decide⟩ rfl rfl (Nat.le_of_ble_eq_true rfl) dX11_fits_15 (fun v2 _ => ?_)
      refine GR_aload_n (pc := 18) hC dX11_fits_18 rfl rfl ?_
      refine GR_getR (pc := 19) (r := 171) hC F_RX11_42 (sh_166 hf) rfl dX11_fits_19 ?_
      refine GR_iload_n (pc := 22) hC dX11_fits_22 rfl rfl ?_
      refine GR_iald (pc := 23) hC (sh_171 hf) dX11_fits_23 (fun v3 _ => ?_)
      refine GR_icmp_le (pc := 24) (tgt := 29) hC dX11_fits_24 (by decide) ?_ ?_
      · refine GR_iinc (pc := 29) (w := 1) (L' := [some (gr P 166), some (.int x1), some (.int (x2 + 1))]) hC dX11_fits_29 rfl rfl (by decide) rfl rfl ?_
        refine GR_goto (pc := 32) (tgt := 2) hC dX11_fits_32 (by decide) ?_
        exact GR.less (ih _ _) (g_le_at (And.intro rfl (And.intro rfl (And.intro rfl trivial))))
      · refine GR_iconst (pc := 27) (v := 0) hC dX11_fits_27 rfl ?_
        exact GR_zretCP (pc := 28) hC (Or.inl rfl) hr dX11_fits_28
set_option maxRecDepth 20000 in
set_option maxHeartbeats 1000000 in
theorem k_X11_fits {P : GP} {p1 : Int32}{g : GM} (hf : g_on P 177) : KI P yX11_fits cX11_fits 3 (some .boolean) ⟨2, 0, 0, 44⟩ [gr P 166, .int p1] g ((f_X11_fits g p1).map (fun r => (g, r))) := by
  refine KI.ofWP (by decide) rfl (Nat.le_of_ble_eq_true rfl) (fun X x hC hr => ?_)
  unfold f_X11_fits
  change GR P X (g_QP P X g x) 0 0 _ 0 [some (gr P 166), some (.int p1), none] [] g x
  refine GR_iconst (pc := 0) (v := 0) hC dX11_fits_0 rfl ?_
  refine GR_istore_n (pc := 1) (L' := [some (gr P 166), some (.int p1), some (.int 0)]) hC dX11_fits_1 rfl (by decide) rfl rfl ?_
  refine GR.less (lfL_X11_fits_2 hC hf hr ?_ fu _ _) (g_le_at (And.intro rfl (And.intro rfl (And.intro rfl trivial))))
  refine GR_iconst (pc := 35) (v := 1) hC dX11_fits_35 rfl ?_
  exact GR_zretCP (pc := 36) hC (Or.inr rfl) hr dX11_fits_36
