set_option maxRecDepth 20000 in
set_option maxHeartbeats 1000000 in
theorem k_X2_ofHerd {P : GP} {o0 : Nat} {p1 : Int32}{g : GM} (hf : g_on P 166) (ho0 : g_S P o0) : KI P yX2_ofHerd cX2_ofHerd 2 (some .int) ⟨1, 0, 0, 21⟩ [gr P o0, .int p1] g ((f_X2_ofHerd g o0 p1).map (fun r => (g, r))) := by
  refine KI.ofWP (by decide) rfl (Nat.le_of_ble_eq_true rfl) (fun X x hC hr => ?_)
  unfold f_X2_ofHerd
  change GR P X (g_QP P X g x) 0 0 _ 0 [some (gr P o0), some (.int p1)] [] g x
  refine GR_aload_n (pc := 0) hC dX2_ofHerd_0 rfl rfl ?_
  refine GR_getR (pc := 1) (r := (o0 + 4)) hC F_RX2_9 ho0.1 rfl dX2_ofHerd_1 ?_
  refine GR_iload_n (pc := 4) hC dX2_ofHerd_4 rfl rfl ?_
  refine GR_callVP (pc := 5) (As := [.int p1]) hC (k_X5_has hf ho0.2.2.1) MY_X5_has MI_X5_has ML_RX2_15 ho0.2.2.1.1 rfl rfl ⟨rfl, rfl⟩ ⟨by decide, by decide⟩ ⟨by decide, by decide⟩ rfl rfl (Nat.le_of_ble_eq_true rfl) dX2_ofHerd_5 (fun v1 _ => ?_)
  refine GR_if_eq (pc := 8) (tgt := 15) hC dX2_ofHerd_8 (by decide) ?_ ?_
  · refine GR_iconst (pc := 15) (v := 1) hC dX2_ofHerd_15 rfl ?_
    exact GR_iretP (pc := 16) hC hr dX2_ofHerd_16
  · refine GR_iconst (pc := 11) (v := 0) hC dX2_ofHerd_11 rfl ?_
    refine GR_goto (pc := 12) (tgt := 16) hC dX2_ofHerd_12 (by decide) ?_
    exact GR_iretP (pc := 16) hC hr dX2_ofHerd_16
set_option maxRecDepth 20000 in
set_option maxHeartbeats 1000000 in
theorem k_X2_ofPasture {P : GP} {o0 : Nat} {p1 : Int32}{g : GM} (hf : g_on P 166) (ho0 : g_S P o0) : KI P yX2_ofPasture cX2_ofPasture 2 (some .int) ⟨1, 0, 0, 21⟩ [gr P o0, .int p1] g ((f_X2_ofPasture g o0 p1).map (fun r => (g, r))) := by
  refine KI.ofWP (by decide) rfl (Nat.le_of_ble_eq_true rfl) (fun X x hC hr => ?_)
  unfold f_X2_ofPasture
  change GR P X (g_QP P X g x) 0 0 _ 0 [some (gr P o0), some (.int p1)] [] g x
  refine GR_aload_n (pc := 0) hC dX2_ofPasture_0 rfl rfl ?_
  refine GR_getR (pc := 1) (r := (o0 + 1)) hC F_RX2_21 ho0.1 rfl dX2_ofPasture_1 ?_
  refine GR_iload_n (pc := 4) hC dX2_ofPasture_4 rfl rfl ?_
  refine GR_callVP (pc := 5) (As := [.int p1]) hC (k_X5_has hf ho0.2.1) MY_X5_has MI_X5_has ML_RX2_15 ho0.2.1.1 rfl rfl ⟨rfl, rfl⟩ ⟨by decide, by decide⟩ ⟨by decide, by decide⟩ rfl rfl (Nat.le_of_ble_eq_true rfl) dX2_ofPasture_5 (fun v1 _ => ?_)
  refine GR_if_eq (pc := 8) (tgt := 15) hC dX2_ofPasture_8 (by decide) ?_ ?_
  · refine GR_iconst (pc := 15) (v := 1) hC dX2_ofPasture_15 rfl ?_
    exact GR_iretP (pc := 16) hC hr dX2_ofPasture_16
  · refine GR_iconst (pc := 11) (v := 0) hC dX2_ofPasture_11 rfl ?_
    refine GR_goto (pc := 12) (tgt := 16) hC dX2_ofPasture_12 (by decide) ?_
    exact GR_iretP (pc := 16) hC hr dX2_ofPasture_16
set_option maxRecDepth 20000 in
set_option maxHeartbeats 1000000 in
theorem k_X2_ofHerdOrPasture {P : GP} {o0 : Nat} {p1 : Int32} {p2 : Int32}{g : GM} (hf : g_on P 166) (ho0 : g_S P o0) : KI P yX2_ofHerdOrPasture cX2_ofHerdOrPasture 3 (some .int) ⟨1, 0, 0, 21⟩ [gr P o0, .int p1, .int p2] g ((f_X2_ofHerdOrPasture g o0 p1 p2).map (fun r => (g, r))) := by
  refine KI.ofWP (by decide) rfl (Nat.le_of_ble_eq_true rfl) (fun X x hC hr => ?_)
  unfold f_X2_ofHerdOrPasture
  change GR P X (g_QP P X g x) 0 0 _ 0 [some (gr P o0), some (.int p1), some (.int p2)] [] g x
  refine GR_aload_n (pc := 0) hC dX2_ofHerdOrPasture_0 rfl rfl ?_
  refine GR_getR (pc := 1) (r := (o0 + 4)) hC F_RX2_9 ho0.1 rfl dX2_ofHerdOrPasture_1 ?_
  refine GR_iload_n (pc := 4) hC dX2_ofHerdOrPasture_4 rfl rfl ?_
  refine GR_callVP (pc := 5) (As := [.int p1]) hC (k_X5_has hf ho0.2.2.1) MY_X5_has MI_X5_has ML_RX2_15 ho0.2.2.1.1 rfl rfl ⟨rfl, rfl⟩ ⟨by decide, by decide⟩ ⟨by decide, by decide⟩ rfl rfl (Nat.le_of_ble_eq_true rfl) dX2_ofHerdOrPasture_5 (fun v1 _ => ?_)
  refine GR_if_eq (pc := 8) (tgt := 26) hC dX2_ofHerdOrPasture_8 (by decide) ?_ ?_
  · refine GR_iconst (pc := 26) (v := 1) hC dX2_ofHerdOrPasture_26 rfl ?_
    exact GR_iretP (pc := 27) hC hr dX2_ofHerdOrPasture_27
  · refine GR_aload_n (pc := 11) hC dX2_ofHerdOrPasture_11 rfl rfl ?_
    refine GR_getR (pc := 12) (r := (o0 + 1)) hC F_RX2_21 ho0.1 rfl dX2_ofHerdOrPasture_12 ?_
    refine GR_iload_n (pc := 15) hC dX2_ofHerdOrPasture_15 rfl rfl ?_
    refine GR_callVP (pc := 16) (As := [.int p2]) hC (k_X5_has hf ho0.2.1) MY_X5_has MI_X5_has ML_RX2_15 ho0.2.1.1 rfl rfl ⟨rfl, rfl⟩ ⟨by decide, by decide⟩ ⟨by decide, by decide⟩ rfl rfl (Nat.le_of_ble_eq_true rfl) dX2_ofHerdOrPasture_16 (fun v2 _ => ?_)
    refine GR_if_eq (pc := 19) (tgt := 26) hC dX2_ofHerdOrPasture_19 (by decide) ?_ ?_
    · refine GR_iconst (pc := 26) (v := 1) hC dX2_ofHerdOrPasture_26 rfl ?_
      exact GR_iretP (pc := 27) hC hr dX2_ofHerdOrPasture_27
    · refine GR_iconst (pc := 22) (v := 0) hC dX2_ofHerdOrPasture_22 rfl ?_
      refine GR_goto (pc := 23) (tgt := 27) hC dX2_ofHerdOrPasture_23 (by decide) ?_
      exact GR_iretP (pc := 27) hC hr dX2_ofHerdOrPasture_27
set_option maxRecDepth 20000 in
set_option maxHeartbeats 1000000 in
theorem k_X2_ofTwoHerds {P : GP} {o0 : Nat} {p1 : Int32} {p2 : Int32}{g : GM} (hf : g_on P 166) (ho0 : g_S P o0) : KI P yX2_ofTwoHerds cX2_ofTwoHerds 3 (some .int) ⟨1, 0, 0, 21⟩ [gr P o0, .int p1, .int p2] g ((f_X2_ofTwoHerds g o0 p1 p2).map (fun r => (g, r))) := by
  refine KI.ofWP (by decide) rfl (Nat.le_of_ble_eq_true rfl) (fun X x hC hr => ?_)
  unfold f_X2_ofTwoHerds
  change GR P X (g_QP P X g x) 0 0 _ 0 [some (gr P o0), some (.int p1), some (.int p2)] [] g x
  refine GR_aload_n (pc := 0) hC dX2_ofTwoHerds_0 rfl rfl ?_
  refine GR_getR (pc := 1) (r := (o0 + 4)) hC F_RX2_9 ho0.1 rfl dX2_ofTwoHerds_1 ?_
  refine GR_iload_n (pc := 4) hC dX2_ofTwoHerds_4 rfl rfl ?_
  refine GR_callVP (pc := 5) (As := [.int p1]) hC (k_X5_has hf ho0.2.2.1) MY_X5_has MI_X5_has ML_RX2_15 ho0.2.2.1.1 rfl rfl ⟨rfl, rfl⟩ ⟨by decide, by decide⟩ ⟨by decide, by decide⟩ rfl rfl (Nat.le_of_ble_eq_true rfl) dX2_ofTwoHerds_5 (fun v1 _ => ?_)
  refine GR_if_eq (pc := 8) (tgt := 26) hC dX2_ofTwoHerds_8 (by decide) ?_ ?_
  · refine GR_iconst (pc := 26) (v := 1) hC dX2_ofTwoHerds_26 rfl ?_
    exact GR_iretP (pc := 27) hC hr dX2_ofTwoHerds_27
  · refine GR_aload_n (pc := 11) hC dX2_ofTwoHerds_11 rfl rfl ?_
    refine GR_getR (pc := 12) (r := (o0 + 4)) hC F_RX2_9 ho0.1 rfl dX2_ofTwoHerds_12 ?_
    refine GR_iload_n (pc := 15) hC dX2_ofTwoHerds_15 rfl rfl ?_
    refine GR_callVP (pc := 16) (As := [.int p2]) hC (k_X5_has hf ho0.2.2.1) MY_X5_has MI_X5_has ML_RX2_15 ho0.2.2.1.1 rfl rfl ⟨rfl, rfl⟩ ⟨by decide, by decide⟩ ⟨by decide, by decide⟩ rfl rfl (Nat.le_of_ble_eq_true rfl) dX2_ofTwoHerds_16 (fun v2 _ => ?_)
    refine GR_if_eq (pc := 19) (tgt := 26) hC dX2_ofTwoHerds_19 (by decide) ?_ ?_
    · refine GR_iconst (pc := 26) (v := 1) hC dX2_ofTwoHerds_26 rfl ?_
      exact GR_iretP (pc := 27) hC hr dX2_ofTwoHerds_27
    · refine GR_iconst (pc := 22) (v := 0) hC dX2_ofTwoHerds_22 rfl ?_
      refine GR_goto (pc := 23) (tgt := 27) hC dX2_ofTwoHerds_23 (by decide) ?_
      exact GR_iretP (pc := 27) hC hr dX2_ofTwoHerds_27
set_option maxRecDepth 20000 in
set_option maxHeartbeats 1000000 in
theorem k_X2_ofUnits {P : GP} {o0 : Nat} {p1 : Int32} {p2 : Int32} {p3 : Int32}{g : GM} (hf : g_on P 166) (ho0 : g_S P o0) : KI P yX2_ofUnits cX2_ofUnits 4 (some .int) ⟨1, 0, 0, 21⟩ [gr P o0, .int p1, .int p2, .int p3] g ((f_X2_ofUnits g o0 p1 p2 p3).map (fun r => (g, r))) := by
  refine KI.ofWP (by decide) rfl (Nat.le_of_ble_eq_true rfl) (fun X x hC hr => ?_)
  unfold f_X2_ofUnits
  change GR P X (g_QP P X g x) 0 0 _ 0 [some (gr P o0), some (.int p1), some (.int p2), some (.int p3)] [] g x
  refine GR_aload_n (pc := 0) hC dX2_ofUnits_0 rfl rfl ?_
  refine GR_getR (pc := 1) (r := (o0 + 4)) hC F_RX2_9 ho0.1 rfl dX2_ofUnits_1 ?_
  refine GR_iload_n (pc := 4) hC dX2_ofUnits_4 rfl rfl ?_
  refine GR_callVP (pc := 5) (As := [.int p1]) hC (k_X5_has hf ho0.2.2.1) MY_X5_has MI_X5_has ML_RX2_15 ho0.2.2.1.1 rfl rfl ⟨rfl, rfl⟩ ⟨by decide, by decide⟩ ⟨by decide, by decide⟩ rfl rfl (Nat.le_of_ble_eq_true rfl) dX2_ofUnits_5 (fun v1 _ => ?_)
  refine GR_if_eq (pc := 8) (tgt := 22) hC dX2_ofUnits_8 (by decide) ?_ ?_
  · refine GR_iconst (pc := 22) (v := 1) hC dX2_ofUnits_22 rfl ?_
    exact GR_iretP (pc := 23) hC hr dX2_ofUnits_23
  · refine GR_aload_n (pc := 11) hC dX2_ofUnits_11 rfl rfl ?_
    refine GR_getR (pc := 12) (r := (o0 + 1)) hC F_RX2_21 ho0.1 rfl dX2_ofUnits_12 ?_
    refine GR_iload_n (pc := 15) hC dX2_ofUnits_15 rfl rfl ?_
    refine GR_callVP (pc := 16) (As := [.int p2]) hC (k_X5_has hf ho0.2.1) MY_X5_has MI_X5_has ML_RX2_15 ho0.2.1.1 rfl rfl ⟨rfl, rfl⟩ ⟨by decide, by decide⟩ ⟨by decide, by decide⟩ rfl rfl (Nat.le_of_ble_eq_true rfl) dX2_ofUnits_16 (fun v2 _ => ?_)
    refine GR_if_ne (pc := 19) (tgt := 24) hC dX2_ofUnits_19 (by decide) ?_ ?_
    · refine GR_iload_n (pc := 24) hC dX2_ofUnits_24 rfl rfl ?_
      refine GR_iconst (pc := 25) (v := 1) hC dX2_ofUnits_25 rfl ?_
      refine GR_icmp_lt (pc := 26) (tgt := 39) hC dX2_ofUnits_26 (by decide) ?_ ?_
      · refine GR_iconst (pc := 39) (v := 2) hC dX2_ofUnits_39 rfl ?_
        exact GR_iretP (pc := 40) hC hr dX2_ofUnits_40
      · refine GR_iload_n (pc := 29) hC dX2_ofUnits_29 rfl rfl ?_
        refine GR_bipush (pc := 30) (v := 50) hC dX2_ofUnits_30 rfl ?_
        refine GR_icmp_gt (pc := 32) (tgt := 39) hC dX2_ofUnits_32 (by decide) ?_ ?_
        · refine GR_iconst (pc := 39) (v := 2) hC dX2_ofUnits_39 rfl ?_
          exact GR_iretP (pc := 40) hC hr dX2_ofUnits_40
        · refine GR_iconst (pc := 35) (v := 0) hC dX2_ofUnits_35 rfl ?_
          refine GR_goto (pc := 36) (tgt := 40) hC dX2_ofUnits_36 (by decide) ?_
          exact GR_iretP (pc := 40) hC hr dX2_ofUnits_40
    · refine GR_iconst (pc := 22) (v := 1) hC dX2_ofUnits_22 rfl ?_
      exact GR_iretP (pc := 23) hC hr dX2_ofUnits_23
set_option maxRecDepth 20000 in
set_option maxHeartbeats 1000000 in
theorem k_X2_ofRequest {P : GP} {o0 : Nat} {p1 : Int32} {p2 : Int32} {p3 : Int32}{g : GM} (hf : g_on P 166) (ho0 : g_S P o0) : KI P yX2_ofRequest cX2_ofRequest 5 (some .int) ⟨2, 0, 0, 44⟩ [gr P o0, .int p1, .int p2, .int p3] g ((f_X2_ofRequest g o0 p1 p2 p3).map (fun r => (g, r))) := by
  refine KI.ofWP (by decide) rfl (Nat.le_of_ble_eq_true rfl) (fun X x hC hr => ?_)
  unfold f_X2_ofRequest
  change GR P X (g_QP P X g x) 0 0 _ 0 [some (gr P o0), some (.int p1), some (.int p2), some (.int p3), none] [] g x
  refine GR_aload_n (pc := 0) hC dX2_ofRequest_0 rfl rfl ?_
  refine GR_iload_n (pc := 1) hC dX2_ofRequest_1 rfl rfl ?_
  refine GR_iload_n (pc := 2) hC dX2_ofRequest_2 rfl rfl ?_
  refine GR_iload_n (pc := 3) hC dX2_ofRequest_3 rfl rfl ?_
  refine GR_callSP (pc := 4) (As := [gr P o0, .int p1, .int p2, .int p3]) hC (k_X2_ofUnits hf ho0) MY_X2_ofUnits MS_X2_ofUnits ML_RX2_28 ⟨rfl, rfl⟩ ⟨by decide, by decide⟩ ⟨by decide, by decide⟩ rfl rfl (Nat.le_of_ble_eq_true rfl) dX2_ofRequest_4 (fun v1 _ => ?_)
  refine GR_istore (pc := 7) (L' := [some (gr P o0), some (.int p1), some (.int p2), some (.int p3), some (.int v1)]) hC dX2_ofRequest_7 (by decide) rfl rfl ?_
  refine GR_iload (pc := 9) hC dX2_ofRequest_9 rfl ?_
  refine GR_if_eq (pc := 11) (tgt := 17) hC dX2_ofRequest_11 (by decide) ?_ ?_
  · refine GR_aload_n (pc := 17) hC dX2_ofRequest_17 rfl rfl ?_
    refine GR_iload_n (pc := 18) hC dX2_ofRequest_18 rfl rfl ?_
    refine GR_callVP (pc := 19) (As := [.int p1]) hC (k_X9_waits hf ho0) MY_X9_waits MI_X9_waits ML_RX2_34 ho0.1 rfl rfl ⟨rfl, rfl⟩ ⟨by decide, by decide⟩ ⟨by decide, by decide⟩ rfl rfl (Nat.le_of_ble_eq_true rfl) dX2_ofRequest_19 (fun v2 _ => ?_)
    refine GR_if_ne (pc := 22) (tgt := 35) hC dX2_ofRequest_22 (by decide) ?_ ?_
    · refine GR_iconst (pc := 35) (v := 3) hC dX2_ofRequest_35 rfl ?_
      refine GR_goto (pc := 36) (tgt := 40) hC dX2_ofRequest_36 (by decide) ?_
      exact GR_iretP (pc := 40) hC hr dX2_ofRequest_40
    · refine GR_iload_n (pc := 25) hC dX2_ofRequest_25 rfl rfl ?_
      refine GR_aload_n (pc := 26) hC dX2_ofRequest_26 rfl rfl ?_
      refine GR_iload_n (pc := 27) hC dX2_ofRequest_27 rfl rfl ?_
      refine GR_iload_n (pc := 28) hC dX2_ofRequest_28 rfl rfl ?_
      refine GR_callVP (pc := 29) (As := [.int p1, .int p2]) hC (k_X9_openClaim hf ho0) MY_X9_openClaim MI_X9_openClaim ML_RX2_37 ho0.1 rfl rfl ⟨rfl, rfl⟩ ⟨by decide, by decide⟩ ⟨by decide, by decide⟩ rfl rfl (Nat.le_of_ble_eq_true rfl) dX2_ofRequest_29 (fun v3 _ => ?_)
      refine GR_icmp_le (pc := 32) (tgt := 39) hC dX2_ofRequest_32 (by decide) ?_ ?_
      · refine GR_iconst (pc := 39) (v := 0) hC dX2_ofRequest_39 rfl ?_
        exact GR_iretP (pc := 40) hC hr dX2_ofRequest_40
      · refine GR_iconst (pc := 35) (v := 3) hC dX2_ofRequest_35 rfl ?_
        refine GR_goto (pc := 36) (tgt := 40) hC dX2_ofRequest_36 (by decide) ?_
        exact GR_iretP (pc := 40) hC hr dX2_ofRequest_40
  · refine GR_iload (pc := 14) hC dX2_ofRequest_14 rfl ?_
    exact GR_iretP (pc := 16) hC hr dX2_ofRequest_16
set_option maxRecDepth 20000 in
set_option maxHeartbeats 1000000 in
theorem k_X2_ofRelease {P : GP} {o0 : Nat} {p1 : Int32} {p2 : Int32} {p3 : Int32}{g : GM} (hf : g_on P 166) (ho0 : g_S P o0) : KI P yX2_ofRelease cX2_ofRelease 5 (some .int) ⟨2, 0, 0, 44⟩ [gr P o0, .int p1, .int p2, .int p3] g ((f_X2_ofRelease g o0 p1 p2 p3).map (fun r => (g, r))) := by
  refine KI.ofWP (by decide) rfl (Nat.le_of_ble_eq_true rfl) (fun X x hC hr => ?_)
  unfold f_X2_ofRelease
  change GR P X (g_QP P X g x) 0 0 _ 0 [some (gr P o0), some (.int p1), some (.int p2), some (.int p3), none] [] g x
  refine GR_aload_n (pc := 0) hC dX2_ofRelease_0 rfl rfl ?_
  refine GR_iload_n (pc := 1) hC dX2_ofRelease_1 rfl rfl ?_
  refine GR_iload_n (pc := 2) hC dX2_ofRelease_2 rfl rfl ?_
  refine GR_iload_n (pc := 3) hC dX2_ofRelease_3 rfl rfl ?_
  refine GR_callSP (pc := 4) (As := [gr P o0, .int p1, .int p2, .int p3]) hC (k_X2_ofUnits hf ho0) MY_X2_ofUnits MS_X2_ofUnits ML_RX2_28 ⟨rfl, rfl⟩ ⟨by decide, by decide⟩ ⟨by decide, by decide⟩ rfl rfl (Nat.le_of_ble_eq_true rfl) dX2_ofRelease_4 (fun v1 _ => ?_)
  refine GR_istore (pc := 7) (L' := [some (gr P o0), some (.int p1), some (.int p2), some (.int p3), some (.int v1)]) hC dX2_ofRelease_7 (by decide) rfl rfl ?_
  refine GR_iload (pc := 9) hC dX2_ofRelease_9 rfl ?_
  refine GR_if_eq (pc := 11) (tgt := 17) hC dX2_ofRelease_11 (by decide) ?_ ?_
  · refine GR_iload_n (pc := 17) hC dX2_ofRelease_17 rfl rfl ?_
    refine GR_aload_n (pc := 18) hC dX2_ofRelease_18 rfl rfl ?_
    refine GR_getR (pc := 19) (r := (o0 + 9)) hC F_RX2_41 ho0.1 rfl dX2_ofRelease_19 ?_
    refine GR_iload_n (pc := 22) hC dX2_ofRelease_22 rfl rfl ?_
    refine GR_iload_n (pc := 23) hC dX2_ofRelease_23 rfl rfl ?_
    refine GR_callSP (pc := 24) (As := [.int p1, .int p2]) hC (k_X9_cell hf) MY_X9_cell MS_X9_cell ML_RX2_44 ⟨rfl, rfl⟩ ⟨by decide, by decide⟩ ⟨by decide, by decide⟩ rfl rfl (Nat.le_of_ble_eq_true rfl) dX2_ofRelease_24 (fun v2 _ => ?_)
    refine GR_iald (pc := 27) hC ho0.2.2.2.2.2.2.1 dX2_ofRelease_27 (fun v3 _ => ?_)
    refine GR_icmp_le (pc := 28) (tgt := 35) hC dX2_ofRelease_28 (by decide) ?_ ?_
    · refine GR_iconst (pc := 35) (v := 0) hC dX2_ofRelease_35 rfl ?_
      exact GR_iretP (pc := 36) hC hr dX2_ofRelease_36
    · refine GR_iconst (pc := 31) (v := 3) hC dX2_ofRelease_31 rfl ?_
      refine GR_goto (pc := 32) (tgt := 36) hC dX2_ofRelease_32 (by decide) ?_
      exact GR_iretP (pc := 36) hC hr dX2_ofRelease_36
  · refine GR_iload (pc := 14) hC dX2_ofRelease_14 rfl ?_
    exact GR_iretP (pc := 16) hC hr dX2_ofRelease_16
set_option maxRecDepth 20000 in
set_option maxHeartbeats 1000000 in
theorem k_X2_ofCancel {P : GP} {o0 : Nat} {p1 : Int32}{g : GM} (hf : g_on P 166) (ho0 : g_S P o0) : KI P yX2_ofCancel cX2_ofCancel 2 (some .int) ⟨1, 0, 0, 21⟩ [gr P o0, .int p1] g ((f_X2_ofCancel g o0 p1).map (fun r => (g, r))) := by
  refine KI.ofWP (by decide) rfl (Nat.le_of_ble_eq_true rfl) (fun X x hC hr => ?_)
  unfold f_X2_ofCancel
  change GR P X (g_QP P X g x) 0 0 _ 0 [some (gr P o0), some (.int p1)] [] g x
  refine GR_aload_n (pc := 0) hC dX2_ofCancel_0 rfl rfl ?_
  refine GR_getR (pc := 1) (r := (o0 + 4)) hC F_RX2_9 ho0.1 rfl dX2_ofCancel_1 ?_
  refine GR_iload_n (pc := 4) hC dX2_ofCancel_4 rfl rfl ?_
  refine GR_callVP (pc := 5) (As := [.int p1]) hC (k_X5_has hf ho0.2.2.1) MY_X5_has MI_X5_has ML_RX2_15 ho0.2.2.1.1 rfl rfl ⟨rfl, rfl⟩ ⟨by decide, by decide⟩ ⟨by decide, by decide⟩ rfl rfl (Nat.le_of_ble_eq_true rfl) dX2_ofCancel_5 (fun v1 _ => ?_)
  refine GR_if_ne (pc := 8) (tgt := 13) hC dX2_ofCancel_8 (by decide) ?_ ?_
  · refine GR_aload_n (pc := 13) hC dX2_ofCancel_13 rfl rfl ?_
    refine GR_iload_n (pc := 14) hC dX2_ofCancel_14 rfl rfl ?_
    refine GR_callVP (pc := 15) (As := [.int p1]) hC (k_X9_waits hf ho0) MY_X9_waits MI_X9_waits ML_RX2_34 ho0.1 rfl rfl ⟨rfl, rfl⟩ ⟨by decide, by decide⟩ ⟨by decide, by decide⟩ rfl rfl (Nat.le_of_ble_eq_true rfl) dX2_ofCancel_15 (fun v2 _ => ?_)
    refine GR_if_eq (pc := 18) (tgt := 25) hC dX2_ofCancel_18 (by decide) ?_ ?_
    · refine GR_iconst (pc := 25) (v := 3) hC dX2_ofCancel_25 rfl ?_
      exact GR_iretP (pc := 26) hC hr dX2_ofCancel_26
    · refine GR_iconst (pc := 21) (v := 0) hC dX2_ofCancel_21 rfl ?_
      refine GR_goto (pc := 22) (tgt := 26) hC dX2_ofCancel_22 (by decide) ?_
      exact GR_iretP (pc := 26) hC hr dX2_ofCancel_26
  · refine GR_iconst (pc := 11) (v := 1) hC dX2_ofCancel_11 rfl ?_
    exact GR_iretP (pc := 12) hC hr dX2_ofCancel_12
set_option maxRecDepth 20000 in
set_option maxHeartbeats 1000000 in
theorem k_X2_ofCapacity {P : GP} {o0 : Nat} {p1 : Int32} {p2 : Int32}{g : GM} (hf : g_on P 166) (ho0 : g_S P o0) : KI P yX2_ofCapacity cX2_ofCapacity 3 (some .int) ⟨1, 0, 0, 23⟩ [gr P o0, .int p1, .int p2] g ((f_X2_ofCapacity g o0 p1 p2).map (fun r => (g, r))) := by
  refine KI.ofWP (by decide) rfl (Nat.le_of_ble_eq_true rfl) (fun X x hC hr => ?_)
  unfold f_X2_ofCapacity
  change GR P X (g_QP P X g x) 0 0 _ 0 [some (gr P o0), some (.int p1), some (.int p2)] [] g x
  refine GR_aload_n (pc := 0) hC dX2_ofCapacity_0 rfl rfl ?_
  refine GR_getR (pc := 1) (r := (o0 + 1)) hC F_RX2_21 ho0.1 rfl dX2_ofCapacity_1 ?_
  refine GR_iload_n (pc := 4) hC dX2_ofCapacity_4 rfl rfl ?_
  refine GR_callVP (pc := 5) (As := [.int p1]) hC (k_X5_has hf ho0.2.1) MY_X5_has MI_X5_has ML_RX2_15 ho0.2.1.1 rfl rfl ⟨rfl, rfl⟩ ⟨by decide, by decide⟩ ⟨by decide, by decide⟩ rfl rfl (Nat.le_of_ble_eq_true rfl) dX2_ofCapacity_5 (fun v1 _ => ?_)
  refine GR_if_ne (pc := 8) (tgt := 13) hC dX2_ofCapacity_8 (by decide) ?_ ?_
  · refine GR_iload_n (pc := 13) hC dX2_ofCapacity_13 rfl rfl ?_
    refine GR_if_lt (pc := 14) (tgt := 23) hC dX2_ofCapacity_14 (by decide) ?_ ?_
    · refine GR_iconst (pc := 23) (v := 2) hC dX2_ofCapacity_23 rfl ?_
      exact GR_iretP (pc := 24) hC hr dX2_ofCapacity_24
    · refine GR_iload_n (pc := 17) hC dX2_ofCapacity_17 rfl rfl ?_
      refine GR_bipush (pc := 18) (v := 50) hC dX2_ofCapacity_18 rfl ?_
      refine GR_icmp_le (pc := 20) (tgt := 25) hC dX2_ofCapacity_20 (by decide) ?_ ?_
      · refine GR_iload_n (pc := 25) hC dX2_ofCapacity_25 rfl rfl ?_
        refine GR_aload_n (pc := 26) hC dX2_ofCapacity_26 rfl rfl ?_
        refine GR_iload_n (pc := 27) hC dX2_ofCapacity_27 rfl rfl ?_
        refine GR_callVP (pc := 28) (As := [.int p1]) hC (k_X9_heldUnits hf ho0) MY_X9_heldUnits MI_X9_heldUnits ML_RX2_47 ho0.1 rfl rfl ⟨rfl, rfl⟩ ⟨by decide, by decide⟩ ⟨by decide, by decide⟩ rfl rfl (Nat.le_of_ble_eq_true rfl) dX2_ofCapacity_28 (fun v2 _ => ?_)
        refine GR_icmp_ge (pc := 31) (tgt := 38) hC dX2_ofCapacity_31 (by decide) ?_ ?_
        · refine GR_iconst (pc := 38) (v := 0) hC dX2_ofCapacity_38 rfl ?_
          exact GR_iretP (pc := 39) hC hr dX2_ofCapacity_39
        · refine GR_iconst (pc := 34) (v := 3) hC dX2_ofCapacity_34 rfl ?_
          refine GR_goto (pc := 35) (tgt := 39) hC dX2_ofCapacity_35 (by decide) ?_
          exact GR_iretP (pc := 39) hC hr dX2_ofCapacity_39
      · refine GR_iconst (pc := 23) (v := 2) hC dX2_ofCapacity_23 rfl ?_
        exact GR_iretP (pc := 24) hC hr dX2_ofCapacity_24
  · refine GR_iconst (pc := 11) (v := 1) hC dX2_ofCapacity_11 rfl ?_
    exact GR_iretP (pc := 12) hC hr dX2_ofCapacity_12
set_option maxRecDepth 20000 in
set_option maxHeartbeats 1000000 in
theorem k_X2_ofMaximum {P : GP} {o0 : Nat} {p1 : Int32} {p2 : Int32} {p3 : Int32}{g : GM} (hf : g_on P 166) (ho0 : g_S P o0) : KI P yX2_ofMaximum cX2_ofMaximum 5 (some .int) ⟨2, 0, 0, 43⟩ [gr P o0, .int p1, .int p2, .int p3] g ((f_X2_ofMaximum g o0 p1 p2 p3).map (fun r => (g, r))) := by
  refine KI.ofWP (by decide) rfl (Nat.le_of_ble_eq_true rfl) (fun X x hC hr => ?_)
  unfold f_X2_ofMaximum
  change GR P X (g_QP P X g x) 0 0 _ 0 [some (gr P o0), some (.int p1), some (.int p2), some (.int p3), none] [] g x
  refine GR_aload_n (pc := 0) hC dX2_ofMaximum_0 rfl rfl ?_
  refine GR_getR (pc := 1) (r := (o0 + 4)) hC F_RX2_9 ho0.1 rfl dX2_ofMaximum_1 ?_
  refine GR_iload_n (pc := 4) hC dX2_ofMaximum_4 rfl rfl ?_
  refine GR_callVP (pc := 5) (As := [.int p1]) hC (k_X5_has hf ho0.2.2.1) MY_X5_has MI_X5_has ML_RX2_15 ho0.2.2.1.1 rfl rfl ⟨rfl, rfl⟩ ⟨by decide, by decide⟩ ⟨by decide, by decide⟩ rfl rfl (Nat.le_of_ble_eq_true rfl) dX2_ofMaximum_5 (fun v1 _ => ?_)
  refine GR_if_eq (pc := 8) (tgt := 22) hC dX2_ofMaximum_8 (by decide) ?_ ?_
  · refine GR_iconst (pc := 22) (v := 1) hC dX2_ofMaximum_22 rfl ?_
    exact GR_iretP (pc := 23) hC hr dX2_ofMaximum_23
  · refine GR_aload_n (pc := 11) hC dX2_ofMaximum_11 rfl rfl ?_
    refine GR_getR (pc := 12) (r := (o0 + 1)) hC F_RX2_21 ho0.1 rfl dX2_ofMaximum_12 ?_
    refine GR_iload_n (pc := 15) hC dX2_ofMaximum_15 rfl rfl ?_
    refine GR_callVP (pc := 16) (As := [.int p2]) hC (k_X5_has hf ho0.2.1) MY_X5_has MI_X5_has ML_RX2_15 ho0.2.1.1 rfl rfl ⟨rfl, rfl⟩ ⟨by decide, by decide⟩ ⟨by decide, by decide⟩ rfl rfl (Nat.le_of_ble_eq_true rfl) dX2_ofMaximum_16 (fun v2 _ => ?_)
    refine GR_if_ne (pc := 19) (tgt := 24) hC dX2_ofMaximum_19 (by decide) ?_ ?_
    · refine GR_iload_n (pc := 24) hC dX2_ofMaximum_24 rfl rfl ?_
      refine GR_if_lt (pc := 25) (tgt := 34) hC dX2_ofMaximum_25 (by decide) ?_ ?_
      · refine GR_iconst (pc := 34) (v := 2) hC dX2_ofMaximum_34 rfl ?_
        exact GR_iretP (pc := 35) hC hr dX2_ofMaximum_35
      · refine GR_iload_n (pc := 28) hC dX2_ofMaximum_28 rfl rfl ?_
        refine GR_bipush (pc := 29) (v := 50) hC dX2_ofMaximum_29 rfl ?_
        refine GR_icmp_le (pc := 31) (tgt := 36) hC dX2_ofMaximum_31 (by decide) ?_ ?_
        · refine GR_aload_n (pc := 36) hC dX2_ofMaximum_36 rfl rfl ?_
          refine GR_getR (pc := 37) (r := (o0 + 9)) hC F_RX2_41 ho0.1 rfl dX2_ofMaximum_37 ?_
          refine GR_iload_n (pc := 40) hC dX2_ofMaximum_40 rfl rfl ?_
          refine GR_iload_n (pc := 41) hC dX2_ofMaximum_41 rfl rfl ?_
          refine GR_callSP (pc := 42) (As := [.int p1, .int p2]) hC (k_X9_cell hf) MY_X9_cell MS_X9_cell ML_RX2_44 ⟨rfl, rfl⟩ ⟨by decide, by decide⟩ ⟨by decide, by decide⟩ rfl rfl (Nat.le_of_ble_eq_true rfl) dX2_ofMaximum_42 (fun v3 _ => ?_)
          refine GR_iald (pc := 45) hC ho0.2.2.2.2.2.2.1 dX2_ofMaximum_45 (fun v4 _ => ?_)
          refine GR_aload_n (pc := 46) hC dX2_ofMaximum_46 rfl rfl ?_
          refine GR_iload_n (pc := 47) hC dX2_ofMaximum_47 rfl rfl ?_
          refine GR_iload_n (pc := 48) hC dX2_ofMaximum_48 rfl rfl ?_
          refine GR_callVP (pc := 49) (As := [.int p1, .int p2]) hC (k_X9_wanted hf ho0) MY_X9_wanted MI_X9_wanted ML_RX2_51 ho0.1 rfl rfl ⟨rfl, rfl⟩ ⟨by decide, by decide⟩ ⟨by decide, by decide⟩ rfl rfl (Nat.le_of_ble_eq_true rfl) dX2_ofMaximum_49 (fun v5 _ => ?_)
          refine GR_iadd (pc := 52) hC dX2_ofMaximum_52 ?_
          refine GR_istore (pc := 53) (L' := [some (gr P o0), some (.int p1), some (.int p2), some (.int p3), some (.int (v4 + v5))]) hC dX2_ofMaximum_53 (by decide) rfl rfl ?_
          refine GR_iload_n (pc := 55) hC dX2_ofMaximum_55 rfl rfl ?_
          refine GR_iload (pc := 56) hC dX2_ofMaximum_56 rfl ?_
          refine GR_icmp_ge (pc := 58) (tgt := 65) hC dX2_ofMaximum_58 (by decide) ?_ ?_
          · refine GR_iconst (pc := 65) (v := 0) hC dX2_ofMaximum_65 rfl ?_
            exact GR_iretP (pc := 66) hC hr dX2_ofMaximum_66
          · refine GR_iconst (pc := 61) (v := 3) hC dX2_ofMaximum_61 rfl ?_
            refine GR_goto (pc := 62) (tgt := 66) hC dX2_ofMaximum_62 (by decide) ?_
            exact GR_iretP (pc := 66) hC hr dX2_ofMaximum_66
        · refine GR_iconst (pc := 34) (v := 2) hC dX2_ofMaximum_34 rfl ?_
          exact GR_iretP (pc := 35) hC hr dX2_ofMaximum_35
    · refine GR_iconst (pc := 22) (v := 1) hC dX2_ofMaximum_22 rfl ?_
      exact GR_iretP (pc := 23) hC hr dX2_ofMaximum_23
set_option maxRecDepth 20000 in
set_option maxHeartbeats 1000000 in
theorem k_X2_ofCoins {P : GP} {o0 : Nat} {p1 : Int32} {p2 : Int32} {p3 : Int32}{g : GM} (hf : g_on P 166) (ho0 : g_S P o0) : KI P yX2_ofCoins cX2_ofCoins 4 (some .int) ⟨1, 0, 0, 21⟩ [gr P o0, .int p1, .int p2, .int p3] g ((f_X2_ofCoins g o0 p1 p2 p3).map (fun r => (g, r))) := by
  refine KI.ofWP (by decide) rfl (Nat.le_of_ble_eq_true rfl) (fun X x hC hr => ?_)
  unfold f_X2_ofCoins
  change GR P X (g_QP P X g x) 0 0 _ 0 [some (gr P o0), some (.int p1), some (.int p2), some (.int p3)] [] g x
  refine GR_aload_n (pc := 0) hC dX2_ofCoins_0 rfl rfl ?_
  refine GR_getR (pc := 1) (r := (o0 + 4)) hC F_RX2_9 ho0.1 rfl dX2_ofCoins_1 ?_
  refine GR_iload_n (pc := 4) hC dX2_ofCoins_4 rfl rfl ?_
  refine GR_callVP (pc := 5) (As := [.int p1]) hC (k_X5_has hf ho0.2.2.1) MY_X5_has MI_X5_has ML_RX2_15 ho0.2.2.1.1 rfl rfl ⟨rfl, rfl⟩ ⟨by decide, by decide⟩ ⟨by decide, by decide⟩ rfl rfl (Nat.le_of_ble_eq_true rfl) dX2_ofCoins_5 (fun v1 _ => ?_)
  refine GR_if_eq (pc := 8) (tgt := 22) hC dX2_ofCoins_8 (by decide) ?_ ?_
  · refine GR_iconst (pc := 22) (v := 1) hC dX2_ofCoins_22 rfl ?_
    exact GR_iretP (pc := 23) hC hr dX2_ofCoins_23
  · refine GR_aload_n (pc := 11) hC dX2_ofCoins_11 rfl rfl ?_
    refine GR_getR (pc := 12) (r := (o0 + 4)) hC F_RX2_9 ho0.1 rfl dX2_ofCoins_12 ?_
    refine GR_iload_n (pc := 15) hC dX2_ofCoins_15 rfl rfl ?_
    refine GR_callVP (pc := 16) (As := [.int p2]) hC (k_X5_has hf ho0.2.2.1) MY_X5_has MI_X5_has ML_RX2_15 ho0.2.2.1.1 rfl rfl ⟨rfl, rfl⟩ ⟨by decide, by decide⟩ ⟨by decide, by decide⟩ rfl rfl (Nat.le_of_ble_eq_true rfl) dX2_ofCoins_16 (fun v2 _ => ?_)
    refine GR_if_ne (pc := 19) (tgt := 24) hC dX2_ofCoins_19 (by decide) ?_ ?_
    · refine GR_iload_n (pc := 24) hC dX2_ofCoins_24 rfl rfl ?_
      refine GR_iconst (pc := 25) (v := 1) hC dX2_ofCoins_25 rfl ?_
      refine GR_icmp_lt (pc := 26) (tgt := 40) hC dX2_ofCoins_26 (by decide) ?_ ?_
      · refine GR_iconst (pc := 40) (v := 2) hC dX2_ofCoins_40 rfl ?_
        exact GR_iretP (pc := 41) hC hr dX2_ofCoins_41
      · refine GR_iload_n (pc := 29) hC dX2_ofCoins_29 rfl rfl ?_
        refine GR_sipush (pc := 30) (v := 999) hC dX2_ofCoins_30 rfl ?_
        refine GR_icmp_gt (pc := 33) (tgt := 40) hC dX2_ofCoins_33 (by decide) ?_ ?_
        · refine GR_iconst (pc := 40) (v := 2) hC dX2_ofCoins_40 rfl ?_
          exact GR_iretP (pc := 41) hC hr dX2_ofCoins_41
        · refine GR_iconst (pc := 36) (v := 0) hC dX2_ofCoins_36 rfl ?_
          refine GR_goto (pc := 37) (tgt := 41) hC dX2_ofCoins_37 (by decide) ?_
          exact GR_iretP (pc := 41) hC hr dX2_ofCoins_41
    · refine GR_iconst (pc := 22) (v := 1) hC dX2_ofCoins_22 rfl ?_
      exact GR_iretP (pc := 23) hC hr dX2_ofCoins_23
set_option maxRecDepth 20000 in
set_option maxHeartbeats 1000000 in
theorem k_X2_ofLoan {P : GP} {o0 : Nat} {p1 : Int32} {p2 : Int32} {p3 : Int32}{g : GM} (hf : g_on P 166) (ho0 : g_S P o0) : KI P yX2_ofLoan cX2_ofLoan 5 (some .int) ⟨3, 0, 0, 70⟩ [gr P o0, .int p1, .int p2, .int p3] g ((f_X2_ofLoan g o0 p1 p2 p3).map (fun r => (g, r))) := by
  refine KI.ofWP (by decide) rfl (Nat.le_of_ble_eq_true rfl) (fun X x hC hr => ?_)
  unfold f_X2_ofLoan
  change GR P X (g_QP P X g x) 0 0 _ 0 [some (gr P o0), some (.int p1), some (.int p2), some (.int p3), none] [] g x
  refine GR_aload_n (pc := 0) hC dX2_ofLoan_0 rfl rfl ?_
  refine GR_iload_n (pc := 1) hC dX2_ofLoan_1 rfl rfl ?_
  refine GR_iload_n (pc := 2) hC dX2_ofLoan_2 rfl rfl ?_
  refine GR_iload_n (pc := 3) hC dX2_ofLoan_3 rfl rfl ?_
  refine GR_callSP (pc := 4) (As := [gr P o0, .int p1, .int p2, .int p3]) hC (k_X2_ofCoins hf ho0) MY_X2_ofCoins MS_X2_ofCoins ML_RX2_54 ⟨rfl, rfl⟩ ⟨by decide, by decide⟩ ⟨by decide, by decide⟩ rfl rfl (Nat.le_of_ble_eq_true rfl) dX2_ofLoan_4 (fun v1 _ => ?_)
  refine GR_istore (pc := 7) (L' := [some (gr P o0), some (.int p1), some (.int p2), some (.int p3), some (.int v1)]) hC dX2_ofLoan_7 (by decide) rfl rfl ?_
  refine GR_iload (pc := 9) hC dX2_ofLoan_9 rfl ?_
  refine GR_if_eq (pc := 11) (tgt := 17) hC dX2_ofLoan_11 (by decide) ?_ ?_
  · refine GR_aload_n (pc := 17) hC dX2_ofLoan_17 rfl rfl ?_
    refine GR_getR (pc := 18) (r := (o0 + 13)) hC F_RX2_57 ho0.1 rfl dX2_ofLoan_18 ?_
    refine GR_iload_n (pc := 21) hC dX2_ofLoan_21 rfl rfl ?_
    refine GR_iload_n (pc := 22) hC dX2_ofLoan_22 rfl rfl ?_
    refine GR_callVP (pc := 23) (As := [.int p2, .int p1]) hC (k_X1_cycleClosedBy hf ho0.2.2.2.1) MY_X1_cycleClosedBy MI_X1_cycleClosedBy ML_RX2_61 ho0.2.2.2.1.1 rfl rfl ⟨rfl, rfl⟩ ⟨by decide, by decide⟩ ⟨by decide, by decide⟩ rfl rfl (Nat.le_of_ble_eq_true rfl) dX2_ofLoan_23 (fun v2 _ => ?_)
    refine GR_iconst (pc := 26) (v := (-1)) hC dX2_ofLoan_26 rfl ?_
    refine GR_icmp_eq (pc := 27) (tgt := 32) hC dX2_ofLoan_27 (by decide) ?_ ?_
    · refine GR_iload_n (pc := 32) hC dX2_ofLoan_32 rfl rfl ?_
      refine GR_sipush (pc := 33) (v := 999) hC dX2_ofLoan_33 rfl ?_
      refine GR_aload_n (pc := 36) hC dX2_ofLoan_36 rfl rfl ?_
      refine GR_getR (pc := 37) (r := (o0 + 13)) hC F_RX2_57 ho0.1 rfl dX2_ofLoan_37 ?_
      refine GR_iload_n (pc := 40) hC dX2_ofLoan_40 rfl rfl ?_
      refine GR_iload_n (pc := 41) hC dX2_ofLoan_41 rfl rfl ?_
      refine GR_callVP (pc := 42) (As := [.int p2, .int p1]) hC (k_X1_owed hf ho0.2.2.2.1) MY_X1_owed MI_X1_owed ML_RX2_66 ho0.2.2.2.1.1 rfl rfl ⟨rfl, rfl⟩ ⟨by decide, by decide⟩ ⟨by decide, by decide⟩ rfl rfl (Nat.le_of_ble_eq_true rfl) dX2_ofLoan_42 (fun v3 _ => ?_)
      refine GR_isub (pc := 45) hC dX2_ofLoan_45 ?_
      refine GR_icmp_le (pc := 46) (tgt := 53) hC dX2_ofLoan_46 (by decide) ?_ ?_
      · refine GR_iconst (pc := 53) (v := 0) hC dX2_ofLoan_53 rfl ?_
        exact GR_iretP (pc := 54) hC hr dX2_ofLoan_54
      · refine GR_iconst (pc := 49) (v := 3) hC dX2_ofLoan_49 rfl ?_
        refine GR_goto (pc := 50) (tgt := 54) hC dX2_ofLoan_50 (by decide) ?_
        exact GR_iretP (pc := 54) hC hr dX2_ofLoan_54
    · refine GR_iconst (pc := 30) (v := 3) hC dX2_ofLoan_30 rfl ?_
      exact GR_iretP (pc := 31) hC hr dX2_ofLoan_31
  · refine GR_iload (pc := 14) hC dX2_ofLoan_14 rfl ?_
    exact GR_iretP (pc := 16) hC hr dX2_ofLoan_16
set_option maxRecDepth 20000 in
set_option maxHeartbeats 1000000 in
theorem k_X2_ofRepayment {P : GP} {o0 : Nat} {p1 : Int32} {p2 : Int32} {p3 : Int32}{g : GM} (hf : g_on P 166) (ho0 : g_S P o0) : KI P yX2_ofRepayment cX2_ofRepayment 5 (some .int) ⟨2, 0, 0, 44⟩ [gr P o0, .int p1, .int p2, .int p3] g ((f_X2_ofRepayment g o0 p1 p2 p3).map (fun r => (g, r))) := by
  refine KI.ofWP (by decide) rfl (Nat.le_of_ble_eq_true rfl) (fun X x hC hr => ?_)
  unfold f_X2_ofRepayment
  change GR P X (g_QP P X g x) 0 0 _ 0 [some (gr P o0), some (.int p1), some (.int p2), some (.int p3), none] [] g x
  refine GR_aload_n (pc := 0) hC dX2_ofRepayment_0 rfl rfl ?_
  refine GR_iload_n (pc := 1) hC dX2_ofRepayment_1 rfl rfl ?_
  refine GR_iload_n (pc := 2) hC dX2_ofRepayment_2 rfl rfl ?_
  refine GR_iload_n (pc := 3) hC dX2_ofRepayment_3 rfl rfl ?_
  refine GR_callSP (pc := 4) (As := [gr P o0, .int p1, .int p2, .int p3]) hC (k_X2_ofCoins hf ho0) MY_X2_ofCoins MS_X2_ofCoins ML_RX2_54 ⟨rfl, rfl⟩ ⟨by decide, by decide⟩ ⟨by decide, by decide⟩ rfl rfl (Nat.le_of_ble_eq_true rfl) dX2_ofRepayment_4 (fun v1 _ => ?_)
  refine GR_istore (pc := 7) (L' := [some (gr P o0), some (.int p1), some (.int p2), some (.int p3), some (.int v1)]) hC dX2_ofRepayment_7 (by decide) rfl rfl ?_
  refine GR_iload (pc := 9) hC dX2_ofRepayment_9 rfl ?_
  refine GR_if_eq (pc := 11) (tgt := 17) hC dX2_ofRepayment_11 (by decide) ?_ ?_
  · refine GR_iload_n (pc := 17) hC dX2_ofRepayment_17 rfl rfl ?_
    refine GR_aload_n (pc := 18) hC dX2_ofRepayment_18 rfl rfl ?_
    refine GR_getR (pc := 19) (r := (o0 + 13)) hC F_RX2_57 ho0.1 rfl dX2_ofRepayment_19 ?_
    refine GR_iload_n (pc := 22) hC dX2_ofRepayment_22 rfl rfl ?_
    refine GR_iload_n (pc := 23) hC dX2_ofRepayment_23 rfl rfl ?_
    refine GR_callVP (pc := 24) (As := [.int p1, .int p2]) hC (k_X1_owed hf ho0.2.2.2.1) MY_X1_owed MI_X1_owed ML_RX2_66 ho0.2.2.2.1.1 rfl rfl ⟨rfl, rfl⟩ ⟨by decide, by decide⟩ ⟨by decide, by decide⟩ rfl rfl (Nat.le_of_ble_eq_true rfl) dX2_ofRepayment_24 (fun v2 _ => ?_)
    refine GR_icmp_le (pc := 27) (tgt := 34) hC dX2_ofRepayment_27 (by decide) ?_ ?_
    · refine GR_iconst (pc := 34) (v := 0) hC dX2_ofRepayment_34 rfl ?_
      exact GR_iretP (pc := 35) hC hr dX2_ofRepayment_35
    · refine GR_iconst (pc := 30) (v := 3) hC dX2_ofRepayment_30 rfl ?_
      refine GR_goto (pc := 31) (tgt := 35) hC dX2_ofRepayment_31 (by decide) ?_
      exact GR_iretP (pc := 35) hC hr dX2_ofRepayment_35
  · refine GR_iload (pc := 14) hC dX2_ofRepayment_14 rfl ?_
    exact GR_iretP (pc := 16) hC hr dX2_ofRepayment_16
set_option maxRecDepth 20000 in
set_option maxHeartbeats 1000000 in
theorem lfJ_X3_remember_35 {P : GP} {X : GX} {o1 : Nat} {x : GE} (hC : GC P X RX3 cX3_remember 2 ⟨3, 0, 0, 102⟩) (hf : g_on P 166) (ho1 : g_S P o1) (hr : X.2.2.2.2.2.2.2.2.1.sig.returnType = none) (g : GM) (t0 : Int32) : GR P X (g_QV P X x) 0 0 (fJ_X3_remember_35 o1 g t0) 35 [some (gr P 42), none] [.int t0, gr P 42] g x := by
  unfold fJ_X3_remember_35
  refine GR_putI (pc := 35) hC FW_RX3_18 (sh_42 hf) rfl dX3_remember_35 (fun g3 _ => ?_)
  refine GR_aload_n (pc := 38) hC dX3_remember_38 rfl rfl ?_
  refine GR_aload_n (pc := 39) hC dX3_remember_39 rfl rfl ?_
  refine GR_getI (pc := 40) hC F_RX3_26 (sh_42 hf) rfl dX3_remember_40 ?_
  refine GR_iconst (pc := 43) (v := 1) hC dX3_remember_43 rfl ?_
  refine GR_iadd (pc := 44) hC dX3_remember_44 ?_
  refine GR_bipush (pc := 45) (v := 6) hC dX3_remember_45 rfl ?_
  refine GR_mmin (pc := 47) hC MLm_RX3_29 (by decide) (Nat.le_of_ble_eq_true rfl) dX3_remember_47 ?_
  refine GR_putI (pc := 50) hC FW_RX3_26 (sh_42 hf) rfl dX3_remember_50 (fun g4 _ => ?_)
  exact GR_vret (pc := 53) hC hr dX3_remember_53
set_option maxRecDepth 20000 in
set_option maxHeartbeats 1000000 in
theorem k_X3_remember {P : GP} {o1 : Nat}{g : GM} (hf : g_on P 166) (ho1 : g_S P o1) : KV P yX3_remember cX3_remember 2 ⟨3, 0, 0, 102⟩ [gr P 42, gr P o1] g (f_X3_remember g o1) := by
  refine KV.ofW (by decide) rfl (Nat.le_of_ble_eq_true rfl) (fun X x hC hr => ?_)
  unfold f_X3_remember
  change GR P X (g_QV P X x) 0 0 _ 0 [some (gr P 42), some (gr P o1)] [] g x
  refine GR_aload_n (pc := 0) hC dX3_remember_0 rfl rfl ?_
  refine GR_getR (pc := 1) (r := 43) hC F_RX3_11 (sh_42 hf) rfl dX3_remember_1 ?_
  refine GR_aload_n (pc := 4) hC dX3_remember_4 rfl rfl ?_
  refine GR_getI (pc := 5) hC F_RX3_18 (sh_42 hf) rfl dX3_remember_5 ?_
  refine GR_aaldC (pc := 8) (q := 0) (r := 44) hC (sh_43 hf) dX3_remember_8 rfl (by decide) ?_ ?_
  · refine GR_aload_n (pc := 9) hC dX3_remember_9 rfl rfl ?_
    refine GR_callVV (pc := 10) (As := [gr P o1]) hC (k_X9_copyFrom hf (g_S_44 hf) ho1) MY_X9_copyFrom MI_X9_copyFrom ML_RX3_22 (sh_44 hf) rfl rfl ⟨rfl, rfl⟩ ⟨by decide, by decide⟩ ⟨by decide, by decide⟩ rfl rfl (Nat.le_of_ble_eq_true rfl) dX3_remember_10 (fun g2 _ => ?_)
    refine GR_aload_n (pc := 13) hC dX3_remember_13 rfl rfl ?_
    refine GR_aload_n (pc := 14) hC dX3_remember_14 rfl rfl ?_
    refine GR_getI (pc := 15) hC F_RX3_18 (sh_42 hf) rfl dX3_remember_15 ?_
    refine GR_iconst (pc := 18) (v := 1) hC dX3_remember_18 rfl ?_
    refine GR_iadd (pc := 19) hC dX3_remember_19 ?_
    refine GR_bipush (pc := 20) (v := 6) hC dX3_remember_20 rfl ?_
    refine GR_icmp_ge (pc := 22) (tgt := 34) hC dX3_remember_22 (by decide) ?_ ?_
    · refine GR_iconst (pc := 34) (v := 0) hC dX3_remember_34 rfl ?_
      exact GR.less (lfJ_X3_remember_35 hC hf ho1 hr _ _) (g_le_at (And.intro rfl trivial))
    · refine GR_aload_n (pc := 25) hC dX3_remember_25 rfl rfl ?_
      refine GR_getI (pc := 26) hC F_RX3_18 (sh_42 hf) rfl dX3_remember_26 ?_
      refine GR_iconst (pc := 29) (v := 1) hC dX3_remember_29 rfl ?_
      refine GR_iadd (pc := 30) hC dX3_remember_30 ?_
      refine GR_goto (pc := 31) (tgt := 35) hC dX3_remember_31 (by decide) ?_
      exact GR.less (lfJ_X3_remember_35 hC hf ho1 hr _ _) (g_le_at (And.intro rfl trivial))
  refine GR_aaldC (pc := 8) (q := 1) (r := 59) hC (sh_43 hf) dX3_remember_8 rfl (by decide) ?_ ?_
  · refine GR_aload_n (pc := 9) hC dX3_remember_9 rfl rfl ?_
    refine GR_callVV (pc := 10) (As := [gr P o1]) hC (k_X9_copyFrom hf (g_S_59 hf) ho1) MY_X9_copyFrom MI_X9_copyFrom ML_RX3_22 (sh_59 hf) rfl rfl ⟨rfl, rfl⟩ ⟨by decide, by decide⟩ ⟨by decide, by decide⟩ rfl rfl (Nat.le_of_ble_eq_true rfl) dX3_remember_10 (fun g6 _ => ?_)
    refine GR_aload_n (pc := 13) hC dX3_remember_13 rfl rfl ?_
    refine GR_aload_n (pc := 14) hC dX3_remember_14 rfl rfl ?_
    refine GR_getI (pc := 15) hC F_RX3_18 (sh_42 hf) rfl dX3_remember_15 ?_
    refine GR_iconst (pc := 18) (v := 1) hC dX3_remember_18 rfl ?_
    refine GR_iadd (pc := 19) hC dX3_remember_19 ?_
    refine GR_bipush (pc := 20) (v := 6) hC dX3_remember_20 rfl ?_
    refine GR_icmp_ge (pc := 22) (tgt := 34) hC dX3_remember_22 (by decide) ?_ ?_
    · refine GR_iconst (pc := 34) (v := 0) hC dX3_remember_34 rfl ?_
      exact GR.less (lfJ_X3_remember_35 hC hf ho1 hr _ _) (g_le_at (And.intro rfl trivial))
    · refine GR_aload_n (pc := 25) hC dX3_remember_25 rfl rfl ?_
      refine GR_getI (pc := 26) hC F_RX3_18 (sh_42 hf) rfl dX3_remember_26 ?_
      refine GR_iconst (pc := 29) (v := 1) hC dX3_remember_29 rfl ?_
      refine GR_iadd (pc := 30) hC dX3_remember_30 ?_
      refine GR_goto (pc := 31) (tgt := 35) hC dX3_remember_31 (by decide) ?_
      exact GR.less (lfJ_X3_remember_35 hC hf ho1 hr _ _) (g_le_at (And.intro rfl trivial))
  refine GR_aaldC (pc := 8) (q := 2) (r := 74) hC (sh_43 hf) dX3_remember_8 rfl (by decide) ?_ ?_
  · refine GR_aload_n (pc := 9) hC dX3_remember_9 rfl rfl ?_
    refine GR_callVV (pc := 10) (As := [gr P o1]) hC (k_X9_copyFrom hf (g_S_74 hf) ho1) MY_X9_copyFrom MI_X9_copyFrom ML_RX3_22 (sh_74 hf) rfl rfl ⟨rfl, rfl⟩ ⟨by decide, by decide⟩ ⟨by decide, by decide⟩ rfl rfl (Nat.le_of_ble_eq_true rfl) dX3_remember_10 (fun g8 _ => ?_)
    refine GR_aload_n (pc := 13) hC dX3_remember_13 rfl rfl ?_
    refine GR_aload_n (pc := 14) hC dX3_remember_14 rfl rfl ?_
    refine GR_getI (pc := 15) hC F_RX3_18 (sh_42 hf) rfl dX3_remember_15 ?_
    refine GR_iconst (pc := 18) (v := 1) hC dX3_remember_18 rfl ?_
    refine GR_iadd (pc := 19) hC dX3_remember_19 ?_
    refine GR_bipush (pc := 20) (v := 6) hC dX3_remember_20 rfl ?_
    refine GR_icmp_ge (pc := 22) (tgt := 34) hC dX3_remember_22 (by decide) ?_ ?_
    · refine GR_iconst (pc := 34) (v := 0) hC dX3_remember_34 rfl ?_
      exact GR.less (lfJ_X3_remember_35 hC hf ho1 hr _ _) (g_le_at (And.intro rfl trivial))
    · refine GR_aload_n (pc := 25) hC dX3_remember_25 rfl rfl ?_
      refine GR_getI (pc := 26) hC F_RX3_18 (sh_42 hf) rfl dX3_remember_26 ?_
      refine GR_iconst (pc := 29) (v := 1) hC dX3_remember_29 rfl ?_
      refine GR_iadd (pc := 30) hC dX3_remember_30 ?_
      refine GR_goto (pc := 31) (tgt := 35) hC dX3_remember_31 (by decide) ?_
      exact GR.less (lfJ_X3_remember_35 hC hf ho1 hr _ _) (g_le_at (And.intro rfl trivial))
  refine GR_aaldC (pc := 8) (q := 3) (r := 89) hC (sh_43 hf) dX3_remember_8 rfl (by decide) ?_ ?_
  · refine GR_aload_n (pc := 9) hC dX3_remember_9 rfl rfl ?_
    refine GR_callVV (pc := 10) (As := [gr P o1]) hC (k_X9_copyFrom hf (g_S_89 hf) ho1) MY_X9_copyFrom MI_X9_copyFrom ML_RX3_22 (sh_89 hf) rfl rfl ⟨rfl, rfl⟩ ⟨by decide, by decide⟩ ⟨by decide, by decide⟩ rfl rfl (Nat.le_of_ble_eq_true rfl) dX3_remember_10 (fun g10 _ => ?_)
    refine GR_aload_n (pc := 13) hC dX3_remember_13 rfl rfl ?_
    refine GR_aload_n (pc := 14) hC dX3_remember_14 rfl rfl ?_
    refine GR_getI (pc := 15) hC F_RX3_18 (sh_42 hf) rfl dX3_remember_15 ?_
    refine GR_iconst (pc := 18) (v := 1) hC dX3_remember_18 rfl ?_
    refine GR_iadd (pc := 19) hC dX3_remember_19 ?_
    refine GR_bipush (pc := 20) (v := 6) hC dX3_remember_20 rfl ?_
    refine GR_icmp_ge (pc := 22) (tgt := 34) hC dX3_remember_22 (by decide) ?_ ?_
    · refine GR_iconst (pc := 34) (v := 0) hC dX3_remember_34 rfl ?_
      exact GR.less (lfJ_X3_remember_35 hC hf ho1 hr _ _) (g_le_at (And.intro rfl trivial))
    · refine GR_aload_n (pc := 25) hC dX3_remember_25 rfl rfl ?_
      refine GR_getI (pc := 26) hC F_RX3_18 (sh_42 hf) rfl dX3_remember_26 ?_
      refine GR_iconst (pc := 29) (v := 1) hC dX3_remember_29 rfl ?_
      refine GR_iadd (pc := 30) hC dX3_remember_30 ?_
      refine GR_goto (pc := 31) (tgt := 35) hC dX3_remember_31 (by decide) ?_
      exact GR.less (lfJ_X3_remember_35 hC hf ho1 hr _ _) (g_le_at (And.intro rfl trivial))
  refine GR_aaldC (pc := 8) (q := 4) (r := 104) hC (sh_43 hf) dX3_remember_8 rfl (by decide) ?_ ?_
  · refine GR_aload_n (pc := 9) hC dX3_remember_9 rfl rfl ?_
    refine GR_callVV (pc := 10) (As := [gr P o1]) hC (k_X9_copyFrom hf (g_S_104 hf) ho1) MY_X9_copyFrom MI_X9_copyFrom ML_RX3_22 (sh_104 hf) rfl rfl ⟨rfl, rfl⟩ ⟨by decide, by decide⟩ ⟨by decide, by decide⟩ rfl rfl (Nat.le_of_ble_eq_true rfl) dX3_remember_10 (fun g12 _ => ?_)
    refine GR_aload_n (pc := 13) hC dX3_remember_13 rfl rfl ?_
    refine GR_aload_n (pc := 14) hC dX3_remember_14 rfl rfl ?_
    refine GR_getI (pc := 15) hC F_RX3_18 (sh_42 hf) rfl dX3_remember_15 ?_
    refine GR_iconst (pc := 18) (v := 1) hC dX3_remember_18 rfl ?_
    refine GR_iadd (pc := 19) hC dX3_remember_19 ?_
    refine GR_bipush (pc := 20) (v := 6) hC dX3_remember_20 rfl ?_
    refine GR_icmp_ge (pc := 22) (tgt := 34) hC dX3_remember_22 (by decide) ?_ ?_
    · refine GR_iconst (pc := 34) (v := 0) hC dX3_remember_34 rfl ?_
      exact GR.less (lfJ_X3_remember_35 hC hf ho1 hr _ _) (g_le_at (And.intro rfl trivial))
    · refine GR_aload_n (pc := 25) hC dX3_remember_25 rfl rfl ?_
      refine GR_getI (pc := 26) hC F_RX3_18 (sh_42 hf) rfl dX3_remember_26 ?_
      refine GR_iconst (pc := 29) (v := 1) hC dX3_remember_29 rfl ?_
      refine GR_iadd (pc := 30) hC dX3_remember_30 ?_
      refine GR_goto (pc := 31) (tgt := 35) hC dX3_remember_31 (by decide) ?_
      exact GR.less (lfJ_X3_remember_35 hC hf ho1 hr _ _) (g_le_at (And.intro rfl trivial))
  refine GR_aaldC (pc := 8) (q := 5) (r := 119) hC (sh_43 hf) dX3_remember_8 rfl (by decide) ?_ ?_
  · refine GR_aload_n (pc := 9) hC dX3_remember_9 rfl rfl ?_
    refine GR_callVV (pc := 10) (As := [gr P o1]) hC (k_X9_copyFrom hf (g_S_119 hf) ho1) MY_X9_copyFrom MI_X9_copyFrom ML_RX3_22 (sh_119 hf) rfl rfl ⟨rfl, rfl⟩ ⟨by decide, by decide⟩ ⟨by decide, by decide⟩ rfl rfl (Nat.le_of_ble_eq_true rfl) dX3_remember_10 (fun g14 _ => ?_)
    refine GR_aload_n (pc := 13) hC dX3_remember_13 rfl rfl ?_
    refine GR_aload_n (pc := 14) hC dX3_remember_14 rfl rfl ?_
    refine GR_getI (pc := 15) hC F_RX3_18 (sh_42 hf) rfl dX3_remember_15 ?_
    refine GR_iconst (pc := 18) (v := 1) hC dX3_remember_18 rfl ?_
    refine GR_iadd (pc := 19) hC dX3_remember_19 ?_
    refine GR_bipush (pc := 20) (v := 6) hC dX3_remember_20 rfl ?_
    refine GR_icmp_ge (pc := 22) (tgt := 34) hC dX3_remember_22 (by decide) ?_ ?_
    · refine GR_iconst (pc := 34) (v := 0) hC dX3_remember_34 rfl ?_
      exact GR.less (lfJ_X3_remember_35 hC hf ho1 hr _ _) (g_le_at (And.intro rfl trivial))
    · refine GR_aload_n (pc := 25) hC dX3_remember_25 rfl rfl ?_
      refine GR_getI (pc := 26) hC F_RX3_18 (sh_42 hf) rfl dX3_remember_26 ?_
      refine GR_iconst (pc := 29) (v := 1) hC dX3_remember_29 rfl ?_
      refine GR_iadd (pc := 30) hC dX3_remember_30 ?_
      refine GR_goto (pc := 31) (tgt := 35) hC dX3_remember_31 (by decide) ?_
      exact GR.less (lfJ_X3_remember_35 hC hf ho1 hr _ _) (g_le_at (And.intro rfl trivial))
  exact GR.none
set_option maxRecDepth 20000 in
set_option maxHeartbeats 1000000 in
theorem k_X4_put {P : GP} {p1 : Int32}{g : GM} (hf : g_on P 166) : KV P yX4_put cX4_put 2 ⟨0, 0, 0, 0⟩ [gr P 2, .int p1] g (f_X4_put g p1) := by
  refine KV.ofW (by decide) rfl (Nat.le_of_ble_eq_true rfl) (fun X x hC hr => ?_)
  unfold f_X4_put
  change GR P X (g_QV P X x) 0 0 _ 0 [some (gr P 2), some (.int p1)] [] g x
  refine GR_aload_n (pc := 0) hC dX4_put_0 rfl rfl ?_
  refine GR_getI (pc := 1) hC F_RX4_29 (sh_2 hf) rfl dX4_put_1 ?_
  refine GR_sipush (pc := 4) (v := 600) hC dX4_put_4 rfl ?_
  refine GR_icmp_ge (pc := 7) (tgt := 31) hC dX4_put_7 (by decide) ?_ ?_
  · exact GR_vret (pc := 31) hC hr dX4_put_31
  · refine GR_aload_n (pc := 10) hC dX4_put_10 rfl rfl ?_
    refine GR_getR (pc := 11) (r := 3) hC F_RX4_9 (sh_2 hf) rfl dX4_put_11 ?_
    refine GR_aload_n (pc := 14) hC dX4_put_14 rfl rfl ?_
    refine GR_getI (pc := 15) hC F_RX4_29 (sh_2 hf) rfl dX4_put_15 ?_
    refine GR_iload_n (pc := 18) hC dX4_put_18 rfl rfl ?_
    refine GR_i2b (pc := 19) hC dX4_put_19 rfl ?_
    refine GR_bast (pc := 20) hC (sh_3 hf) dX4_put_20 (fun g1 _ => ?_)
    refine GR_aload_n (pc := 21) hC dX4_put_21 rfl rfl ?_
    refine GR_dup (pc := 22) hC dX4_put_22 rfl ?_
    refine GR_getI (pc := 23) hC F_RX4_29 (sh_2 hf) rfl dX4_put_23 ?_
    refine GR_iconst (pc := 26) (v := 1) hC dX4_put_26 rfl ?_
    refine GR_iadd (pc := 27) hC dX4_put_27 ?_
    refine GR_putI (pc := 28) hC FW_RX4_29 (sh_2 hf) rfl dX4_put_28 (fun g2 _ => ?_)
    exact GR_vret (pc := 31) hC hr dX4_put_31
set_option maxRecDepth 20000 in
set_option maxHeartbeats 1000000 in
theorem lfL_X4_putText_2 {P : GP} {X : GX} {w1 : Nat} {x : GE} (hC : GC P X RX4 cX4_putText 3 ⟨4, 0, 0, 110⟩) (hf : g_on P 166) (hw1 : w1 < 10) (hr : X.2.2.2.2.2.2.2.2.1.sig.returnType = none) {kb : GM → Option (GM)} (hkb : ∀ (g : GM), GR P X (g_QV P X x) 0 0 (kb g) 25 [none, none, none] [] g x) : ∀ (n : Nat) (g : GM) (x2 : Int32), GR P X (g_QV P X x) 0 0 (fL_X4_putText_2 w1 kb n g x2) 2 [some (gr P 2), some (gsr P w1), some (.int x2)] [] g x := by
  intro n
  induction n with
  | zero => intros; exact GR.none
  | succ n ih =>
    intro g x2
    rw [fL_X4_putText_2]
    refine GR_iload_n (pc := 2) hC dX4_putText_2 rfl rfl ?_
    refine GR_aload_n (pc := 3) hC dX4_putText_3 rfl rfl ?_
    refine GR_slen (pc := 4) hC hw1 ML_RX4_15 (by decide) (Nat.le_of_ble_eq_true rfl) dX4_putText_4 (fun v1 => ?_)
    refine GR_icmp_ge (pc := 7) (tgt := 25) hC dX4_putText_7 (by decide) ?_ ?_
    · exact GR.less (hkb _) (g_le_at trivial)
    · refine GR_aload_n (pc := 10) hC dX4_putText_10 rfl rfl ?_
      refine GR_aload_n (pc := 11) hC dX4_putText_11 rfl rfl ?_
      refine GR_iload_n (pc := 12) hC dX4_putText_12 rfl rfl ?_
      refine GR_schar (pc := 13) hC hw1 ML_RX4_21 (by decide) (Nat.le_of_ble_eq_true rfl) dX4_putText_13 (fun v2 => ?_)
      refine GR_callVV (pc := 16) (As := [.int v2]) hC (k_X4_put hf) MY_X4_put MI_X4_put ML_RX4_25 (sh_2 hf) rfl rfl ⟨rfl, rfl⟩ ⟨by decide, by decide⟩ ⟨by decide, by decide⟩ rfl rfl (Nat.le_of_ble_eq_true rfl) dX4_putText_16 (fun g4 _ => ?_)
      refine GR_iinc (pc := 19) (w := 1) (L' := [some (gr P 2), some (gsr P w1), some (.int (x2 + 1))]) hC dX4_putText_19 rfl rfl (by decide) rfl rfl ?_
      refine GR_goto (pc := 22) (tgt := 2) hC dX4_putText_22 (by decide) ?_
      exact GR.less (ih _ _) (g_le_at (And.intro rfl (And.intro rfl (And.intro rfl trivial))))
set_option maxRecDepth 20000 in
set_option maxHeartbeats 1000000 in
theorem k_X4_putText {P : GP} {w1 : Nat}{g : GM} (hf : g_on P 166) (hw1 : w1 < 10) : KV P yX4_putText cX4_putText 3 ⟨4, 0, 0, 110⟩ [gr P 2, gsr P w1] g (f_X4_putText g w1) := by
  refine KV.ofW (by decide) rfl (Nat.le_of_ble_eq_true rfl) (fun X x hC hr => ?_)
  unfold f_X4_putText
  change GR P X (g_QV P X x) 0 0 _ 0 [some (gr P 2), some (gsr P w1), none] [] g x
  refine GR_iconst (pc := 0) (v := 0) hC dX4_putText_0 rfl ?_
  refine GR_istore_n (pc := 1) (L' := [some (gr P 2), some (gsr P w1), some (.int 0)]) hC dX4_putText_1 rfl (by decide) rfl rfl ?_
  refine GR.less (lfL_X4_putText_2 hC hf hw1 hr ?_ fu _ _) (g_le_at (And.intro rfl (And.intro rfl (And.intro rfl trivial))))
  intro g
  exact GR_vret (pc := 25) hC hr dX4_putText_25
set_option maxRecDepth 20000 in
set_option maxHeartbeats 1000000 in
theorem k_X4_putFourBytes {P : GP} {p1 : Int32}{g : GM} (hf : g_on P 166) : KV P yX4_putFourBytes cX4_putFourBytes 2 ⟨1, 0, 0, 21⟩ [gr P 2, .int p1] g (f_X4_putFourBytes g p1) := by
  refine KV.ofW (by decide) rfl (Nat.le_of_ble_eq_true rfl) (fun X x hC hr => ?_)
  unfold f_X4_putFourBytes
  change GR P X (g_QV P X x) 0 0 _ 0 [some (gr P 2), some (.int p1)] [] g x
  refine GR_aload_n (pc := 0) hC dX4_putFourBytes_0 rfl rfl ?_
  refine GR_iload_n (pc := 1) hC dX4_putFourBytes_1 rfl rfl ?_
  refine GR_bipush (pc := 2) (v := 24) hC dX4_putFourBytes_2 rfl ?_
  refine GR_ishr (pc := 4) hC dX4_putFourBytes_4 ?_
  refine GR_callVV (pc := 5) (As := [.int (p1 >>> (24 &&& 31))]) hC (k_X4_put hf) MY_X4_put MI_X4_put ML_RX4_25 (sh_2 hf) rfl rfl ⟨rfl, rfl⟩ ⟨by decide, by decide⟩ ⟨by decide, by decide⟩ rfl rfl (Nat.le_of_ble_eq_true rfl) dX4_putFourBytes_5 (fun g2 _ => ?_)
  refine GR_aload_n (pc := 8) hC dX4_putFourBytes_8 rfl rfl ?_
  refine GR_iload_n (pc := 9) hC dX4_putFourBytes_9 rfl rfl ?_
  refine GR_bipush (pc := 10) (v := 16) hC dX4_putFourBytes_10 rfl ?_
  refine GR_ishr (pc := 12) hC dX4_putFourBytes_12 ?_
  refine GR_callVV (pc := 13) (As := [.int (p1 >>> (16 &&& 31))]) hC (k_X4_put hf) MY_X4_put MI_X4_put ML_RX4_25 (sh_2 hf) rfl rfl ⟨rfl, rfl⟩ ⟨by decide, by decide⟩ ⟨by decide, by decide⟩ rfl rfl (Nat.le_of_ble_eq_true rfl) dX4_putFourBytes_13 (fun g4 _ => ?_)
  refine GR_aload_n (pc := 16) hC dX4_putFourBytes_16 rfl rfl ?_
  refine GR_iload_n (pc := 17) hC dX4_putFourBytes_17 rfl rfl ?_
  refine GR_bipush (pc := 18) (v := 8) hC dX4_putFourBytes_18 rfl ?_
  refine GR_ishr (pc := 20) hC dX4_putFourBytes_20 ?_
  refine GR_callVV (pc := 21) (As := [.int (p1 >>> (8 &&& 31))]) hC (k_X4_put hf) MY_X4_put MI_X4_put ML_RX4_25 (sh_2 hf) rfl rfl ⟨rfl, rfl⟩ ⟨by decide, by decide⟩ ⟨by decide, by decide⟩ rfl rfl (Nat.le_of_ble_eq_true rfl) dX4_putFourBytes_21 (fun g6 _ => ?_)
  refine GR_aload_n (pc := 24) hC dX4_putFourBytes_24 rfl rfl ?_
  refine GR_iload_n (pc := 25) hC dX4_putFourBytes_25 rfl rfl ?_
  refine GR_callVV (pc := 26) (As := [.int p1]) hC (k_X4_put hf) MY_X4_put MI_X4_put ML_RX4_25 (sh_2 hf) rfl rfl ⟨rfl, rfl⟩ ⟨by decide, by decide⟩ ⟨by decide, by decide⟩ rfl rfl (Nat.le_of_ble_eq_true rfl) dX4_putFourBytes_26 (fun g8 _ => ?_)
  exact GR_vret (pc := 29) hC hr dX4_putFourBytes_29
set_option maxRecDepth 20000 in
set_option maxHeartbeats 1000000 in
theorem k_X4_isSeparator {P : GP} {p0 : Int32}{g : GM} (hf : g_on P 166) : KI P yX4_isSeparator cX4_isSeparator 1 (some .boolean) ⟨0, 0, 0, 0⟩ [.int p0] g ((f_X4_isSeparator g p0).map (fun r => (g, r))) := by
  refine KI.ofWP (by decide) rfl (Nat.le_of_ble_eq_true rfl) (fun X x hC hr => ?_)
  unfold f_X4_isSeparator
  change GR P X (g_QP P X g x) 0 0 _ 0 [some (.int p0)] [] g x
  refine GR_iload_n (pc := 0) hC dX4_isSeparator_0 rfl rfl ?_
  refine GR_bipush (pc := 1) (v := 32) hC dX4_isSeparator_1 rfl ?_
  refine GR_icmp_eq (pc := 3) (tgt := 12) hC dX4_isSeparator_3 (by decide) ?_ ?_
  · refine GR_iconst (pc := 12) (v := 1) hC dX4_isSeparator_12 rfl ?_
    refine GR_goto (pc := 13) (tgt := 17) hC dX4_isSeparator_13 (by decide) ?_
    exact GR_zretCP (pc := 17) hC (Or.inr rfl) hr dX4_isSeparator_17
  · refine GR_iload_n (pc := 6) hC dX4_isSeparator_6 rfl rfl ?_
    refine GR_bipush (pc := 7) (v := 10) hC dX4_isSeparator_7 rfl ?_
    refine GR_icmp_ne (pc := 9) (tgt := 16) hC dX4_isSeparator_9 (by decide) ?_ ?_
    · refine GR_iconst (pc := 16) (v := 0) hC dX4_isSeparator_16 rfl ?_
      exact GR_zretCP (pc := 17) hC (Or.inl rfl) hr dX4_isSeparator_17
    · refine GR_iconst (pc := 12) (v := 1) hC dX4_isSeparator_12 rfl ?_
      refine GR_goto (pc := 13) (tgt := 17) hC dX4_isSeparator_13 (by decide) ?_
      exact GR_zretCP (pc := 17) hC (Or.inr rfl) hr dX4_isSeparator_17
set_option maxRecDepth 20000 in
set_option maxHeartbeats 1000000 in
theorem k_X4_isLetter {P : GP} {p0 : Int32}{g : GM} (hf : g_on P 166) : KI P yX4_isLetter cX4_isLetter 1 (some .boolean) ⟨0, 0, 0, 0⟩ [.int p0] g ((f_X4_isLetter g p0).map (fun r => (g, r))) := by
  refine KI.ofWP (by decide) rfl (Nat.le_of_ble_eq_true rfl) (fun X x hC hr => ?_)
  unfold f_X4_isLetter
  change GR P X (g_QP P X g x) 0 0 _ 0 [some (.int p0)] [] g x
  refine GR_iload_n (pc := 0) hC dX4_isLetter_0 rfl rfl ?_
  refine GR_bipush (pc := 1) (v := 97) hC dX4_isLetter_1 rfl ?_
  refine GR_icmp_lt (pc := 3) (tgt := 16) hC dX4_isLetter_3 (by decide) ?_ ?_
  · refine GR_iconst (pc := 16) (v := 0) hC dX4_isLetter_16 rfl ?_
    exact GR_zretCP (pc := 17) hC (Or.inl rfl) hr dX4_isLetter_17
  · refine GR_iload_n (pc := 6) hC dX4_isLetter_6 rfl rfl ?_
    refine GR_bipush (pc := 7) (v := 122) hC dX4_isLetter_7 rfl ?_
    refine GR_icmp_gt (pc := 9) (tgt := 16) hC dX4_isLetter_9 (by decide) ?_ ?_
    · refine GR_iconst (pc := 16) (v := 0) hC dX4_isLetter_16 rfl ?_
      exact GR_zretCP (pc := 17) hC (Or.inl rfl) hr dX4_isLetter_17
    · refine GR_iconst (pc := 12) (v := 1) hC dX4_isLetter_12 rfl ?_
      refine GR_goto (pc := 13) (tgt := 17) hC dX4_isLetter_13 (by decide) ?_
      exact GR_zretCP (pc := 17) hC (Or.inr rfl) hr dX4_isLetter_17
set_option maxRecDepth 20000 in
set_option maxHeartbeats 1000000 in
theorem k_X4_isDigit {P : GP} {p0 : Int32}{g : GM} (hf : g_on P 166) : KI P yX4_isDigit cX4_isDigit 1 (some .boolean) ⟨0, 0, 0, 0⟩ [.int p0] g ((f_X4_isDigit g p0).map (fun r => (g, r))) := by
  refine KI.ofWP (by decide) rfl (Nat.le_of_ble_eq_true rfl) (fun X x hC hr => ?_)
  unfold f_X4_isDigit
  change GR P X (g_QP P X g x) 0 0 _ 0 [some (.int p0)] [] g x
  refine GR_iload_n (pc := 0) hC dX4_isDigit_0 rfl rfl ?_
  refine GR_bipush (pc := 1) (v := 48) hC dX4_isDigit_1 rfl ?_
  refine GR_icmp_lt (pc := 3) (tgt := 16) hC dX4_isDigit_3 (by decide) ?_ ?_
  · refine GR_iconst (pc := 16) (v := 0) hC dX4_isDigit_16 rfl ?_
    exact GR_zretCP (pc := 17) hC (Or.inl rfl) hr dX4_isDigit_17
  · refine GR_iload_n (pc := 6) hC dX4_isDigit_6 rfl rfl ?_
    refine GR_bipush (pc := 7) (v := 57) hC dX4_isDigit_7 rfl ?_
    refine GR_icmp_gt (pc := 9) (tgt := 16) hC dX4_isDigit_9 (by decide) ?_ ?_
    · refine GR_iconst (pc := 16) (v := 0) hC dX4_isDigit_16 rfl ?_
      exact GR_zretCP (pc := 17) hC (Or.inl rfl) hr dX4_isDigit_17
    · refine GR_iconst (pc := 12) (v := 1) hC dX4_isDigit_12 rfl ?_
      refine GR_goto (pc := 13) (tgt := 17) hC dX4_isDigit_13 (by decide) ?_
      exact GR_zretCP (pc := 17) hC (Or.inr rfl) hr dX4_isDigit_17
set_option maxRecDepth 20000 in
set_option maxHeartbeats 1000000 in
theorem lfJ_X4_readSign_37 {P : GP} {X : GX} {x : GE} (hC : GC P X RX4 cX4_readSign 1 ⟨0, 0, 0, 0⟩) (hf : g_on P 166) (hr : X.2.2.2.2.2.2.2.2.1.sig.returnType = none) (g : GM) (t0 : Int32) : GR P X (g_QV P X x) 0 0 (fJ_X4_readSign_37 g t0) 37 [some (gr P 2)] [.int t0, gr P 2] g x := by
  unfold fJ_X4_readSign_37
  refine GR_putI (pc := 37) hC FW_RX4_48 (sh_2 hf) rfl dX4_readSign_37 (fun g2 _ => ?_)
  refine GR_aload_n (pc := 40) hC dX4_readSign_40 rfl rfl ?_
  refine GR_aload_n (pc := 41) hC dX4_readSign_41 rfl rfl ?_
  refine GR_getI (pc := 42) hC F_RX4_38 (sh_2 hf) rfl dX4_readSign_42 ?_
  refine GR_iconst (pc := 45) (v := 1) hC dX4_readSign_45 rfl ?_
  refine GR_iadd (pc := 46) hC dX4_readSign_46 ?_
  refine GR_putI (pc := 47) hC FW_RX4_32 (sh_2 hf) rfl dX4_readSign_47 (fun g3 _ => ?_)
  exact GR_vret (pc := 50) hC hr dX4_readSign_50
set_option maxRecDepth 20000 in
set_option maxHeartbeats 1000000 in
theorem k_X4_readSign {P : GP}{g : GM} (hf : g_on P 166) : KV P yX4_readSign cX4_readSign 1 ⟨0, 0, 0, 0⟩ [gr P 2] g (f_X4_readSign g) := by
  refine KV.ofW (by decide) rfl (Nat.le_of_ble_eq_true rfl) (fun X x hC hr => ?_)
  unfold f_X4_readSign
  change GR P X (g_QV P X x) 0 0 _ 0 [some (gr P 2)] [] g x
  refine GR_aload_n (pc := 0) hC dX4_readSign_0 rfl rfl ?_
  refine GR_getI (pc := 1) hC F_RX4_38 (sh_2 hf) rfl dX4_readSign_1 ?_
  refine GR_aload_n (pc := 4) hC dX4_readSign_4 rfl rfl ?_
  refine GR_getI (pc := 5) hC F_RX4_29 (sh_2 hf) rfl dX4_readSign_5 ?_
  refine GR_icmp_lt (pc := 8) (tgt := 17) hC dX4_readSign_8 (by decide) ?_ ?_
  · refine GR_aload_n (pc := 17) hC dX4_readSign_17 rfl rfl ?_
    refine GR_aload_n (pc := 18) hC dX4_readSign_18 rfl rfl ?_
    refine GR_getR (pc := 19) (r := 3) hC F_RX4_9 (sh_2 hf) rfl dX4_readSign_19 ?_
    refine GR_aload_n (pc := 22) hC dX4_readSign_22 rfl rfl ?_
    refine GR_getI (pc := 23) hC F_RX4_38 (sh_2 hf) rfl dX4_readSign_23 ?_
    refine GR_bald (pc := 26) hC (sh_3 hf) dX4_readSign_26 (fun v1 _ => ?_)
    refine GR_bipush (pc := 27) (v := 59) hC dX4_readSign_27 rfl ?_
    refine GR_icmp_ne (pc := 29) (tgt := 36) hC dX4_readSign_29 (by decide) ?_ ?_
    · refine GR_iconst (pc := 36) (v := 4) hC dX4_readSign_36 rfl ?_
      exact GR.less (lfJ_X4_readSign_37 hC hf hr _ _) (g_le_at (And.intro rfl trivial))
    · refine GR_iconst (pc := 32) (v := 3) hC dX4_readSign_32 rfl ?_
      refine GR_goto (pc := 33) (tgt := 37) hC dX4_readSign_33 (by decide) ?_
      exact GR.less (lfJ_X4_readSign_37 hC hf hr _ _) (g_le_at (And.intro rfl trivial))
  · refine GR_aload_n (pc := 11) hC dX4_readSign_11 rfl rfl ?_
    refine GR_iconst (pc := 12) (v := 0) hC dX4_readSign_12 rfl ?_
    refine GR_putI (pc := 13) hC FW_RX4_48 (sh_2 hf) rfl dX4_readSign_13 (fun g4 _ => ?_)
    exact GR_vret (pc := 16) hC hr dX4_readSign_16
set_option maxRecDepth 20000 in
set_option maxHeartbeats 1000000 in
theorem lfL_X4_readNext_8 {P : GP} {X : GX} {x : GE} (hC : GC P X RX4 cX4_readNext 1 ⟨1, 0, 0, 20⟩) (hf : g_on P 166) (hr : X.2.2.2.2.2.2.2.2.1.sig.returnType = none) {kb : GM → Option (GM)} (hkb : ∀ (g : GM), GR P X (g_QV P X x) 0 0 (kb g) 47 [some (gr P 2)] [] g x) : ∀ (n : Nat) (g : GM), GR P X (g_QV P X x) 0 0 (fL_X4_readNext_8 kb n g) 8 [some (gr P 2)] [] g x := by
  intro n
  induction n with
  | zero => intros; exact GR.none
  | succ n ih =>
    intro g
    rw [fL_X4_readNext_8]
    refine GR_aload_n (pc := 8) hC dX4_readNext_8 rfl rfl ?_
    refine GR_getI (pc := 9) hC F_RX4_38 (sh_2 hf) rfl dX4_readNext_9 ?_
    refine GR_aload_n (pc := 12) hC dX4_readNext_12 rfl rfl ?_
    refine GR_getI (pc := 13) hC F_RX4_29 (sh_2 hf) rfl dX4_readNext_13 ?_
    refine GR_icmp_ge (pc := 16) (tgt := 47) hC dX4_readNext_16 (by decide) ?_ ?_
    · exact GR.less (hkb _) (g_le_at (And.intro rfl trivial))
    · refine GR_aload_n (pc := 19) hC dX4_readNext_19 rfl rfl ?_
      refine GR_getR (pc := 20) (r := 3) hC F_RX4_9 (sh_2 hf) rfl dX4_readNext_20 ?_
      refine GR_aload_n (pc := 23) hC dX4_readNext_23 rfl rfl ?_
      refine GR_getI (pc := 24) hC F_RX4_38 (sh_2 hf) rfl dX4_readNext_24 ?_
      refine GR_bald (pc := 27) hC (sh_3 hf) dX4_readNext_27 (fun v2 _ => ?_)
      refine GR_callSP (pc := 28) (As := [.int v2]) hC (k_X4_isSeparator hf) MY_X4_isSeparator MS_X4_isSeparator ML_RX4_41 ⟨rfl, rfl⟩ ⟨by decide, by decide⟩ ⟨by decide, by decide⟩ rfl rfl (Nat.le_of_ble_eq_true rfl) dX4_readNext_28 (fun v3 _ => ?_)
      refine GR_if_eq (pc := 31) (tgt := 47) hC dX4_readNext_31 (by decide) ?_ ?_
      · exact GR.less (hkb _) (g_le_at (And.intro rfl trivial))
      · refine GR_aload_n (pc := 34) hC dX4_readNext_34 rfl rfl ?_
        refine GR_dup (pc := 35) hC dX4_readNext_35 rfl ?_
        refine GR_getI (pc := 36) hC F_RX4_38 (sh_2 hf) rfl dX4_readNext_36 ?_
        refine GR_iconst (pc := 39) (v := 1) hC dX4_readNext_39 rfl ?_
        refine GR_iadd (pc := 40) hC dX4_readNext_40 ?_
        refine GR_putI (pc := 41) hC FW_RX4_38 (sh_2 hf) rfl dX4_readNext_41 (fun g4 _ => ?_)
        refine GR_goto (pc := 44) (tgt := 8) hC dX4_readNext_44 (by decide) ?_
        exact GR.less (ih _) (g_le_at (And.intro rfl trivial))
set_option maxRecDepth 20000 in
set_option maxHeartbeats 1000000 in
theorem lfL_X4_readNext_55 {P : GP} {X : GX} {x : GE} (hC : GC P X RX4 cX4_readNext 1 ⟨1, 0, 0, 20⟩) (hf : g_on P 166) (hr : X.2.2.2.2.2.2.2.2.1.sig.returnType = none) {kb : GM → Option (GM)} (hkb : ∀ (g : GM), GR P X (g_QV P X x) 0 0 (kb g) 94 [some (gr P 2)] [] g x) : ∀ (n : Nat) (g : GM), GR P X (g_QV P X x) 0 0 (fL_X4_readNext_55 kb n g) 55 [some (gr P 2)] [] g x := by
  intro n
  induction n with
  | zero => intros; exact GR.none
  | succ n ih =>
    intro g
    rw [fL_X4_readNext_55]
    refine GR_aload_n (pc := 55) hC dX4_readNext_55 rfl rfl ?_
    refine GR_getI (pc := 56) hC F_RX4_32 (sh_2 hf) rfl dX4_readNext_56 ?_
    refine GR_aload_n (pc := 59) hC dX4_readNext_59 rfl rfl ?_
    refine GR_getI (pc := 60) hC F_RX4_29 (sh_2 hf) rfl dX4_readNext_60 ?_
    refine GR_icmp_ge (pc := 63) (tgt := 94) hC dX4_readNext_63 (by decide) ?_ ?_
    · exact GR.less (hkb _) (g_le_at (And.intro rfl trivial))
    · refine GR_aload_n (pc := 66) hC dX4_readNext_66 rfl rfl ?_
      refine GR_getR (pc := 67) (r := 3) hC F_RX4_9 (sh_2 hf) rfl dX4_readNext_67 ?_
      refine GR_aload_n (pc := 70) hC dX4_readNext_70 rfl rfl ?_
      refine GR_getI (pc := 71) hC F_RX4_32 (sh_2 hf) rfl dX4_readNext_71 ?_
      refine GR_bald (pc := 74) hC (sh_3 hf) dX4_readNext_74 (fun v6 _ => ?_)
      refine GR_callSP (pc := 75) (As := [.int v6]) hC (k_X4_isLetter hf) MY_X4_isLetter MS_X4_isLetter ML_RX4_45 ⟨rfl, rfl⟩ ⟨by decide, by decide⟩ ⟨by decide, by decide⟩ rfl rfl (Nat.le_of_ble_eq_true rfl) dX4_readNext_75 (fun v7 _ => ?_)
      refine GR_if_eq (pc := 78) (tgt := 94) hC dX4_readNext_78 (by decide) ?_ ?_
      · exact GR.less (hkb _) (g_le_at (And.intro rfl trivial))
      · refine GR_aload_n (pc := 81) hC dX4_readNext_81 rfl rfl ?_
        refine GR_dup (pc := 82) hC dX4_readNext_82 rfl ?_
        refine GR_getI (pc := 83) hC F_RX4_32 (sh_2 hf) rfl dX4_readNext_83 ?_
        refine GR_iconst (pc := 86) (v := 1) hC dX4_readNext_86 rfl ?_
        refine GR_iadd (pc := 87) hC dX4_readNext_87 ?_
        refine GR_putI (pc := 88) hC FW_RX4_32 (sh_2 hf) rfl dX4_readNext_88 (fun g8 _ => ?_)
        refine GR_goto (pc := 91) (tgt := 55) hC dX4_readNext_91 (by decide) ?_
        exact GR.less (ih _) (g_le_at (And.intro rfl trivial))
set_option maxRecDepth 20000 in
set_option maxHeartbeats 1000000 in
theorem lfL_X4_readNext_134 {P : GP} {X : GX} {x : GE} (hC : GC P X RX4 cX4_readNext 1 ⟨1, 0, 0, 20⟩) (hf : g_on P 166) (hr : X.2.2.2.2.2.2.2.2.1.sig.returnType = none) {kb : GM → Option (GM)} (hkb : ∀ (g : GM), GR P X (g_QV P X x) 0 0 (kb g) 197 [some (gr P 2)] [] g x) : ∀ (n : Nat) (g : GM), GR P X (g_QV P X x) 0 0 (fL_X4_readNext_134 kb n g) 134 [some (gr P 2)] [] g x := by
  intro n
  induction n with
  | zero => intros; exact GR.none
  | succ n ih =>
    intro g
    rw [fL_X4_readNext_134]
    refine GR_aload_n (pc := 134) hC dX4_readNext_134 rfl rfl ?_
    refine GR_getI (pc := 135) hC F_RX4_32 (sh_2 hf) rfl dX4_readNext_135 ?_
    refine GR_aload_n (pc := 138) hC dX4_readNext_138 rfl rfl ?_
    refine GR_getI (pc := 139) hC F_RX4_29 (sh_2 hf) rfl dX4_readNext_139 ?_
    refine GR_icmp_ge (pc := 142) (tgt := 197) hC dX4_readNext_142 (by decide) ?_ ?_
    · exact GR.less (hkb _) (g_le_at (And.intro rfl trivial))
    · refine GR_aload_n (pc := 145) hC dX4_readNext_145 rfl rfl ?_
      refine GR_getR (pc := 146) (r := 3) hC F_RX4_9 (sh_2 hf) rfl dX4_readNext_146 ?_
      refine GR_aload_n (pc := 149) hC dX4_readNext_149 rfl rfl ?_
      refine GR_getI (pc := 150) hC F_RX4_32 (sh_2 hf) rfl dX4_readNext_150 ?_
      refine GR_bald (pc := 153) hC (sh_3 hf) dX4_readNext_153 (fun v10 _ => ?_)
      refine GR_callSP (pc := 154) (As := [.int v10]) hC (k_X4_isDigit hf) MY_X4_isDigit MS_X4_isDigit ML_RX4_54 ⟨rfl, rfl⟩ ⟨by decide, by decide⟩ ⟨by decide, by decide⟩ rfl rfl (Nat.le_of_ble_eq_true rfl) dX4_readNext_154 (fun v11 _ => ?_)
      refine GR_if_eq (pc := 157) (tgt := 197) hC dX4_readNext_157 (by decide) ?_ ?_
      · exact GR.less (hkb _) (g_le_at (And.intro rfl trivial))
      · refine GR_aload_n (pc := 160) hC dX4_readNext_160 rfl rfl ?_
        refine GR_aload_n (pc := 161) hC dX4_readNext_161 rfl rfl ?_
        refine GR_getI (pc := 162) hC F_RX4_51 (sh_2 hf) rfl dX4_readNext_162 ?_
        refine GR_bipush (pc := 165) (v := 10) hC dX4_readNext_165 rfl ?_
        refine GR_imul (pc := 167) hC dX4_readNext_167 ?_
        refine GR_aload_n (pc := 168) hC dX4_readNext_168 rfl rfl ?_
        refine GR_getR (pc := 169) (r := 3) hC F_RX4_9 (sh_2 hf) rfl dX4_readNext_169 ?_
        refine GR_aload_n (pc := 172) hC dX4_readNext_172 rfl rfl ?_
        refine GR_getI (pc := 173) hC F_RX4_32 (sh_2 hf) rfl dX4_readNext_173 ?_
        refine GR_bald (pc := 176) hC (sh_3 hf) dX4_readNext_176 (fun v12 _ => ?_)
        refine GR_iadd (pc := 177) hC dX4_readNext_177 ?_
        refine GR_bipush (pc := 178) (v := 48) hC dX4_readNext_178 rfl ?_
        refine GR_isub (pc := 180) hC dX4_readNext_180 ?_
        refine GR_putI (pc := 181) hC FW_RX4_51 (sh_2 hf) rfl dX4_readNext_181 (fun g13 _ => ?_)
        refine GR_aload_n (pc := 184) hC dX4_readNext_184 rfl rfl ?_
        refine GR_dup (pc := 185) hC dX4_readNext_185 rfl ?_
        refine GR_getI (pc := 186) hC F_RX4_32 (sh_2 hf) rfl dX4_readNext_186 ?_
        refine GR_iconst (pc := 189) (v := 1) hC dX4_readNext_189 rfl ?_
        refine GR_iadd (pc := 190) hC dX4_readNext_190 ?_
        refine GR_putI (pc := 191) hC FW_RX4_32 (sh_2 hf) rfl dX4_readNext_191 (fun g14 _ => ?_)
        refine GR_goto (pc := 194) (tgt := 134) hC dX4_readNext_194 (by decide) ?_
        exact GR.less (ih _) (g_le_at (And.intro rfl trivial))
set_option maxRecDepth 20000 in
set_option maxHeartbeats 1000000 in
theorem lfJ_X4_readNext_197 {P : GP} {X : GX} {x : GE} (hC : GC P X RX4 cX4_readNext 1 ⟨1, 0, 0, 20⟩) (hf : g_on P 166) (hr : X.2.2.2.2.2.2.2.2.1.sig.returnType = none) (g : GM) : GR P X (g_QV P X x) 0 0 (fJ_X4_readNext_197 g) 197 [some (gr P 2)] [] g x := by
  unfold fJ_X4_readNext_197
  refine GR_aload_n (pc := 197) hC dX4_readNext_197 rfl rfl ?_
  refine GR_getI (pc := 198) hC F_RX4_32 (sh_2 hf) rfl dX4_readNext_198 ?_
  refine GR_aload_n (pc := 201) hC dX4_readNext_201 rfl rfl ?_
  refine GR_getI (pc := 202) hC F_RX4_38 (sh_2 hf) rfl dX4_readNext_202 ?_
  refine GR_icmp_le (pc := 205) (tgt := 231) hC dX4_readNext_205 (by decide) ?_ ?_
  · refine GR_aload_n (pc := 231) hC dX4_readNext_231 rfl rfl ?_
    refine GR_callVV (pc := 232) (As := []) hC (k_X4_readSign hf) MY_X4_readSign MI_X4_readSign ML_RX4_57 (sh_2 hf) rfl rfl ⟨rfl, rfl⟩ ⟨by decide, by decide⟩ ⟨by decide, by decide⟩ rfl rfl (Nat.le_of_ble_eq_true rfl) dX4_readNext_232 (fun g16 _ => ?_)
    exact GR_vret (pc := 235) hC hr dX4_readNext_235
  · refine GR_aload_n (pc := 208) hC dX4_readNext_208 rfl rfl ?_
    refine GR_aload_n (pc := 209) hC dX4_readNext_209 rfl rfl ?_
    refine GR_getI (pc := 210) hC F_RX4_32 (sh_2 hf) rfl dX4_readNext_210 ?_
    refine GR_aload_n (pc := 213) hC dX4_readNext_213 rfl rfl ?_
    refine GR_getI (pc := 214) hC F_RX4_38 (sh_2 hf) rfl dX4_readNext_214 ?_
    refine GR_isub (pc := 217) hC dX4_readNext_217 ?_
    refine GR_iconst (pc := 218) (v := 3) hC dX4_readNext_218 rfl ?_
    refine GR_icmp_gt (pc := 219) (tgt := 226) hC dX4_readNext_219 (by decide) ?_ ?_
    · refine GR_iconst (pc := 226) (v := 4) hC dX4_readNext_226 rfl ?_
      refine GR_putI (pc := 227) hC FW_RX4_48 (sh_2 hf) rfl dX4_readNext_227 (fun g17 _ => ?_)
      exact GR_vret (pc := 230) hC hr dX4_readNext_230
    · refine GR_iconst (pc := 222) (v := 2) hC dX4_readNext_222 rfl ?_
      refine GR_goto (pc := 223) (tgt := 227) hC dX4_readNext_223 (by decide) ?_
      refine GR_putI (pc := 227) hC FW_RX4_48 (sh_2 hf) rfl dX4_readNext_227 (fun g18 _ => ?_)
      exact GR_vret (pc := 230) hC hr dX4_readNext_230
set_option maxRecDepth 20000 in
set_option maxHeartbeats 1000000 in
theorem lfJ_X4_readNext_94 {P : GP} {X : GX} {x : GE} (hC : GC P X RX4 cX4_readNext 1 ⟨1, 0, 0, 20⟩) (hf : g_on P 166) (hr : X.2.2.2.2.2.2.2.2.1.sig.returnType = none) (g : GM) : GR P X (g_QV P X x) 0 0 (fJ_X4_readNext_94 g) 94 [some (gr P 2)] [] g x := by
  unfold fJ_X4_readNext_94
  refine GR_aload_n (pc := 94) hC dX4_readNext_94 rfl rfl ?_
  refine GR_getI (pc := 95) hC F_RX4_32 (sh_2 hf) rfl dX4_readNext_95 ?_
  refine GR_aload_n (pc := 98) hC dX4_readNext_98 rfl rfl ?_
  refine GR_getI (pc := 99) hC F_RX4_38 (sh_2 hf) rfl dX4_readNext_99 ?_
  refine GR_icmp_le (pc := 102) (tgt := 129) hC dX4_readNext_102 (by decide) ?_ ?_
  · refine GR_aload_n (pc := 129) hC dX4_readNext_129 rfl rfl ?_
    refine GR_iconst (pc := 130) (v := 0) hC dX4_readNext_130 rfl ?_
    refine GR_putI (pc := 131) hC FW_RX4_51 (sh_2 hf) rfl dX4_readNext_131 (fun g9 _ => ?_)
    refine GR.less (lfL_X4_readNext_134 hC hf hr ?_ fu _) (g_le_at (And.intro rfl trivial))
    intro g
    exact GR.less (lfJ_X4_readNext_197 hC hf hr _) (g_le_at (And.intro rfl trivial))
  · refine GR_aload_n (pc := 105) hC dX4_readNext_105 rfl rfl ?_
    refine GR_aload_n (pc := 106) hC dX4_readNext_106 rfl rfl ?_
    refine GR_getI (pc := 107) hC F_RX4_32 (sh_2 hf) rfl dX4_readNext_107 ?_
    refine GR_aload_n (pc := 110) hC dX4_readNext_110 rfl rfl ?_
    refine GR_getI (pc := 111) hC F_RX4_38 (sh_2 hf) rfl dX4_readNext_111 ?_
    refine GR_isub (pc := 114) hC dX4_readNext_114 ?_
    refine GR_bipush (pc := 115) (v := 8) hC dX4_readNext_115 rfl ?_
    refine GR_icmp_gt (pc := 117) (tgt := 124) hC dX4_readNext_117 (by decide) ?_ ?_
    · refine GR_iconst (pc := 124) (v := 4) hC dX4_readNext_124 rfl ?_
      refine GR_putI (pc := 125) hC FW_RX4_48 (sh_2 hf) rfl dX4_readNext_125 (fun g19 _ => ?_)
      exact GR_vret (pc := 128) hC hr dX4_readNext_128
    · refine GR_iconst (pc := 120) (v := 1) hC dX4_readNext_120 rfl ?_
      refine GR_goto (pc := 121) (tgt := 125) hC dX4_readNext_121 (by decide) ?_
      refine GR_putI (pc := 125) hC FW_RX4_48 (sh_2 hf) rfl dX4_readNext_125 (fun g20 _ => ?_)
      exact GR_vret (pc := 128) hC hr dX4_readNext_128
set_option maxRecDepth 20000 in
set_option maxHeartbeats 1000000 in
theorem lfJ_X4_readNext_47 {P : GP} {X : GX} {x : GE} (hC : GC P X RX4 cX4_readNext 1 ⟨1, 0, 0, 20⟩) (hf : g_on P 166) (hr : X.2.2.2.2.2.2.2.2.1.sig.returnType = none) (g : GM) : GR P X (g_QV P X x) 0 0 (fJ_X4_readNext_47 g) 47 [some (gr P 2)] [] g x := by
  unfold fJ_X4_readNext_47
  refine GR_aload_n (pc := 47) hC dX4_readNext_47 rfl rfl ?_
  refine GR_aload_n (pc := 48) hC dX4_readNext_48 rfl rfl ?_
  refine GR_getI (pc := 49) hC F_RX4_38 (sh_2 hf) rfl dX4_readNext_49 ?_
  refine GR_putI (pc := 52) hC FW_RX4_32 (sh_2 hf) rfl dX4_readNext_52 (fun g5 _ => ?_)
  refine GR.less (lfL_X4_readNext_55 hC hf hr ?_ fu _) (g_le_at (And.intro rfl trivial))
  intro g
  exact GR.less (lfJ_X4_readNext_94 hC hf hr _) (g_le_at (And.intro rfl trivial))
set_option maxRecDepth 20000 in
set_option maxHeartbeats 1000000 in
theorem k_X4_readNext {P : GP}{g : GM} (hf : g_on P 166) : KV P yX4_readNext cX4_readNext 1 ⟨1, 0, 0, 20⟩ [gr P 2] g (f_X4_readNext g) := by
  refine KV.ofW (by decide) rfl (Nat.le_of_ble_eq_true rfl) (fun X x hC hr => ?_)
  unfold f_X4_readNext
  change GR P X (g_QV P X x) 0 0 _ 0 [some (gr P 2)] [] g x
  refine GR_aload_n (pc := 0) hC dX4_readNext_0 rfl rfl ?_
  refine GR_aload_n (pc := 1) hC dX4_readNext_1 rfl rfl ?_
  refine GR_getI (pc := 2) hC F_RX4_32 (sh_2 hf) rfl dX4_readNext_2 ?_
  refine GR_putI (pc := 5) hC FW_RX4_38 (sh_2 hf) rfl dX4_readNext_5 (fun g1 _ => ?_)
  refine GR.less (lfL_X4_readNext_8 hC hf hr ?_ fu _) (g_le_at (And.intro rfl trivial))
  intro g
  exact GR.less (lfJ_X4_readNext_47 hC hf hr _) (g_le_at (And.intro rfl trivial))
set_option maxRecDepth 20000 in
set_option maxHeartbeats 1000000 in
theorem k_X4_readFirst {P : GP}{g : GM} (hf : g_on P 166) : KV P yX4_readFirst cX4_readFirst 1 ⟨2, 0, 0, 40⟩ [gr P 2] g (f_X4_readFirst g) := by
  refine KV.ofW (by decide) rfl (Nat.le_of_ble_eq_true rfl) (fun X x hC hr => ?_)
  unfold f_X4_readFirst
  change GR P X (g_QV P X x) 0 0 _ 0 [some (gr P 2)] [] g x
  refine GR_aload_n (pc := 0) hC dX4_readFirst_0 rfl rfl ?_
  refine GR_iconst (pc := 1) (v := 0) hC dX4_readFirst_1 rfl ?_
  refine GR_putI (pc := 2) hC FW_RX4_32 (sh_2 hf) rfl dX4_readFirst_2 (fun g1 _ => ?_)
  refine GR_aload_n (pc := 5) hC dX4_readFirst_5 rfl rfl ?_
  refine GR_callVV (pc := 6) (As := []) hC (k_X4_readNext hf) MY_X4_readNext MI_X4_readNext ML_RX4_35 (sh_2 hf) rfl rfl ⟨rfl, rfl⟩ ⟨by decide, by decide⟩ ⟨by decide, by decide⟩ rfl rfl (Nat.le_of_ble_eq_true rfl) dX4_readFirst_6 (fun g3 _ => ?_)
  exact GR_vret (pc := 9) hC hr dX4_readFirst_9
set_option maxRecDepth 20000 in
set_option maxHeartbeats 1000000 in
theorem lfL_X4_isWord_28 {P : GP} {X : GX} {g : GM} {w1 : Nat} {x : GE} (hC : GC P X RX4 cX4_isWord 3 ⟨4, 0, 0, 110⟩) (hf : g_on P 166) (hw1 : w1 < 10) (hr : X.2.2.2.2.2.2.2.2.1.sig.returnType = some .boolean) {kb : Option (Int32)} (hkb : GR P X (g_QP P X g x) 0 0 (kb) 63 [none, none, none] [] g x) : ∀ (n : Nat) (x2 : Int32), GR P X (g_QP P X g x) 0 0 (fL_X4_isWord_28 g w1 kb n x2) 28 [some (gr P 2), some (gsr P w1), some (.int x2)] [] g x := by
  intro n
  induction n with
  | zero => intros; exact GR.none
  | succ n ih =>
    intro x2
    rw [fL_X4_isWord_28]
    refine GR_iload_n (pc := 28) hC dX4_isWord_28 rfl rfl ?_
    refine GR_aload_n (pc := 29) hC dX4_isWord_29 rfl rfl ?_
    refine GR_slen (pc := 30) hC hw1 ML_RX4_15 (by decide) (Nat.le_of_ble_eq_true rfl) dX4_isWord_30 (fun v2 => ?_)
    refine GR_icmp_ge (pc := 33) (tgt := 63) hC dX4_isWord_33 (by decide) ?_ ?_
    · exact GR.less (hkb) (g_le_at trivial)
    · refine GR_aload_n (pc := 36) hC dX4_isWord_36 rfl rfl ?_
      refine GR_getR (pc := 37) (r := 3) hC F_RX4_9 (sh_2 hf) rfl dX4_isWord_37 ?_
      refine GR_aload_n (pc := 40) hC dX4_isWord_40 rfl rfl ?_
      refine GR_getI (pc := 41) hC F_RX4_38 (sh_2 hf) rfl dX4_isWord_41 ?_
      refine GR_iload_n (pc := 44) hC dX4_isWord_44 rfl rfl ?_
      refine GR_iadd (pc := 45) hC dX4_isWord_45 ?_
      refine GR_bald (pc := 46) hC (sh_3 hf) dX4_isWord_46 (fun v3 _ => ?_)
      refine GR_aload_n (pc := 47) hC dX4_isWord_47 rfl rfl ?_
      refine GR_iload_n (pc := 48) hC dX4_isWord_48 rfl rfl ?_
      refine GR_schar (pc := 49) hC hw1 ML_RX4_21 (by decide) (Nat.le_of_ble_eq_true rfl) dX4_isWord_49 (fun v4 => ?_)
      refine GR_icmp_eq (pc := 52) (tgt := 57) hC dX4_isWord_52 (by decide) ?_ ?_
      · refine GR_iinc (pc := 57) (w := 1) (L' := [some (gr P 2), some (gsr P w1), some (.int (x2 + 1))]) hC dX4_isWord_57 rfl rfl (by decide) rfl rfl ?_
        refine GR_goto (pc := 60) (tgt := 28) hC dX4_isWord_60 (by decide) ?_
        exact GR.less (ih _) (g_le_at (And.intro rfl (And.intro rfl (And.intro rfl trivial))))
      · refine GR_iconst (pc := 55) (v := 0) hC dX4_isWord_55 rfl ?_
        exact GR_zretCP (pc := 56) hC (Or.inl rfl) hr dX4_isWord_56
set_option maxRecDepth 20000 in
set_option maxHeartbeats 1000000 in
theorem k_X4_isWord {P : GP} {w1 : Nat}{g : GM} (hf : g_on P 166) (hw1 : w1 < 10) : KI P yX4_isWord cX4_isWord 3 (some .boolean) ⟨4, 0, 0, 110⟩ [gr P 2, gsr P w1] g ((f_X4_isWord g w1).map (fun r => (g, r))) := by
  refine KI.ofWP (by decide) rfl (Nat.le_of_ble_eq_true rfl) (fun X x hC hr => ?_)
  unfold f_X4_isWord
  change GR P X (g_QP P X g x) 0 0 _ 0 [some (gr P 2), some (gsr P w1), none] [] g x
  refine GR_aload_n (pc := 0) hC dX4_isWord_0 rfl rfl ?_
  refine GR_getI (pc := 1) hC F_RX4_48 (sh_2 hf) rfl dX4_isWord_1 ?_
  refine GR_iconst (pc := 4) (v := 1) hC dX4_isWord_4 rfl ?_
  refine GR_icmp_ne (pc := 5) (tgt := 24) hC dX4_isWord_5 (by decide) ?_ ?_
  · refine GR_iconst (pc := 24) (v := 0) hC dX4_isWord_24 rfl ?_
    exact GR_zretCP (pc := 25) hC (Or.inl rfl) hr dX4_isWord_25
  · refine GR_aload_n (pc := 8) hC dX4_isWord_8 rfl rfl ?_
    refine GR_getI (pc := 9) hC F_RX4_32 (sh_2 hf) rfl dX4_isWord_9 ?_
    refine GR_aload_n (pc := 12) hC dX4_isWord_12 rfl rfl ?_
    refine GR_getI (pc := 13) hC F_RX4_38 (sh_2 hf) rfl dX4_isWord_13 ?_
    refine GR_isub (pc := 16) hC dX4_isWord_16 ?_
    refine GR_aload_n (pc := 17) hC dX4_isWord_17 rfl rfl ?_
    refine GR_slen (pc := 18) hC hw1 ML_RX4_15 (by decide) (Nat.le_of_ble_eq_true rfl) dX4_isWord_18 (fun v1 => ?_)
    refine GR_icmp_eq (pc := 21) (tgt := 26) hC dX4_isWord_21 (by decide) ?_ ?_
    · refine GR_iconst (pc := 26) (v := 0) hC dX4_isWord_26 rfl ?_
      refine GR_istore_n (pc := 27) (L' := [some (gr P 2), some (gsr P w1), some (.int 0)]) hC dX4_isWord_27 rfl (by decide) rfl rfl ?_
      refine GR.less (lfL_X4_isWord_28 hC hf hw1 hr ?_ fu _) (g_le_at (And.intro rfl (And.intro rfl (And.intro rfl trivial))))
      refine GR_iconst (pc := 63) (v := 1) hC dX4_isWord_63 rfl ?_
      exact GR_zretCP (pc := 64) hC (Or.inr rfl) hr dX4_isWord_64
    · refine GR_iconst (pc := 24) (v := 0) hC dX4_isWord_24 rfl ?_
      exact GR_zretCP (pc := 25) hC (Or.inl rfl) hr dX4_isWord_25
